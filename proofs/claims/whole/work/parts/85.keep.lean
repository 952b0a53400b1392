/-! pure: texts: how each sort ends, is kept, is stored -/
def E0_ (i : Nat) (m : ev_m) (R : Nat → Int32) : Prop := cc_S m i R ∧ pu_okS R
def cr0_ (r : Nat) : Prop := (r = 3 ∨ r = 12)
def E1_ (i : Nat) (m : ev_m) (R : Nat → Int32) : Prop := cc_D m i R ∧ pu_okD R
def cr1_ (r : Nat) : Prop := (r = 4 ∨ r = 13 ∨ r = 14)
def E2_ (i : Nat) (m : ev_m) (R : Nat → Int32) : Prop := cp_P m i R ∧ pu_okP R
def cr2_ (r : Nat) : Prop := (r = 5 ∨ r = 15)
def E3_ (i : Nat) (m : ev_m) (R : Nat → Int32) : Prop := cp_W m i R ∧ pu_okW R
def cr3_ (r : Nat) : Prop := (r = 6 ∨ r = 16 ∨ r = 17)
theorem E0_fr (i : Nat) (m m' : ev_m) (R : Nat → Int32) (h : E0_ i m R) (hF : ∀ r j, cr0_ r → m'.1 r i j = m.1 r i j) : E0_ i m' R :=
  ⟨⟨fun k hk => (hF 3 k (Or.inl rfl)).trans (h.1.1 k hk), fun k hk => (hF 12 k (Or.inr rfl)).trans (h.1.2 k hk)⟩, h.2⟩
theorem E1_fr (i : Nat) (m m' : ev_m) (R : Nat → Int32) (h : E1_ i m R) (hF : ∀ r j, cr1_ r → m'.1 r i j = m.1 r i j) : E1_ i m' R :=
  ⟨⟨fun k hk => (hF 4 k (Or.inl rfl)).trans (h.1.1 k hk), fun k hk => ⟨(hF 13 k (Or.inr (Or.inl rfl))).trans (h.1.2 k hk).1, (hF 14 k (Or.inr (Or.inr rfl))).trans (h.1.2 k hk).2⟩⟩, h.2⟩
theorem E2_fr (i : Nat) (m m' : ev_m) (R : Nat → Int32) (h : E2_ i m R) (hF : ∀ r j, cr2_ r → m'.1 r i j = m.1 r i j) : E2_ i m' R :=
  ⟨⟨(hF 5 1 (Or.inl rfl)).trans h.1.1, fun k hk => (hF 15 k (Or.inr rfl)).trans (h.1.2 k hk)⟩, h.2⟩
theorem E3_fr (i : Nat) (m m' : ev_m) (R : Nat → Int32) (h : E3_ i m R) (hF : ∀ r j, cr3_ r → m'.1 r i j = m.1 r i j) : E3_ i m' R :=
  ⟨⟨(hF 6 2 (Or.inl rfl)).trans h.1.1, fun k hk => ⟨(hF 16 k (Or.inr (Or.inl rfl))).trans (h.1.2 k hk).1, (hF 17 k (Or.inr (Or.inr rfl))).trans (h.1.2 k hk).2⟩⟩, h.2⟩
theorem te_none {so : Int32} {m M : ev_m} (h : so ≠ 2) : jn_X4_take_114 m 0 so 1 = some m ∧ jn_X10_readText_133 M 0 so 1 = jn_X10_readText_167 M 0 1 := by
  unfold jn_X4_take_114 jn_X10_readText_133
  rw [if_neg (by decide), if_neg h, if_neg (by decide), if_neg h]
  exact ⟨rfl, rfl⟩
theorem te_ship : TE_ 0 JS_ (E0_ 9) := by
  refine ⟨fun B L m M t s hB h g hJ => ?_, fun m M hd hr => ?_⟩
  · obtain ⟨a1, a2⟩ := te_none (so := 0) (m := m) (M := M) (by decide)
    obtain ⟨c, ⟨d0, d1, d2, d3⟩, hc1, hp⟩ := hJ
    refine ⟨m, M, s, a1, h.2.2.1, h.2.2.2.2, a2, g.2.2.1, rfl, fun _ _ _ _ _ => rfl, fun q => ⟨⟨d2, fun k hk => ?_⟩, ?_⟩, fun _ _ _ _ => rfl⟩
    · rw [d1, nI_clamp (by omega)] at hk
      exact d3 k hk
    · obtain ⟨p2, p3, p4, p5, p8⟩ := hp q
      exact ⟨p2, p3, p4, p5, p8, c, hc1, d0, d1⟩
  · refine ⟨1, ⟨by decide, hr 10 (by decide), fun k hk => by rw [hd.1 k hk, hr k (by omega)]; rfl, fun k hk => ?_⟩, by decide, fun _ => ?_⟩
    · rw [show k = 0 by omega, hd.2.1, hr 11 (by decide)]
      rfl
    · unfold pS_
      rw [hr 2 (by decide), hr 3 (by decide), hr 4 (by decide), hr 5 (by decide), hr 8 (by decide)]
      decide
theorem te_hand : TE_ 1 JD_ (E1_ 17) := by
  refine ⟨fun B L m M t s hB h g hJ => ?_, fun m M hd hr => ?_⟩
  · obtain ⟨a1, a2⟩ := te_none (so := 1) (m := m) (M := M) (by decide)
    obtain ⟨c, ⟨d0, d1, d2, d3⟩, hp⟩ := hJ
    refine ⟨m, M, s, a1, h.2.2.1, h.2.2.2.2, a2, g.2.2.1, rfl, fun _ _ _ _ _ => rfl, fun q => ⟨⟨d2, fun k hk => ?_⟩, ?_⟩, fun _ _ _ _ => rfl⟩
    · rw [d1, nI_clamp (by omega)] at hk
      exact d3 k hk
    · obtain ⟨p3, p4, p6, p8⟩ := hp q
      exact ⟨p3, p4, p6, p8, c, d0, d1⟩
  · refine ⟨0, ⟨by decide, hr 9 (by decide), fun k hk => by rw [hd.2.2.1 k hk, hr k (by omega)]; rfl, fun k hk => absurd hk (Nat.not_lt_zero k)⟩, fun _ => ?_⟩
    unfold pD_
    rw [hr 3 (by decide), hr 4 (by decide), hr 6 (by decide), hr 8 (by decide)]
    decide
theorem te_paper : TE_ 2 JP_ (E2_ 8) := by
  refine ⟨fun B L m M t s hB h g hJ => ?_, fun m M hd hr => ?_⟩
  · obtain ⟨c, ⟨d0, d1, d2, d3⟩, hc0, hp⟩ := hJ
    have hb := tk_b hB h.2.2.2.1
    have hL := hB.1
    by_cases hc : c = 0
    · have hs := hc0 hc
      subst hc
      obtain ⟨n1, n2⟩ := RC_.note (f := 4) (p := t.1) h (by decide) (by decide) (by omega)
      obtain ⟨l1, l2⟩ := RR_.later (f := 4) (p := t.1) g (by decide) (by decide) (by omega)
      refine ⟨s_X4_note m 0 (nI 4) (nI t.1), s_X10_later M 0 (nI 4) (nI t.1), nt_ 4 t.1 s, ?_, n1.2.2.1, n1.2.2.2.2, ?_, l1.2.2.1, funext fun k => l2 39 0 k (by omega), fun r i k q _ => l2 r i k (by omega), fun q => absurd q (nt_ne (by decide)), fun r i k q => n2 r i k (by unfold xc_ at q; omega)⟩
      · unfold jn_X4_take_114
        rw [if_neg (by decide), if_pos rfl, d2, if_pos (show nI 0 = 0 from rfl), h.1.1, pq_let]
        rfl
      · unfold jn_X10_readText_133
        rw [if_neg (by decide), if_pos rfl, d1, if_pos (show nI 0 = 0 from rfl), g.2.2.1.1, hs, if_pos (show nI 0 = 0 from rfl), g.1.1, pq_let]
        rfl
    · refine ⟨m, M, s, ?_, h.2.2.1, h.2.2.2.2, ?_, g.2.2.1, rfl, fun _ _ _ _ _ => rfl, fun q => ⟨⟨d2.trans d1.symm, fun k hk => ?_⟩, c, by omega, d0, d1, fun k hk => hp q k hk⟩, fun _ _ _ _ => rfl⟩
      · unfold jn_X4_take_114
        rw [if_neg (by decide), if_pos rfl, d2, if_neg (nI_ne0 (by omega) (by omega))]
      · unfold jn_X10_readText_133
        rw [if_neg (by decide), if_pos rfl, d1, if_neg (nI_ne0 (by omega) (by omega))]
      · rw [d1, nI_clamp (by omega)] at hk
        exact d3 k hk
  · exact ⟨0, ⟨by decide, hr 0 (by decide), hd.2.2.2.1, fun k hk => absurd hk (Nat.not_lt_zero k)⟩, fun _ => rfl, fun _ k hk => absurd hk (Nat.not_lt_zero k)⟩
theorem te_watch : TE_ 3 JW_ (E3_ 8) := by
  refine ⟨fun B L m M t s hB h g hJ => ?_, fun m M hd hr => ?_⟩
  · obtain ⟨a1, a2⟩ := te_none (so := 3) (m := m) (M := M) (by decide)
    obtain ⟨c, ⟨d0, d1, d2, d3⟩, hp⟩ := hJ
    refine ⟨m, M, s, a1, h.2.2.1, h.2.2.2.2, a2, g.2.2.1, rfl, fun _ _ _ _ _ => rfl, fun q => ⟨⟨d2.trans d1.symm, fun k hk => ?_⟩, c, d0, d1, fun k hk => hp q k hk⟩, fun _ _ _ _ => rfl⟩
    rw [d1, nI_clamp (by omega)] at hk
    exact d3 k hk
  · exact ⟨0, ⟨by decide, hr 0 (by decide), hd.2.2.2.2, fun k hk => absurd hk (Nat.not_lt_zero k)⟩, fun _ k hk => absurd hk (Nat.not_lt_zero k)⟩
theorem keep_ship (c k : Nat) (hk : k < 2) (hc : c ≤ 2) (m6 : ev_m) (R : Nat → Int32) (h1 : m6.1 1 0 3 = nI c) (hE : E0_ 9 m6 R) : ∃ m8, f_X0_keep m6 0 (nI 0) (nI k) (some 0) = some m8 ∧ m8.1 1 0 3 = nI (if c < k + 1 then k + 1 else c) ∧ E0_ k m8 R ∧ ∀ r i j, ¬ (cr0_ r ∧ i = k) → ¬ (r = 1 ∧ i = 0 ∧ j = 3) → m8.1 r i j = m6.1 r i j := by
  have hv : (if nI c < nI k + 1 then nI k + 1 else nI c : Int32) = nI (if c < k + 1 then k + 1 else c) := by
    rw [nI_1]
    by_cases q : c < k + 1
    · rw [if_pos (nI_lt q (by omega)), if_pos q]
    · rw [if_neg (nI_nlt (by omega) (by omega)), if_neg q]
  have hd : k < (if c < k + 1 then k + 1 else c) ∧ (if c < k + 1 then k + 1 else c) ≤ 2 := by split <;> omega
  generalize (if c < k + 1 then k + 1 else c) = d at *
  obtain ⟨hd1, hd2⟩ := hd
  have h12 : (ev_pim m6 1 0 3 (nI d)).1 1 0 3 = nI d := by rw [pq_pim, if_pos ⟨rfl, rfl, rfl⟩]
  have hE2 : E0_ 9 (ev_pim m6 1 0 3 (nI d)) R := E0_fr _ _ _ _ hE (fun r j q => by
    unfold cr0_ at q
    rw [pq_pim, if_neg (by omega)])
  obtain ⟨m8, e, x1, x2, x3, -⟩ := cl_copyS (m := ev_pim m6 1 0 3 (nI d)) (i := k) (j := 9) (by omega)
  refine ⟨m8, ?_, ?_, ⟨cl_copySR hE2.2 hE2.1 x1 x2, hE2.2⟩, fun r i j q q2 => ?_⟩
  · unfold f_X0_keep f_X0_copyShip
    rw [pq_on1, if_pos (show nI 0 = 0 from rfl), h1, hv, pq_let, cl_shipAt_t h12 hd2 hd1, pq_sb, pq_on1, show 2 * 0 + k = k by omega, e, pq_sb, pq_sb]
  · rw [x3 1 0 3 (by omega)]
    exact h12
  · unfold cr0_ at q
    rw [x3 r i j q, pq_pim, if_neg q2]
theorem keep_hand (c k : Nat) (hk : k < 4) (hc : c ≤ 4) (m6 : ev_m) (R : Nat → Int32) (h1 : m6.1 1 0 4 = nI c) (hE : E1_ 17 m6 R) : ∃ m8, f_X0_keep m6 0 (nI 1) (nI k) (some 0) = some m8 ∧ m8.1 1 0 4 = nI (if c < k + 1 then k + 1 else c) ∧ E1_ k m8 R ∧ ∀ r i j, ¬ (cr1_ r ∧ i = k) → ¬ (r = 1 ∧ i = 0 ∧ j = 4) → m8.1 r i j = m6.1 r i j := by
  have hv : (if nI c < nI k + 1 then nI k + 1 else nI c : Int32) = nI (if c < k + 1 then k + 1 else c) := by
    rw [nI_1]
    by_cases q : c < k + 1
    · rw [if_pos (nI_lt q (by omega)), if_pos q]
    · rw [if_neg (nI_nlt (by omega) (by omega)), if_neg q]
  have hd : k < (if c < k + 1 then k + 1 else c) ∧ (if c < k + 1 then k + 1 else c) ≤ 4 := by split <;> omega
  generalize (if c < k + 1 then k + 1 else c) = d at *
  obtain ⟨hd1, hd2⟩ := hd
  have h12 : (ev_pim m6 1 0 4 (nI d)).1 1 0 4 = nI d := by rw [pq_pim, if_pos ⟨rfl, rfl, rfl⟩]
  have hE2 : E1_ 17 (ev_pim m6 1 0 4 (nI d)) R := E1_fr _ _ _ _ hE (fun r j q => by
    unfold cr1_ at q
    rw [pq_pim, if_neg (by omega)])
  obtain ⟨m8, e, x1, x2, x3, -⟩ := cl_copyH (m := ev_pim m6 1 0 4 (nI d)) (i := k) (j := 17) (by omega) (by rw [hE2.1.1 8 (by decide)]; exact hE2.2.2.2.2.1)
  refine ⟨m8, ?_, ?_, ⟨cl_copyHR hE2.2 hE2.1 x1 x2, hE2.2⟩, fun r i j q q2 => ?_⟩
  · unfold f_X0_keep f_X0_copyHand
    rw [pq_on1, if_neg (show ¬ nI 1 = 0 by decide), if_pos (show nI 1 = 1 from rfl), h1, hv, pq_let, cl_handAt_t h12 hd2 hd1, pq_sb, pq_on1, show 4 * 0 + k = k by omega, e, pq_sb, pq_sb]
  · rw [x3 1 0 4 (by omega)]
    exact h12
  · unfold cr1_ at q
    rw [x3 r i j q, pq_pim, if_neg q2]
theorem keep_paper (c k : Nat) (hk : k < 2) (hc : c ≤ 2) (m6 : ev_m) (R : Nat → Int32) (h1 : m6.1 1 0 5 = nI c) (hE : E2_ 8 m6 R) : ∃ m8, f_X0_keep m6 0 (nI 2) (nI k) (some 0) = some m8 ∧ m8.1 1 0 5 = nI (if c < k + 1 then k + 1 else c) ∧ E2_ k m8 R ∧ ∀ r i j, ¬ (cr2_ r ∧ i = k) → ¬ (r = 1 ∧ i = 0 ∧ j = 5) → m8.1 r i j = m6.1 r i j := by
  have hv : (if nI c < nI k + 1 then nI k + 1 else nI c : Int32) = nI (if c < k + 1 then k + 1 else c) := by
    rw [nI_1]
    by_cases q : c < k + 1
    · rw [if_pos (nI_lt q (by omega)), if_pos q]
    · rw [if_neg (nI_nlt (by omega) (by omega)), if_neg q]
  have hd : k < (if c < k + 1 then k + 1 else c) ∧ (if c < k + 1 then k + 1 else c) ≤ 2 := by split <;> omega
  generalize (if c < k + 1 then k + 1 else c) = d at *
  obtain ⟨hd1, hd2⟩ := hd
  have h12 : (ev_pim m6 1 0 5 (nI d)).1 1 0 5 = nI d := by rw [pq_pim, if_pos ⟨rfl, rfl, rfl⟩]
  have hE2 : E2_ 8 (ev_pim m6 1 0 5 (nI d)) R := E2_fr _ _ _ _ hE (fun r j q => by
    unfold cr2_ at q
    rw [pq_pim, if_neg (by omega)])
  obtain ⟨x1, x2, x3⟩ := cl_copyP (ev_pim m6 1 0 5 (nI d)) k 8 (by omega)
  obtain ⟨e1, e2⟩ := hE2
  obtain ⟨c', c1, c2, c3, c4⟩ := id e2
  refine ⟨s_X3_copy (ev_pim m6 1 0 5 (nI d)) k (some 8), ?_, ?_, ⟨⟨x1.trans e1.1, fun j hj => ?_⟩, e2⟩, fun r i j q q2 => ?_⟩
  · unfold f_X0_keep f_X0_copyPaper
    rw [pq_on1, if_neg (show ¬ nI 2 = 0 by decide), if_neg (show ¬ nI 2 = 1 by decide), if_pos (show nI 2 = 2 from rfl), h1, hv, pq_let, cl_paperAt_t h12 hd2 hd1, pq_sb, pq_on1, show 2 * 0 + k = k by omega, pq_let, pq_sb]
  · rw [x3 1 0 5 (by omega)]
    exact h12
  · rw [x2 j (by rw [c3, nI_clamp (by omega)] at hj; omega)]
    exact e1.2 j hj
  · unfold cr2_ at q
    rw [x3 r i j q, pq_pim, if_neg q2]
theorem keep_watch (c k : Nat) (hk : k < 2) (hc : c ≤ 2) (m6 : ev_m) (R : Nat → Int32) (h1 : m6.1 1 0 6 = nI c) (hE : E3_ 8 m6 R) : ∃ m8, f_X0_keep m6 0 (nI 3) (nI k) (some 0) = some m8 ∧ m8.1 1 0 6 = nI (if c < k + 1 then k + 1 else c) ∧ E3_ k m8 R ∧ ∀ r i j, ¬ (cr3_ r ∧ i = k) → ¬ (r = 1 ∧ i = 0 ∧ j = 6) → m8.1 r i j = m6.1 r i j := by
  have hv : (if nI c < nI k + 1 then nI k + 1 else nI c : Int32) = nI (if c < k + 1 then k + 1 else c) := by
    rw [nI_1]
    by_cases q : c < k + 1
    · rw [if_pos (nI_lt q (by omega)), if_pos q]
    · rw [if_neg (nI_nlt (by omega) (by omega)), if_neg q]
  have hd : k < (if c < k + 1 then k + 1 else c) ∧ (if c < k + 1 then k + 1 else c) ≤ 2 := by split <;> omega
  generalize (if c < k + 1 then k + 1 else c) = d at *
  obtain ⟨hd1, hd2⟩ := hd
  have h12 : (ev_pim m6 1 0 6 (nI d)).1 1 0 6 = nI d := by rw [pq_pim, if_pos ⟨rfl, rfl, rfl⟩]
  have hE2 : E3_ 8 (ev_pim m6 1 0 6 (nI d)) R := E3_fr _ _ _ _ hE (fun r j q => by
    unfold cr3_ at q
    rw [pq_pim, if_neg (by omega)])
  obtain ⟨x1, x2, x3⟩ := cl_copyW (ev_pim m6 1 0 6 (nI d)) k 8 (by omega)
  obtain ⟨e1, e2⟩ := hE2
  obtain ⟨c', c2, c3, c4⟩ := id e2
  refine ⟨s_X7_copy (ev_pim m6 1 0 6 (nI d)) k (some 8), ?_, ?_, ⟨⟨x1.trans e1.1, fun j hj => ?_⟩, e2⟩, fun r i j q q2 => ?_⟩
  · unfold f_X0_keep f_X0_copyWatch
    rw [pq_on1, if_neg (show ¬ nI 3 = 0 by decide), if_neg (show ¬ nI 3 = 1 by decide), if_neg (show ¬ nI 3 = 2 by decide), if_pos (show nI 3 = 3 from rfl), h1, hv, pq_let, cl_watchAt_t h12 hd2 hd1, pq_sb, pq_on1, show 2 * 0 + k = k by omega, pq_let, pq_sb]
  · rw [x3 1 0 6 (by omega)]
    exact h12
  · have hj8 : j < 8 := by rw [c3, nI_clamp (by omega)] at hj; omega
    rw [(x2 j hj8).1, (x2 j hj8).2]
    exact e1.2 j hj
  · unfold cr3_ at q
    rw [x3 r i j q, pq_pim, if_neg q2]
theorem st_ship {k : Nat} {kx : ev_m → Option ev_m} (hk : k < 2) : ∀ n f i m, i + n = 23 → n < f → ∃ m', lp_X10_store_2 0 (nI 0) (nI k) f (nI i) m kx = kx m' ∧ (∀ c, i ≤ c → c < 23 → m'.1 35 0 (23 * k + c) = m.1 39 0 c) ∧ (∀ r x c, ¬ (r = 35 ∧ x = 0 ∧ 23 * k + i ≤ c ∧ c < 23 * k + 23) → m'.1 r x c = m.1 r x c) := by
  intro n
  induction n with
  | zero =>
    intro f i m hi hf
    obtain ⟨g, rfl⟩ : ∃ g, f = g + 1 := ⟨f - 1, by omega⟩
    rw [lp_X10_store_2, if_neg (show ¬ nI i < 23 from nI_nlt (b := 23) (by omega) (by omega))]
    exact ⟨m, rfl, fun c h1 h2 => by omega, fun _ _ _ _ => rfl⟩
  | succ n ih =>
    intro f i m hi hf
    obtain ⟨g, rfl⟩ : ∃ g, f = g + 1 := ⟨f - 1, by omega⟩
    rw [lp_X10_store_2, if_pos (show nI i < 23 from nI_lt (b := 23) (by omega) (by omega)), if_pos (show nI 0 = 0 from rfl), iN_39 (by omega), pq_sb, show (23 : Int32) = nI 23 from rfl, pk_mul, nI_add, pq_ast (by omega) (by decide), pq_sb, nI_1]
    obtain ⟨m', e, h1, h2⟩ := ih g (i + 1) (ev_pim m 35 0 (23 * k + i) (m.1 39 0 i)) (by omega) (by omega)
    refine ⟨m', e, fun c a1 a2 => ?_, fun r x c hn => ?_⟩
    · by_cases q : c = i
      · rw [h2 35 0 _ (by omega), pq_pim, if_pos ⟨rfl, rfl, by omega⟩, q]
      · rw [h1 c (by omega) a2, pq_pim, if_neg (by omega)]
    · rw [h2 r x c (by omega), pq_pim, if_neg (by omega)]
theorem sk_ship {so : Int32} {x : Int32} {m : ev_m} {kx : ev_m → Option ev_m} (h : so ≠ 0) : lp_X10_store_2 0 so x 4000 0 m kx = kx m := by
  rw [show (4000 : Nat) = 3999 + 1 from rfl, lp_X10_store_2, if_pos (by decide), if_neg h]
theorem st_hand {k : Nat} {kx : ev_m → Option ev_m} (hk : k < 4) : ∀ n f i m, i + n = 18 → n < f → ∃ m', lp_X10_store_37 0 (nI 1) (nI k) f (nI i) m kx = kx m' ∧ (∀ c, i ≤ c → c < 18 → m'.1 36 0 (18 * k + c) = m.1 39 0 c) ∧ (∀ r x c, ¬ (r = 36 ∧ x = 0 ∧ 18 * k + i ≤ c ∧ c < 18 * k + 18) → m'.1 r x c = m.1 r x c) := by
  intro n
  induction n with
  | zero =>
    intro f i m hi hf
    obtain ⟨g, rfl⟩ : ∃ g, f = g + 1 := ⟨f - 1, by omega⟩
    rw [lp_X10_store_37, if_neg (show ¬ nI i < 18 from nI_nlt (b := 18) (by omega) (by omega))]
    exact ⟨m, rfl, fun c h1 h2 => by omega, fun _ _ _ _ => rfl⟩
  | succ n ih =>
    intro f i m hi hf
    obtain ⟨g, rfl⟩ : ∃ g, f = g + 1 := ⟨f - 1, by omega⟩
    rw [lp_X10_store_37, if_pos (show nI i < 18 from nI_lt (b := 18) (by omega) (by omega)), if_pos (show nI 1 = 1 from rfl), iN_39 (by omega), pq_sb, show (18 : Int32) = nI 18 from rfl, pk_mul, nI_add, pq_ast (by omega) (by decide), pq_sb, nI_1]
    obtain ⟨m', e, h1, h2⟩ := ih g (i + 1) (ev_pim m 36 0 (18 * k + i) (m.1 39 0 i)) (by omega) (by omega)
    refine ⟨m', e, fun c a1 a2 => ?_, fun r x c hn => ?_⟩
    · by_cases q : c = i
      · rw [h2 36 0 _ (by omega), pq_pim, if_pos ⟨rfl, rfl, by omega⟩, q]
      · rw [h1 c (by omega) a2, pq_pim, if_neg (by omega)]
    · rw [h2 r x c (by omega), pq_pim, if_neg (by omega)]
theorem sk_hand {so : Int32} {x : Int32} {m : ev_m} {kx : ev_m → Option ev_m} (h : so ≠ 1) : lp_X10_store_37 0 so x 4000 0 m kx = kx m := by
  rw [show (4000 : Nat) = 3999 + 1 from rfl, lp_X10_store_37, if_pos (by decide), if_neg h]
theorem st_paper {k : Nat} {kx : ev_m → Option ev_m} (hk : k < 2) : ∀ n f i m, i + n = 61 → n < f → ∃ m', lp_X10_store_73 0 (nI 2) (nI k) f (nI i) m kx = kx m' ∧ (∀ c, i ≤ c → c < 61 → m'.1 37 0 (61 * k + c) = m.1 39 0 c) ∧ (∀ r x c, ¬ (r = 37 ∧ x = 0 ∧ 61 * k + i ≤ c ∧ c < 61 * k + 61) → m'.1 r x c = m.1 r x c) := by
  intro n
  induction n with
  | zero =>
    intro f i m hi hf
    obtain ⟨g, rfl⟩ : ∃ g, f = g + 1 := ⟨f - 1, by omega⟩
    rw [lp_X10_store_73, if_neg (show ¬ nI i < 61 from nI_nlt (b := 61) (by omega) (by omega))]
    exact ⟨m, rfl, fun c h1 h2 => by omega, fun _ _ _ _ => rfl⟩
  | succ n ih =>
    intro f i m hi hf
    obtain ⟨g, rfl⟩ : ∃ g, f = g + 1 := ⟨f - 1, by omega⟩
    rw [lp_X10_store_73, if_pos (show nI i < 61 from nI_lt (b := 61) (by omega) (by omega)), if_pos (show nI 2 = 2 from rfl), iN_39 (by omega), pq_sb, show (61 : Int32) = nI 61 from rfl, pk_mul, nI_add, pq_ast (by omega) (by decide), pq_sb, nI_1]
    obtain ⟨m', e, h1, h2⟩ := ih g (i + 1) (ev_pim m 37 0 (61 * k + i) (m.1 39 0 i)) (by omega) (by omega)
    refine ⟨m', e, fun c a1 a2 => ?_, fun r x c hn => ?_⟩
    · by_cases q : c = i
      · rw [h2 37 0 _ (by omega), pq_pim, if_pos ⟨rfl, rfl, by omega⟩, q]
      · rw [h1 c (by omega) a2, pq_pim, if_neg (by omega)]
    · rw [h2 r x c (by omega), pq_pim, if_neg (by omega)]
theorem sk_paper {so : Int32} {x : Int32} {m : ev_m} {kx : ev_m → Option ev_m} (h : so ≠ 2) : lp_X10_store_73 0 so x 4000 0 m kx = kx m := by
  rw [show (4000 : Nat) = 3999 + 1 from rfl, lp_X10_store_73, if_pos (by decide), if_neg h]
theorem st_watch {k : Nat} {kx : ev_m → Option ev_m} (hk : k < 2) : ∀ n f i m, i + n = 17 → n < f → ∃ m', lp_X10_store_109 0 (nI 3) (nI k) f (nI i) m kx = kx m' ∧ (∀ c, i ≤ c → c < 17 → m'.1 38 0 (17 * k + c) = m.1 39 0 c) ∧ (∀ r x c, ¬ (r = 38 ∧ x = 0 ∧ 17 * k + i ≤ c ∧ c < 17 * k + 17) → m'.1 r x c = m.1 r x c) := by
  intro n
  induction n with
  | zero =>
    intro f i m hi hf
    obtain ⟨g, rfl⟩ : ∃ g, f = g + 1 := ⟨f - 1, by omega⟩
    rw [lp_X10_store_109, if_neg (show ¬ nI i < 17 from nI_nlt (b := 17) (by omega) (by omega))]
    exact ⟨m, rfl, fun c h1 h2 => by omega, fun _ _ _ _ => rfl⟩
  | succ n ih =>
    intro f i m hi hf
    obtain ⟨g, rfl⟩ : ∃ g, f = g + 1 := ⟨f - 1, by omega⟩
    rw [lp_X10_store_109, if_pos (show nI i < 17 from nI_lt (b := 17) (by omega) (by omega)), if_pos (show nI 3 = 3 from rfl), iN_39 (by omega), pq_sb, show (17 : Int32) = nI 17 from rfl, pk_mul, nI_add, pq_ast (by omega) (by decide), pq_sb, nI_1]
    obtain ⟨m', e, h1, h2⟩ := ih g (i + 1) (ev_pim m 38 0 (17 * k + i) (m.1 39 0 i)) (by omega) (by omega)
    refine ⟨m', e, fun c a1 a2 => ?_, fun r x c hn => ?_⟩
    · by_cases q : c = i
      · rw [h2 38 0 _ (by omega), pq_pim, if_pos ⟨rfl, rfl, by omega⟩, q]
      · rw [h1 c (by omega) a2, pq_pim, if_neg (by omega)]
    · rw [h2 r x c (by omega), pq_pim, if_neg (by omega)]
theorem sk_watch {so : Int32} {x : Int32} {m : ev_m} {kx : ev_m → Option ev_m} (h : so ≠ 3) : lp_X10_store_109 0 so x 4000 0 m kx = kx m := by
  rw [show (4000 : Nat) = 3999 + 1 from rfl, lp_X10_store_109, if_pos (by decide), if_neg h]
theorem store_ship {k : Nat} (hk : k < 2) (M : ev_m) : ∃ M', f_X10_store M 0 (nI 0) (nI k) = some M' ∧ (∀ j, j < 23 → M'.1 35 0 (23 * k + j) = M.1 39 0 j) ∧ ∀ r i j, ¬ (r = 35 ∧ i = 0 ∧ 23 * k ≤ j ∧ j < 23 * k + 23) → M'.1 r i j = M.1 r i j := by
  obtain ⟨M', e, h1, h2⟩ := st_ship (kx := fun m10 => (jn_X10_store_35 m10 0 (nI 0) (nI k))) hk 23 4000 0 M (by decide) (by decide)
  refine ⟨M', ?_, fun j hj => h1 j (Nat.zero_le _) hj, fun r i j q => h2 r i j (by omega)⟩
  unfold f_X10_store
  rw [show lp_X10_store_2 0 (nI 0) (nI k) 4000 0 M _ = _ from e]
  unfold jn_X10_store_35
  rw [sk_hand (by decide)]
  unfold jn_X10_store_71
  rw [sk_paper (by decide)]
  unfold jn_X10_store_107
  rw [sk_watch (by decide)]
theorem store_hand {k : Nat} (hk : k < 4) (M : ev_m) : ∃ M', f_X10_store M 0 (nI 1) (nI k) = some M' ∧ (∀ j, j < 18 → M'.1 36 0 (18 * k + j) = M.1 39 0 j) ∧ ∀ r i j, ¬ (r = 36 ∧ i = 0 ∧ 18 * k ≤ j ∧ j < 18 * k + 18) → M'.1 r i j = M.1 r i j := by
  obtain ⟨M', e, h1, h2⟩ := st_hand (kx := fun m24 => (jn_X10_store_71 m24 0 (nI 1) (nI k))) hk 18 4000 0 M (by decide) (by decide)
  refine ⟨M', ?_, fun j hj => h1 j (Nat.zero_le _) hj, fun r i j q => h2 r i j (by omega)⟩
  unfold f_X10_store
  rw [sk_ship (by decide)]
  unfold jn_X10_store_35
  rw [show lp_X10_store_37 0 (nI 1) (nI k) 4000 0 M _ = _ from e]
  unfold jn_X10_store_71
  rw [sk_paper (by decide)]
  unfold jn_X10_store_107
  rw [sk_watch (by decide)]
theorem store_paper {k : Nat} (hk : k < 2) (M : ev_m) : ∃ M', f_X10_store M 0 (nI 2) (nI k) = some M' ∧ (∀ j, j < 61 → M'.1 37 0 (61 * k + j) = M.1 39 0 j) ∧ ∀ r i j, ¬ (r = 37 ∧ i = 0 ∧ 61 * k ≤ j ∧ j < 61 * k + 61) → M'.1 r i j = M.1 r i j := by
  obtain ⟨M', e, h1, h2⟩ := st_paper (kx := fun m38 => (jn_X10_store_107 m38 0 (nI 2) (nI k))) hk 61 4000 0 M (by decide) (by decide)
  refine ⟨M', ?_, fun j hj => h1 j (Nat.zero_le _) hj, fun r i j q => h2 r i j (by omega)⟩
  unfold f_X10_store
  rw [sk_ship (by decide)]
  unfold jn_X10_store_35
  rw [sk_hand (by decide)]
  unfold jn_X10_store_71
  rw [show lp_X10_store_73 0 (nI 2) (nI k) 4000 0 M _ = _ from e]
  unfold jn_X10_store_107
  rw [sk_watch (by decide)]
theorem store_watch {k : Nat} (hk : k < 2) (M : ev_m) : ∃ M', f_X10_store M 0 (nI 3) (nI k) = some M' ∧ (∀ j, j < 17 → M'.1 38 0 (17 * k + j) = M.1 39 0 j) ∧ ∀ r i j, ¬ (r = 38 ∧ i = 0 ∧ 17 * k ≤ j ∧ j < 17 * k + 17) → M'.1 r i j = M.1 r i j := by
  obtain ⟨M', e, h1, h2⟩ := st_watch (kx := fun m52 => (some (m52))) hk 17 4000 0 M (by decide) (by decide)
  refine ⟨M', ?_, fun j hj => h1 j (Nat.zero_le _) hj, fun r i j q => h2 r i j (by omega)⟩
  unfold f_X10_store
  rw [sk_ship (by decide)]
  unfold jn_X10_store_35
  rw [sk_hand (by decide)]
  unfold jn_X10_store_71
  rw [sk_paper (by decide)]
  unfold jn_X10_store_107
  rw [show lp_X10_store_109 0 (nI 3) (nI k) 4000 0 M _ = _ from e]
