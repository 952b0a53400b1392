/-! pure: texts: the lines of a text -/
theorem ship_no {M : ev_m} {y : Int64} (hy : ∀ j, j < 22 → y ≠ W_ j) : f_X10_shipLine M 0 y = some (false, ev_pim M 10 0 16 (M.1 10 0 12)) := by
  unfold f_X10_shipLine
  rw [if_neg (show ¬ y = 1953854062 from hy 1 (by decide)), if_neg (show ¬ y = 1667329133 from hy 2 (by decide)), if_neg (show ¬ y = 7102823 from hy 3 (by decide)), if_neg (show ¬ y = 1836020596 from hy 4 (by decide)), if_neg (show ¬ y = 1734697330 from hy 5 (by decide)), if_neg (show ¬ y = 7501154 from hy 6 (by decide)), if_neg (show ¬ y = 2003398244 from hy 7 (by decide)), if_neg (show ¬ y = 1953655149 from hy 8 (by decide)), pq_let, if_pos rfl, if_neg (show ¬ y = 495873782388 from hy 9 (by decide)), if_neg (show ¬ y = 7562593 from hy 0 (by decide)), rf_stops, pq_let]
theorem hand_no {M : ev_m} {y : Int64} {x : Int32} (hy : ∀ j, j < 22 → y ≠ W_ j) : f_X10_handLine M 0 y x = some (false, ev_pim M 10 0 16 (M.1 10 0 12)) := by
  unfold f_X10_handLine
  rw [if_neg (show ¬ y = 6709618 from hy 11 (by decide)), if_neg (show ¬ y = 487301145451 from hy 12 (by decide)), if_neg (show ¬ y = 1650812270 from hy 13 (by decide)), if_neg (show ¬ y = 1684365668 from hy 14 (by decide)), if_neg (show ¬ y = 482905517684 from hy 15 (by decide)), if_neg (show ¬ y = 513021013607 from hy 16 (by decide)), if_neg (show ¬ y = 499985311076 from hy 17 (by decide)), if_neg (show ¬ y = 495740088435 from hy 18 (by decide)), pq_let, if_pos rfl, if_neg (show ¬ y = 1700885369 from hy 19 (by decide)), if_neg (show ¬ y = 1937006962 from hy 10 (by decide)), rf_stops, pq_let]
theorem paper_no {M : ev_m} {y : Int64} (hy : ∀ j, j < 22 → y ≠ W_ j) : f_X10_paperLine M 0 y = some (false, ev_pim M 10 0 16 (M.1 10 0 12)) := by
  unfold f_X10_paperLine
  rw [if_neg (show ¬ y = 7499639 from hy 20 (by decide)), rf_stops, pq_let]
theorem watch_no {M : ev_m} {y : Int64} {x : Int32} (hy : ∀ j, j < 22 → y ≠ W_ j) : f_X10_watchLine M 0 y x = some (false, ev_pim M 10 0 16 (M.1 10 0 12)) := by
  unfold f_X10_watchLine
  rw [if_neg (show ¬ y = 7168366 from hy 21 (by decide)), rf_stops, pq_let]
/-- a sort of texts: its lines, what its draft keeps to -/
def TS_ (so : Int32) (G : ev_m → Int64 → Int32 → Option (Bool × ev_m)) (J : Nat × Nat → ev_m → ev_m → Prop) : Prop :=
  (∀ (B : Nat → Int32) (L : Nat) (m M : ev_m) (t : Nat × Nat × Int32) (s : Nat × Nat), okB_ B L → RC_ m B L t s → RR_ M B L t s → J s m M → t.2.2 = 1 → ∃ b m' M', f_X4_takeLine m 0 so = some (b, m') ∧ G M (wo_ B t) (nI t.1) = some (b, M') ∧ LN_ B L t.2.1 J m M m' M' b) ∧
  (∀ M y x, (∀ j, j < 22 → y ≠ W_ j) → G M y x = some (false, ev_pim M 10 0 16 (M.1 10 0 12))) ∧
  (∀ g M kx, M.1 10 0 13 ≠ 0 → lp_X10_readText_21 0 so (g + 1) 1 M kx = (G M (if M.1 10 0 13 = 2 then M.2.1 10 0 15 else 0) (M.1 10 0 12)).bind (fun p => jn_X10_readText_104_21 p.2 0 so p.1 (fun z0 z1 => lp_X10_readText_21 0 so g z0 z1 kx) kx)) ∧
  (∀ s m m' M M', J s m M → (∀ r i k, ¬ (r = 7 ∧ i = 0) → m'.1 r i k = m.1 r i k) → (∀ r i k, ¬ (r = 10 ∧ i = 0) → M'.1 r i k = M.1 r i k) → J s m' M')
theorem ts_ship : TS_ 0 (fun M y _ => f_X10_shipLine M 0 y) JS_ :=
  ⟨fun B L m M t s hB h g hJ hk => ship_line hB h g hJ hk, fun M y x hy => ship_no hy, fun g M kx h => by
    rw [lp_X10_readText_21, if_neg (by decide), if_neg h, pq_let, pq_let, if_pos rfl], fun s m m' M M' h hc hr => h.fr hc hr⟩
theorem ts_hand : TS_ 1 (fun M y x => f_X10_handLine M 0 y x) JD_ :=
  ⟨fun B L m M t s hB h g hJ hk => hand_line hB h g hJ hk, fun M y x hy => hand_no hy, fun g M kx h => by
    rw [lp_X10_readText_21, if_neg (by decide), if_neg h, pq_let, pq_let, if_neg (by decide), if_pos rfl], fun s m m' M M' h hc hr => h.fr hc hr⟩
theorem ts_paper : TS_ 2 (fun M y _ => f_X10_paperLine M 0 y) JP_ :=
  ⟨fun B L m M t s hB h g hJ hk => paper_line hB h g hJ hk, fun M y x hy => paper_no hy, fun g M kx h => by
    rw [lp_X10_readText_21, if_neg (by decide), if_neg h, pq_let, pq_let, if_neg (by decide), if_neg (by decide), if_pos rfl], fun s m m' M M' h hc hr => by
    obtain ⟨c, h1, h2, h3⟩ := h
    exact ⟨c, h1.fr hc hr, h2, fun q k hk => by rw [hr 39 0 _ (by omega)]; exact h3 q k hk⟩⟩
theorem ts_watch : TS_ 3 (fun M y x => f_X10_watchLine M 0 y x) JW_ :=
  ⟨fun B L m M t s hB h g hJ hk => watch_line hB h g hJ hk, fun M y x hy => watch_no hy, fun g M kx h => by
    rw [lp_X10_readText_21, if_neg (by decide), if_neg h, pq_let, pq_let, if_neg (by decide), if_neg (by decide), if_neg (by decide)], fun s m m' M M' h hc hr => by
    obtain ⟨c, h1, h3⟩ := h
    exact ⟨c, h1.fr hc hr, fun q k hk => by rw [hr 39 0 _ (by omega), hr 39 0 _ (by omega)]; exact h3 q k hk⟩⟩
/-- behind all lines -/
def TX_ (B : Nat → Int32) (L : Nat) (J : Nat × Nat → ev_m → ev_m → Prop) (m M m' M' : ev_m) (x : Int32) : Prop := ((x = 1 ∧ ∃ t s, RC_ m' B L t s ∧ RR_ M' B L t s ∧ J s m' M') ∨ (x = 0 ∧ m'.1 7 0 8 = M'.1 10 0 16)) ∧ cF_ m m' ∧ rF_ M M'
theorem TX_.step {B : Nat → Int32} {L : Nat} {J : Nat × Nat → ev_m → ev_m → Prop} {m M m1 M1 m' M' : ev_m} {x : Int32} (h : TX_ B L J m1 M1 m' M' x) (hc : cF_ m m1) (hr : rF_ M M1) : TX_ B L J m M m' M' x := ⟨h.1, hc.trans h.2.1, hr.trans h.2.2⟩
theorem rd_0 {so : Int32} {g : Nat} {M : ev_m} {kx : Int32 → ev_m → Option (Bool × ev_m)} : lp_X10_readText_21 0 so (g + 1) 0 M kx = kx 0 M := by
  rw [lp_X10_readText_21, if_pos rfl]
theorem tk_0 {so x : Int32} {g : Nat} {m : ev_m} {kx : Int32 → ev_m → Option ev_m} : lp_X4_take_60 0 so (g + 1) 0 x m kx = kx 0 m := by
  rw [lp_X4_take_60]
  by_cases h : 600 < x
  · rw [if_pos h]
  · rw [if_neg h, if_pos rfl]
theorem text_loop {B : Nat → Int32} {L : Nat} {so : Int32} {G : ev_m → Int64 → Int32 → Option (Bool × ev_m)} {J : Nat × Nat → ev_m → ev_m → Prop} (hB : okB_ B L) (hT : TS_ so G J) (kx : Int32 → ev_m → Option ev_m) (kx2 : Int32 → ev_m → Option (Bool × ev_m)) : ∀ n f g i m M t s, (t.2.2 ≠ 0 → L - t.2.1 < n) → i ≤ t.1 → n + 1 < f → n + 1 < g → RC_ m B L t s → RR_ M B L t s → J s m M →
    ∃ x m' M', lp_X4_take_60 0 so f 1 (nI i) m kx = kx x m' ∧ lp_X10_readText_21 0 so g 1 M kx2 = kx2 x M' ∧ TX_ B L J m M m' M' x := by
  intro n
  have hL := hB.1
  obtain ⟨hLine, hNo, hG, hFr⟩ := hT
  induction n with
  | zero =>
    intro f g i m M t s hn hi hf hg h g0 hJ
    obtain ⟨f', rfl⟩ : ∃ e, f = e + 1 := ⟨f - 1, by omega⟩
    obtain ⟨g', rfl⟩ : ∃ e, g = e + 1 := ⟨g - 1, by omega⟩
    have hk0 : t.2.2 = 0 := by
      by_cases q : t.2.2 = 0
      · exact q
      · exact absurd (hn q) (Nat.not_lt_zero _)
    have hkk := kr_2 (tk_k hB h.2.2.2.1)
    have ht1 := h.2.2.2.1.1
    refine ⟨1, m, M, ?_, ?_, Or.inl ⟨rfl, t, s, h, g0, hJ⟩, fun _ _ _ _ => rfl, fun _ _ _ _ _ => rfl⟩
    · rw [lp_X4_take_60, if_neg (show ¬ 600 < nI i from nI_nlt (a := 600) (by omega) (by omega)), if_neg (by decide), h.1.2.2, if_pos hk0]
    · rw [lp_X10_readText_21, if_neg (by decide), g0.1.2.2.1, if_pos (hkk.2.2.2.1.mpr hk0)]
  | succ n ih =>
    intro f g i m M t s hn hi hf hg h g0 hJ
    obtain ⟨f', rfl⟩ : ∃ e, f = e + 1 := ⟨f - 1, by omega⟩
    obtain ⟨g', rfl⟩ : ∃ e, g = e + 1 := ⟨g - 1, by omega⟩
    have hkk := kr_2 (tk_k hB h.2.2.2.1)
    have hb := tk_b hB h.2.2.2.1
    have hi6 : ¬ 600 < nI i := nI_nlt (a := 600) (by omega) (by omega)
    by_cases hk0 : t.2.2 = 0
    · refine ⟨1, m, M, ?_, ?_, Or.inl ⟨rfl, t, s, h, g0, hJ⟩, fun _ _ _ _ => rfl, fun _ _ _ _ _ => rfl⟩
      · rw [lp_X4_take_60, if_neg hi6, if_neg (by decide), h.1.2.2, if_pos hk0]
      · rw [lp_X10_readText_21, if_neg (by decide), g0.1.2.2.1, if_pos (hkk.2.2.2.1.mpr hk0)]
    have hlt := hb.2.2 hk0
    have hn' := hn hk0
    have hM13 : M.1 10 0 13 ≠ 0 := by
      rw [g0.1.2.2.1]
      exact fun q => hk0 (hkk.2.2.2.1.mp q)
    have hy : (if M.1 10 0 13 = 2 then M.2.1 10 0 15 else 0 : Int64) = wo_ B t := by
      unfold wo_
      rw [g0.1.2.2.1]
      by_cases q : t.2.2 = 1
      · rw [if_pos (hkk.2.2.1.mpr q), if_pos q, g0.1.2.2.2.2 q]
      · rw [if_neg (fun z => q (hkk.2.2.1.mp z)), if_neg q]
    rw [hG g' M kx2 hM13, hy, g0.1.1, lp_X4_take_60, if_neg hi6, if_neg (by decide), h.1.2.2, if_neg hk0]
    obtain ⟨f'', rfl⟩ : ∃ e, f' = e + 1 := ⟨f' - 1, by omega⟩
    obtain ⟨g'', rfl⟩ : ∃ e, g' = e + 1 := ⟨g' - 1, by omega⟩
    by_cases hk1 : t.2.2 = 1
    · rw [if_pos hk1]
      obtain ⟨b, m1, M1, a1, a2, a3⟩ := hLine B L m M t s hB h g0 hJ hk1
      rw [a1, a2, pq_sb, pq_sb]
      cases b with
      | false =>
        refine ⟨0, m1, M1, ?_, ?_, Or.inr ⟨rfl, a3.2.1 rfl⟩, a3.2.2.1, a3.2.2.2⟩
        · rw [if_neg Bool.false_ne_true]
          unfold jn_X4_take_106_60 jn_X4_take_107_60
          exact tk_0
        · unfold jn_X10_readText_104_21 jn_X10_readText_122_21 jn_X10_readText_130_21
          rw [if_neg Bool.false_ne_true, if_neg Bool.false_ne_true]
          exact rd_0
      | true =>
        obtain ⟨t1, s1, b1, b2, b3, b4⟩ := a3.1 rfl
        have hkk1 := kr_2 (tk_k hB b1.2.2.2.1)
        have hb1 := tk_b hB b1.2.2.2.1
        rw [if_pos rfl]
        unfold f_X4_takeSemicolon jn_X10_readText_104_21
        rw [if_pos rfl, show (true, m1).2.1 7 0 7 = t1.2.2 from b1.1.2.2, show (true, M1).2.1 10 0 13 = kr_ t1.2.2 from b2.1.2.2.1]
        by_cases k4 : t1.2.2 = 4
        · rw [if_pos k4, if_pos (hkk1.2.2.2.2.mpr k4)]
          have hl1 := hb1.2.2 (by rw [k4]; decide)
          have hxn := xn_bd (e := t1.2.1) hB hb1.2.1
          obtain ⟨m2, e1, x1, -, x2⟩ := cl_nextR hB b1
          obtain ⟨M2, f1, y1, y2⟩ := rf_nextR hB b2
          unfold jn_X10_readText_122_21 jn_X10_readText_130_21
          rw [show f_X4_next (true, m1).2 0 = _ from e1, pq_sb, pq_sb, pq_let, if_pos rfl, show f_X10_token (true, M1).2 0 = _ from f1, pq_sb, nI_1]
          obtain ⟨x, m3, M3, c1, c2, c3⟩ := ih (f'' + 1) (g'' + 1) (i + 1) m2 M2 _ _ (fun q => by
            have := hxn.2.2.2 q
            omega) (by omega) (by omega) (by omega) x1 y1 (hFr _ _ _ _ _ b3 (fun r i k q => x2 r i k (by omega)) (fun r i k q => y2 r i k (by omega)))
          refine ⟨x, m3, M3, c1, c2, (c3.step x2.c y2.r).step a3.2.2.1 a3.2.2.2⟩
        · rw [if_neg k4, if_neg (fun z => k4 (hkk1.2.2.2.2.mp z)), rf_stops, pq_sb, pq_let, pq_let, pq_let, if_neg Bool.false_ne_true]
          unfold jn_X10_readText_122_21 jn_X10_readText_130_21
          rw [if_neg Bool.false_ne_true]
          refine ⟨0, m1, ev_pim M1 10 0 16 (M1.1 10 0 12), tk_0, rd_0, Or.inr ⟨rfl, ?_⟩, a3.2.2.1, a3.2.2.2.trans (fun r i k q q2 => by rw [pq_pim, if_neg (by omega)])⟩
          rw [pq_pim, if_pos ⟨rfl, rfl, rfl⟩, b1.1.1, b2.1.1]
    · rw [if_neg hk1, hNo _ _ _ (fun j hj => wo_n hk1 hj), pq_sb]
      refine ⟨0, m, ev_pim M 10 0 16 (M.1 10 0 12), ?_, ?_, Or.inr ⟨rfl, ?_⟩, fun _ _ _ _ => rfl, fun r i k q q2 => by rw [pq_pim, if_neg (by omega)]⟩
      · unfold jn_X4_take_106_60 jn_X4_take_107_60
        exact tk_0
      · unfold jn_X10_readText_104_21 jn_X10_readText_122_21 jn_X10_readText_130_21
        rw [if_neg Bool.false_ne_true, if_neg Bool.false_ne_true]
        exact rd_0
      · rw [pq_pim, if_pos ⟨rfl, rfl, rfl⟩, h.1.1, g0.1.1]
