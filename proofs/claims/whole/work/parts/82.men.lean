/-! pure: texts: lines of papers, of watches -/
def rP_ (c : Nat) (M : ev_m) : Prop := ∀ k, k < c → -9999 ≤ (M.1 39 0 (1 + k)).toInt ∧ (M.1 39 0 (1 + k)).toInt ≤ 9999
def JP_ (s : Nat × Nat) (m M : ev_m) : Prop := ∃ c, DPc_ m M c ∧ (c = 0 → s.1 = 0) ∧ (s.1 = 0 → rP_ c M)
theorem paper_line {m M : ev_m} {B : Nat → Int32} {L : Nat} {t : Nat × Nat × Int32} {s : Nat × Nat} (hB : okB_ B L) (h : RC_ m B L t s) (g : RR_ M B L t s) (hJ : JP_ s m M) (hk : t.2.2 = 1) : ∃ b m' M', f_X4_takeLine m 0 2 = some (b, m') ∧ f_X10_paperLine M 0 (wo_ B t) = some (b, M') ∧ LN_ B L t.2.1 JP_ m M m' M' b := by
  have hb := tk_b hB h.2.2.2.1
  have hxn := xn_bd (e := t.2.1) hB hb.2.1
  by_cases tj : tK_ B t 20 = true
  · have ew : wo_ B t = 7499639 := (wo_t hB h.2.2.2.1 hk (by decide)).mpr tj
    have hw : f_X4_isWord m 0 20 = some true := by rw [cl_isWord hB h (by decide), tj]
    obtain ⟨m1, e1, x1, -, x2⟩ := cl_nextR hB h
    obtain ⟨M1, f1, y1, y2⟩ := rf_nextR hB g
    obtain ⟨c, hD, hc0, hp⟩ := hJ
    have hD1 : DPc_ m1 M1 c := hD.fr (fun r i k q => x2 r i k (by omega)) (fun r i k q => y2 r i k (by omega))
    have hP0 : s.1 = 0 → rP_ c M1 := fun q k hk => by
      rw [y2 39 0 _ (by omega)]
      exact hp q k hk
    obtain ⟨b, m', M', a1, a2, a3, a4, a5, a6⟩ := hdg_all (P := rP_) hB (fun c N N' v hN hF h1 h2 h3 k hk => by
      by_cases e : k = c
      · rw [e, h3]
        exact ⟨h1, h2⟩
      · rw [hF _ (by omega) (by omega)]
        exact hN k (by omega)) x1 y1 hD1 hP0
    refine ⟨b, m', M', ?_, ?_, fun q => ?_, a4, x2.c.trans a5, y2.r.trans a6⟩
    · unfold f_X4_takeLine f_X4_takeHeadings
      rw [if_neg (by decide), if_neg (by decide), if_pos rfl, hw, pq_sb, if_pos rfl, e1, pq_sb, a1, pq_sb]
      cases b <;> rfl
    · rw [ew]
      unfold f_X10_paperLine
      rw [if_pos rfl, f1, pq_sb, a2, pq_sb]
    · obtain ⟨t3, s3, c3, g1, g2, g3, g4, g5, g6⟩ := a3 q
      exact ⟨t3, s3, g1, g2, ⟨c3, g3, fun z => by omega, fun z => (g6 z).2⟩, by omega⟩
  · have tj' : tK_ B t 20 = false := by
      cases z : tK_ B t 20 with
      | false => rfl
      | true => exact absurd z tj
    have hw : f_X4_isWord m 0 20 = some false := by rw [cl_isWord hB h (by decide), tj']
    have hy : ¬ wo_ B t = 7499639 := fun e => tj ((wo_t (j := 20) hB h.2.2.2.1 hk (by decide)).mp e)
    refine ⟨false, m, _, ?_, ?_, LN_.stop h g⟩
    · unfold f_X4_takeLine
      rw [if_neg (by decide), if_neg (by decide), if_pos rfl, hw, pq_sb, if_neg Bool.false_ne_true]
    · unfold f_X10_paperLine
      rw [if_neg hy, rf_stops, pq_let]
/-- a watch's draft -/
def DW_ (m M : ev_m) (c : Nat) : Prop := c ≤ 8 ∧ M.1 39 0 0 = nI c ∧ m.1 6 8 2 = nI c ∧ ∀ k, k < c → m.1 16 8 k = M.1 39 0 (1 + 2 * k) ∧ m.1 17 8 k = M.1 39 0 (2 + 2 * k)
theorem DW_.fr {m m' M M' : ev_m} {c : Nat} (h : DW_ m M c) (hc : ∀ r i k, ¬ (r = 7 ∧ i = 0) → m'.1 r i k = m.1 r i k) (hr : ∀ r i k, ¬ (r = 10 ∧ i = 0) → M'.1 r i k = M.1 r i k) : DW_ m' M' c := by
  obtain ⟨h0, h1, h2, h3⟩ := h
  refine ⟨h0, (hr 39 0 _ (by omega)).trans h1, (hc 6 8 2 (by omega)).trans h2, fun k hk => ?_⟩
  rw [hc 16 8 k (by omega), hc 17 8 k (by omega), hr 39 0 _ (by omega), hr 39 0 _ (by omega)]
  exact h3 k hk
def rW_ (c : Nat) (M : ev_m) : Prop := ∀ k, k < c → (∃ h : Nat, h ≤ 3 ∧ M.1 39 0 (1 + 2 * k) = nI h) ∧ ∃ n : Nat, 1 ≤ n ∧ n ≤ 200 ∧ M.1 39 0 (2 + 2 * k) = nI n
def JW_ (s : Nat × Nat) (m M : ev_m) : Prop := ∃ c, DW_ m M c ∧ (s.1 = 0 → rW_ c M)
theorem watch_man {m M : ev_m} {B : Nat → Int32} {L : Nat} {t : Nat × Nat × Int32} {s : Nat × Nat} (hB : okB_ B L) (h : RC_ m B L t s) (g : RR_ M B L t s) (hJ : JW_ s m M) (hk : t.2.2 = 1) (tj : tK_ B t 21 = true) : ∃ b m' M', f_X4_takeLine m 0 3 = some (b, m') ∧ f_X10_watchLine M 0 (wo_ B t) (nI t.1) = some (b, M') ∧ LN_ B L t.2.1 JW_ m M m' M' b := by
  have hL := hB.1
  have ew : wo_ B t = 7168366 := (wo_t hB h.2.2.2.1 hk (by decide)).mpr tj
  have hw : f_X4_isWord m 0 21 = some true := by rw [cl_isWord hB h (by decide), tj]
  have hb := tk_b hB h.2.2.2.1
  have hxn := xn_bd (e := t.2.1) hB hb.2.1
  obtain ⟨c, hD, hp⟩ := hJ
  obtain ⟨d0, d1, d2, d3⟩ := id hD
  have hcl : f_X4_takeLine m 0 3 = (f_X4_takeMan m 0).bind (fun p7 => (if p7.1 = true then (some ((true, p7.2))) else (some ((false, p7.2))))) := by
    unfold f_X4_takeLine
    rw [if_neg (by decide), if_neg (by decide), if_neg (by decide), if_pos rfl, hw, pq_sb, if_pos rfl]
  obtain ⟨M0, s0, g0, F0, hs0, hr⟩ : ∃ M0 s0, RR_ M0 B L t s0 ∧ (∀ r i k, ¬ (r = 10 ∧ i = 0) → M0.1 r i k = M.1 r i k) ∧ s0 = (if c = 8 then nt_ 3 t.1 s else s) ∧ f_X10_watchLine M 0 (wo_ B t) (nI t.1) = jn_X10_watchLine_34 M0 0 (nI c) := by
    rw [ew]
    by_cases q : c = 8
    · obtain ⟨n1, n2⟩ := RR_.later (f := 3) (p := t.1) g (by decide) (by decide) (by omega)
      refine ⟨_, _, n1, n2, by rw [if_pos q], ?_⟩
      unfold f_X10_watchLine
      rw [if_pos rfl, d1, pq_let, q, if_pos (show nI 8 = 8 from rfl), pq_let]
      rfl
    · refine ⟨M, s, g, fun _ _ _ _ => rfl, by rw [if_neg q], ?_⟩
      unfold f_X10_watchLine
      rw [if_pos rfl, d1, pq_let, if_neg (show ¬ nI c = 8 from fun z => q ((nI_eq (a := c) (b := 8) (by omega) (by decide)).mp z))]
  rw [hcl, hr]
  obtain ⟨m1, e1, x1, -, x2⟩ := cl_nextR hB h
  obtain ⟨M1, f1, y1, y2⟩ := rf_nextR hB g0
  have hcF : cF_ m m1 := x2.c
  have hrF : rF_ M M1 := fun r i k q q2 => by rw [y2.r r i k q q2, F0 r i k (by omega)]
  unfold f_X4_takeMan jn_X10_watchLine_34
  generalize ht1 : xn_ B L t.2.1 = t1 at *
  by_cases k1 : t1.2.2 = 2
  · obtain ⟨m2, e2, x3, x4, x5⟩ := (cl_num (lo := 0) (hi := 3) hB x1).1 k1
    obtain ⟨M2, f2, y3, y4, y5⟩ := (rf_num (lo := 0) (hi := 3) hB y1).1 k1
    have hb1 := tk_b hB x1.2.2.2.1
    have hl1 := hb1.2.2 (by rw [k1]; decide)
    have hxn1 := xn_bd (e := t1.2.1) hB hb1.2.1
    have hv1 := vn_lt hB x1.2.2.2.1 k1
    have hcF2 : cF_ m m2 := hcF.trans (fun r i j q => x5 r i j (by unfold xc_ at q; omega))
    have hrF2 : rF_ M M2 := hrF.trans (fun r i j q q2 => y5 r i j (by omega))
    generalize ht2 : xn_ B L t1.2.1 = t2 at *
    by_cases k2 : t2.2.2 = 2
    · obtain ⟨m3, e3, x6, x7, x8⟩ := (cl_num (lo := 1) (hi := 200) hB x3).1 k2
      obtain ⟨M3, f3, y6, y7, y8⟩ := (rf_num (lo := 1) (hi := 200) hB y3).1 k2
      have hb2 := tk_b hB x3.2.2.2.1
      have hxn2 := xn_bd (e := t2.2.1) hB hb2.2.1
      have hFm : ∀ r i k, ¬ (r = 7 ∧ i = 0) → m3.1 r i k = m.1 r i k := fun r i k q => by rw [x8 r i k q, x5 r i k q, x2 r i k (by omega)]
      have hFM : ∀ r i k, ¬ (r = 10 ∧ i = 0) → M3.1 r i k = M.1 r i k := fun r i k q => by rw [y8 r i k q, y5 r i k q, y2 r i k (by omega), F0 r i k q]
      obtain ⟨e0, k39, kc, karr⟩ : DW_ m3 M3 c := DW_.fr hD hFm hFM
      by_cases hc : c < 8
      · have hs00 : s0 = s := by rw [hs0, if_neg (by omega)]
        subst hs00
        have hk9 : m3.1 6 8 2 = nI c := kc
        have hadd : s_X7_addMan m3 8 (nI (vn_ B t1)) (m3.1 7 0 10) = (true, ev_pim (ev_pim (ev_pim m3 16 8 c (nI (vn_ B t1))) 17 8 c (nI (vn_ B t2))) 6 8 2 (nI (c + 1))) := by
          unfold s_X7_addMan
          rw [hk9, x7, if_pos (show nI c < 8 from nI_lt (b := 8) hc (by decide)), pq_put (by omega) (by decide), pq_let, show (ev_pim m3 16 8 c (nI (vn_ B t1))).1 6 8 2 = nI c by rw [pq_pim, if_neg (by omega)]; exact hk9, pq_put (by omega) (by decide), pq_let, show (ev_pim (ev_pim m3 16 8 c (nI (vn_ B t1))) 17 8 c (nI (vn_ B t2))).1 6 8 2 = nI c by rw [pq_pim, if_neg (by omega), pq_pim, if_neg (by omega)]; exact hk9, nI_1, pq_let]
        have hst : (ev_ast M3 39 0 61 (1 + (2 * (nI c))) (nI (vn_ B t1))).bind (fun m14 => (ev_ast m14 39 0 61 (2 + (2 * (nI c))) (m14.1 10 0 20)).bind (fun m15 => ev_let (ev_pim m15 39 0 0 ((m15.1 39 0 0) + 1)) (fun m16 => (some ((true, m16)))))) = some (true, ev_pim (ev_pim (ev_pim M3 39 0 (1 + 2 * c) (nI (vn_ B t1))) 39 0 (2 + 2 * c) (nI (vn_ B t2))) 39 0 0 (nI (c + 1))) := by
          rw [show (1 : Int32) + 2 * nI c = nI (1 + 2 * c) by rw [show (2 : Int32) = nI 2 from rfl, pk_mul, show (1 : Int32) = nI 1 from rfl, nI_add], sN_39 (by omega), pq_sb, show (2 : Int32) + 2 * nI c = nI (2 + 2 * c) by rw [show (2 : Int32) = nI 2 from rfl, pk_mul, nI_add], sN_39 (by omega), pq_sb, show (ev_pim M3 39 0 (1 + 2 * c) (nI (vn_ B t1))).1 10 0 20 = nI (vn_ B t2) by rw [pq_pim, if_neg (by omega)]; exact y7, show (ev_pim (ev_pim M3 39 0 (1 + 2 * c) (nI (vn_ B t1))) 39 0 (2 + 2 * c) (nI (vn_ B t2))).1 39 0 0 = nI c by rw [pq_pim, if_neg (by omega), pq_pim, if_neg (by omega)]; exact k39, nI_1, pq_let]
        refine ⟨true, ev_pim (ev_pim (ev_pim m3 16 8 c (nI (vn_ B t1))) 17 8 c (nI (vn_ B t2))) 6 8 2 (nI (c + 1)), ev_pim (ev_pim (ev_pim M3 39 0 (1 + 2 * c) (nI (vn_ B t1))) 39 0 (2 + 2 * c) (nI (vn_ B t2))) 39 0 0 (nI (c + 1)), ?_, ?_, fun _ => ⟨_, _, x6.fr (fun r i j q => by rw [pq_pim, if_neg (by omega), pq_pim, if_neg (by omega), pq_pim, if_neg (by omega)]), y6.fr rfl (fun r i j q => by rw [pq_pim, if_neg (by omega), pq_pim, if_neg (by omega), pq_pim, if_neg (by omega)]), ⟨c + 1, ⟨by omega, by rw [pq_pim, if_pos ⟨rfl, rfl, rfl⟩], by rw [pq_pim, if_pos ⟨rfl, rfl, rfl⟩], fun k hk => ?_⟩, fun q => ?_⟩, by omega⟩, fun q => (by cases q), fun r i j q => ?_, fun r i j q q2 => ?_⟩
        · rw [pq_let, e1, pq_sb, e2, pq_sb, if_pos rfl, x4, pq_let, e3, pq_sb, if_pos rfl, hadd, pq_let, if_pos rfl, pq_sb] <;> rfl
        · rw [f1, pq_sb, f2, pq_sb, if_pos rfl, y4, pq_let, f3, pq_sb, if_pos rfl, if_pos (show nI c < 8 from nI_lt (b := 8) hc (by decide))]
          exact hst
        · by_cases e : k = c
          · rw [e]
            refine ⟨?_, ?_⟩
            · rw [pq_pim, if_neg (by omega), pq_pim, if_neg (by omega), pq_pim, if_pos ⟨rfl, rfl, rfl⟩, pq_pim, if_neg (by omega), pq_pim, if_neg (by omega), pq_pim, if_pos ⟨rfl, rfl, rfl⟩]
            · rw [pq_pim, if_neg (by omega), pq_pim, if_pos ⟨rfl, rfl, rfl⟩, pq_pim, if_neg (by omega), pq_pim, if_pos ⟨rfl, rfl, rfl⟩]
          · refine ⟨?_, ?_⟩
            · rw [pq_pim, if_neg (by omega), pq_pim, if_neg (by omega), pq_pim, if_neg (by omega), pq_pim, if_neg (by omega), pq_pim, if_neg (by omega), pq_pim, if_neg (by omega)]
              exact (karr k (by omega)).1
            · rw [pq_pim, if_neg (by omega), pq_pim, if_neg (by omega), pq_pim, if_neg (by omega), pq_pim, if_neg (by omega), pq_pim, if_neg (by omega), pq_pim, if_neg (by omega)]
              exact (karr k (by omega)).2
        · obtain ⟨q1, q2⟩ := nt_0 q
          obtain ⟨q3, q4⟩ := nt_0 q1
          have hv2 := vn_lt hB x3.2.2.2.1 k2
          intro k hk
          by_cases e : k = c
          · rw [e]
            refine ⟨⟨vn_ B t1, ?_, ?_⟩, vn_ B t2, ?_, ?_, ?_⟩
            · apply Nat.le_of_not_lt
              intro z
              exact q4 (Or.inr (nI_lt (a := 3) z (by omega)))
            · rw [pq_pim, if_neg (by omega), pq_pim, if_neg (by omega), pq_pim, if_pos ⟨rfl, rfl, rfl⟩]
            · apply Nat.le_of_not_lt
              intro z
              exact q2 (Or.inl (nI_lt (b := 1) z (by decide)))
            · apply Nat.le_of_not_lt
              intro z
              exact q2 (Or.inr (nI_lt (a := 200) z (by omega)))
            · rw [pq_pim, if_neg (by omega), pq_pim, if_pos ⟨rfl, rfl, rfl⟩]
          · have hA : ∀ j, j ≠ 0 → j ≠ 1 + 2 * c → j ≠ 2 + 2 * c → (ev_pim (ev_pim (ev_pim M3 39 0 (1 + 2 * c) (nI (vn_ B t1))) 39 0 (2 + 2 * c) (nI (vn_ B t2))) 39 0 0 (nI (c + 1))).1 39 0 j = M.1 39 0 j := fun j z1 z2 z3 => by
              rw [pq_pim, if_neg (by omega), pq_pim, if_neg (by omega), pq_pim, if_neg (by omega)]
              exact hFM 39 0 j (by omega)
            rw [hA _ (by omega) (by omega) (by omega), hA _ (by omega) (by omega) (by omega)]
            exact hp q3 k (by omega)
        · unfold xc_ at q
          rw [pq_pim, if_neg (by omega), pq_pim, if_neg (by omega), pq_pim, if_neg (by omega)]
          exact hFm r i j (by omega)
        · rw [pq_pim, if_neg (by omega), pq_pim, if_neg (by omega), pq_pim, if_neg (by omega)]
          exact hFM r i j (by omega)
      · have ec : c = 8 := by omega
        subst ec
        rw [if_pos rfl] at hs0
        rw [hs0, nt_if (by decide) (by decide), nt_if (by decide) (by decide)] at y6
        have hk9 : m3.1 6 8 2 = nI 8 := kc
        have hadd : s_X7_addMan m3 8 (nI (vn_ B t1)) (m3.1 7 0 10) = (false, m3) := by
          unfold s_X7_addMan
          rw [hk9, if_neg (by decide)]
        obtain ⟨n1, n2⟩ := RC_.note (f := 3) (p := t.1) x6 (by decide) (by decide) (by omega)
        refine ⟨true, s_X4_note m3 0 (nI 3) (nI t.1), M3, ?_, ?_, fun _ => ⟨_, _, n1, y6, ⟨8, DW_.fr ⟨e0, k39, kc, karr⟩ n2 (fun _ _ _ _ => rfl), fun q => absurd q (nt_ne (by decide))⟩, by omega⟩, fun q => (by cases q), fun r i j q => ?_, fun r i j q q2 => hFM r i j (by omega)⟩
        · rw [pq_let, e1, pq_sb, e2, pq_sb, if_pos rfl, x4, pq_let, e3, pq_sb, if_pos rfl, hadd, pq_let, if_neg Bool.false_ne_true, h.1.1, pq_let, pq_sb] <;> rfl
        · rw [f1, pq_sb, f2, pq_sb, if_pos rfl, y4, pq_let, f3, pq_sb, if_pos rfl, if_neg (by decide)]
        · unfold xc_ at q
          rw [n2 r i j (by omega)]
          exact hFm r i j (by omega)
    · obtain ⟨m3, e3, x6, x7⟩ := (cl_num (lo := 1) (hi := 200) hB x3).2 k2
      have f3 := (rf_num (lo := 1) (hi := 200) hB y3).2 k2
      refine ⟨false, m3, ev_pim M2 10 0 16 (nI t2.1), ?_, ?_, LN_.bad (by rw [x6, pq_pim, if_pos ⟨rfl, rfl, rfl⟩]) (hcF2.trans (fun r i j q => x7 r i j (by unfold xc_ at q; omega))) (hrF2.trans (fun r i j q q2 => by rw [pq_pim, if_neg (by omega)]))⟩
      · rw [pq_let, e1, pq_sb, e2, pq_sb, if_pos rfl, x4, pq_let, e3, pq_sb, if_neg Bool.false_ne_true, pq_sb] <;> rfl
      · rw [f1, pq_sb, f2, pq_sb, if_pos rfl, y4, pq_let, f3, pq_sb, if_neg Bool.false_ne_true]
  · obtain ⟨m2, e2, x3, x4⟩ := (cl_num (lo := 0) (hi := 3) hB x1).2 k1
    have f2 := (rf_num (lo := 0) (hi := 3) hB y1).2 k1
    refine ⟨false, m2, ev_pim M1 10 0 16 (nI t1.1), ?_, ?_, LN_.bad (by rw [x3, pq_pim, if_pos ⟨rfl, rfl, rfl⟩]) (hcF.trans (fun r i j q => x4 r i j (by unfold xc_ at q; omega))) (hrF.trans (fun r i j q q2 => by rw [pq_pim, if_neg (by omega)]))⟩
    · rw [pq_let, e1, pq_sb, e2, pq_sb, if_neg Bool.false_ne_true, pq_sb] <;> rfl
    · rw [f1, pq_sb, f2, pq_sb, if_neg Bool.false_ne_true]
theorem watch_line {m M : ev_m} {B : Nat → Int32} {L : Nat} {t : Nat × Nat × Int32} {s : Nat × Nat} (hB : okB_ B L) (h : RC_ m B L t s) (g : RR_ M B L t s) (hJ : JW_ s m M) (hk : t.2.2 = 1) : ∃ b m' M', f_X4_takeLine m 0 3 = some (b, m') ∧ f_X10_watchLine M 0 (wo_ B t) (nI t.1) = some (b, M') ∧ LN_ B L t.2.1 JW_ m M m' M' b := by
  by_cases tj : tK_ B t 21 = true
  · exact watch_man hB h g hJ hk tj
  · have tj' : tK_ B t 21 = false := by
      cases z : tK_ B t 21 with
      | false => rfl
      | true => exact absurd z tj
    have hw : f_X4_isWord m 0 21 = some false := by rw [cl_isWord hB h (by decide), tj']
    have hy : ¬ wo_ B t = 7168366 := fun e => tj ((wo_t (j := 21) hB h.2.2.2.1 hk (by decide)).mp e)
    refine ⟨false, m, _, ?_, ?_, LN_.stop h g⟩
    · unfold f_X4_takeLine
      rw [if_neg (by decide), if_neg (by decide), if_neg (by decide), if_pos rfl, hw, pq_sb, if_neg Bool.false_ne_true]
    · unfold f_X10_watchLine
      rw [if_neg hy, rf_stops, pq_let]
