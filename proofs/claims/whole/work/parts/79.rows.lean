/-! pure: texts: rows of numbers, ships -/
def xc_ (r i : Nat) : Prop := (r = 7 ∧ i = 0) ∨ ((r = 3 ∨ r = 12) ∧ i = 9) ∨ ((r = 4 ∨ r = 13 ∨ r = 14) ∧ i = 17) ∨ ((r = 5 ∨ r = 15 ∨ r = 6 ∨ r = 16 ∨ r = 17) ∧ i = 8)
def cF_ (m m' : ev_m) : Prop := ∀ r i k, ¬ xc_ r i → m'.1 r i k = m.1 r i k
def rF_ (m m' : ev_m) : Prop := ∀ r i k, r ≠ 10 → r ≠ 39 → m'.1 r i k = m.1 r i k
theorem cF_.trans {a b c : ev_m} (h : cF_ a b) (h2 : cF_ b c) : cF_ a c := fun r i k q => (h2 r i k q).trans (h r i k q)
theorem rF_.trans {a b c : ev_m} (h : rF_ a b) (h2 : rF_ b c) : rF_ a c := fun r i k q q2 => (h2 r i k q q2).trans (h r i k q q2)
theorem sg_k {B : Nat → Int32} {L : Nat} {t : Nat × Nat × Int32} (h : (sg_ B L t).2.2 = 2) : t.2.2 = 2 ∨ t.2.2 = 3 := by
  unfold sg_ at h
  by_cases q : t.2.2 = 3
  · exact Or.inr q
  · rw [if_neg q] at h
    exact Or.inl h
theorem sg_b {B : Nat → Int32} {L : Nat} {t : Nat × Nat × Int32} (hB : okB_ B L) (h : tk_ B L t) (h2 : (sg_ B L t).2.2 = 2) : t.1 ≤ (sg_ B L t).1 ∧ (sg_ B L t).1 < (sg_ B L t).2.1 ∧ (sg_ B L t).2.1 ≤ L ∧ t.2.1 ≤ (sg_ B L t).2.1 ∧ tk_ B L (sg_ B L t) := by
  have hb := tk_b hB h
  unfold sg_ at h2 ⊢
  by_cases q : t.2.2 = 3
  · rw [if_pos q] at h2 ⊢
    have hx := xn_bd (e := t.2.1) hB hb.2.1
    have := hx.2.2.2 (by rw [h2]; decide)
    exact ⟨by omega, this, hx.2.2.1, by omega, tk_n hb.2.1⟩
  · rw [if_neg q] at h2 ⊢
    have := hb.2.2 (by rw [h2]; decide)
    exact ⟨Nat.le_refl _, this, hb.2.1, Nat.le_refl _, h⟩
theorem iN_39 {m : ev_m} {k : Nat} (h : k < 61) : ev_ald (m.1 39 0) 61 (nI k) = some (m.1 39 0 k) := pq_ald h (by decide)
theorem sN_39 {m : ev_m} {k : Nat} {x : Int32} (h : k < 61) : ev_ast m 39 0 61 (nI k) x = some (ev_pim m 39 0 k x) := pq_ast h (by decide)
/-- a number that was in its bounds -/
theorem nt_0 {c : Prop} [Decidable c] {p : Nat} {s : Nat × Nat} (h : (if c then nt_ 2 p s else s).1 = 0) : s.1 = 0 ∧ ¬ c := by
  by_cases q : c
  · rw [if_pos q] at h
    exact absurd h (nt_ne (by decide))
  · rw [if_neg q] at h
    exact ⟨h, q⟩
/-- seas -/
def DSc_ (m M : ev_m) (c : Nat) : Prop := c ≤ 12 ∧ M.1 39 0 10 = nI c ∧ (∀ k, k < 11 → m.1 3 9 k = M.1 39 0 k) ∧ ∀ k, k < c → m.1 12 9 k = M.1 39 0 (11 + k)
theorem DSc_.fr {m m' M M' : ev_m} {c : Nat} (h : DSc_ m M c) (hc : ∀ r i k, ¬ (r = 7 ∧ i = 0) → m'.1 r i k = m.1 r i k) (hr : ∀ r i k, ¬ (r = 10 ∧ i = 0) → M'.1 r i k = M.1 r i k) : DSc_ m' M' c := by
  obtain ⟨h0, h1, h2, h3⟩ := h
  refine ⟨h0, (hr 39 0 _ (by omega)).trans h1, fun k hk => by rw [hc 3 9 k (by omega), hr 39 0 k (by omega)]; exact h2 k hk, fun k hk => ?_⟩
  rw [hc 12 9 k (by omega), hr 39 0 _ (by omega)]
  exact h3 k hk
/-- one number of a row -/
theorem sea_item {m M : ev_m} {B : Nat → Int32} {L c : Nat} {t : Nat × Nat × Int32} {s : Nat × Nat} (hB : okB_ B L) (h : RC_ m B L t s) (g : RR_ M B L t s) (hD : DSc_ m M c) (h2 : (sg_ B L t).2.2 = 2) : ∃ m' M' s' c', (∀ i kb kx, jn_X4_takeSeas_32_14 m 0 i kb kx = kb (i + 1) m') ∧ (∀ f kx, lp_X10_list_0 0 10 11 12 99 (f + 1) M kx = jn_X10_list_83_0 M' 0 10 11 12 99 (fun z => lp_X10_list_0 0 10 11 12 99 f z kx) kx) ∧ f_X10_list M 0 10 11 12 99 = jn_X10_list_83 M' 0 10 11 12 99 ∧ RC_ m' B L (xn_ B L (sg_ B L t).2.1) s' ∧ RR_ M' B L (xn_ B L (sg_ B L t).2.1) s' ∧ DSc_ m' M' c' ∧ 1 ≤ c' ∧ cF_ m m' ∧ rF_ M M' ∧ (s'.1 = 0 → s.1 = 0 ∧ c' = c + 1 ∧ (-99 ≤ (sv_ B L t).toInt ∧ (sv_ B L t).toInt ≤ 99) ∧ M'.1 39 0 (11 + c) = sv_ B L t) ∧ (∀ k, k ≠ 10 → k < 11 + c → M'.1 39 0 k = M.1 39 0 k) := by
  have hb := sg_b hB h.2.2.2.1 h2
  have hL := hB.1
  obtain ⟨m1, e1, x1, x2, x3, x4⟩ := (cl_sgn (lo := -99) (hi := 99) hB h).1 h2
  have hlo : (-99 : Int32) = -nI 99 := rfl
  have htk : t.2.2 = 2 ∨ t.2.2 = 3 := sg_k h2
  obtain ⟨h0, h39, hceq, harr⟩ := hD
  have hin : ∀ v : Int32, ¬ (v < -99 ∨ 99 < v) → -99 ≤ v.toInt ∧ v.toInt ≤ 99 := fun v hv => by
    rw [fa_lt, fa_lt, show (-99 : Int32).toInt = -99 from rfl, show (99 : Int32).toInt = 99 from rfl] at hv
    omega
  by_cases hc : c < 12
  · -- there is room
    obtain ⟨M1, f1, y1, y2, y3⟩ := (rf_sgn (hi := 99) (h0 := 99) hB g rfl (by decide)).1 h2
    have hD1 : DSc_ m1 M1 c := DSc_.fr ⟨h0, h39, hceq, harr⟩ x4 y3
    obtain ⟨-, k39, kceq, karr⟩ := hD1
    have kc : m1.1 3 9 10 = nI c := (kceq 10 (by decide)).trans k39
    have hadd : s_X5_addSea m1 9 (m1.1 7 0 10) = (true, ev_pim (ev_pim m1 12 9 c (sv_ B L t)) 3 9 10 (nI (c + 1))) := by
      unfold s_X5_addSea
      rw [kc, x2, if_pos (show nI c < 12 from nI_lt (b := 12) hc (by decide)), pq_put (by omega) (by decide), pq_let, show (ev_pim m1 12 9 c (sv_ B L t)).1 3 9 10 = nI c by rw [pq_pim, if_neg (by omega)]; exact kc, nI_1, pq_let]
    have hst : ∀ K : ev_m → Option (Bool × ev_m), (ev_ald (M1.1 39 0) 61 10).bind (fun x31 => (if x31 < 12 then (ev_ald (M1.1 39 0) 61 10).bind (fun x36 => (ev_ast M1 39 0 61 (11 + x36) (M1.1 10 0 20)).bind (fun m37 => (ev_ald (m37.1 39 0) 61 10).bind (fun x38 => (ev_ast m37 39 0 61 10 (x38 + 1)).bind K))) else K M1)) = K (ev_pim (ev_pim M1 39 0 (11 + c) (sv_ B L t)) 39 0 10 (nI (c + 1))) := by
      intro K
      rw [show ∀ M : ev_m, ev_ald (M.1 39 0) 61 10 = some (M.1 39 0 10) from fun M => iN_39 (k := 10) (by decide), pq_sb, k39, if_pos (show nI c < 12 from nI_lt (b := 12) hc (by decide)), pq_sb, show 11 + nI c = nI (11 + c) from nI_add 11 c, sN_39 (by omega), pq_sb, y2, show ∀ M : ev_m, ev_ald (M.1 39 0) 61 10 = some (M.1 39 0 10) from fun M => iN_39 (k := 10) (by decide), pq_sb, show (ev_pim M1 39 0 (11 + c) (sv_ B L t)).1 39 0 10 = nI c by rw [pq_pim, if_neg (by omega)]; exact k39, nI_1, show ∀ (M : ev_m) x, ev_ast M 39 0 61 10 x = some (ev_pim M 39 0 10 x) from fun M x => sN_39 (k := 10) (by decide), pq_sb]
    have hne : ¬ (M.1 39 0 10 = 12) := by
      rw [h39]
      intro e
      have := (nI_eq (a := c) (b := 12) (by omega) (by decide)).mp e
      omega
    have h35 : ∀ kb kx, jn_X10_list_35_0 M 0 10 11 12 99 kb kx = jn_X10_list_83_0 (ev_pim (ev_pim M1 39 0 (11 + c) (sv_ B L t)) 39 0 10 (nI (c + 1))) 0 10 11 12 99 kb kx := by
      intro kb kx
      unfold jn_X10_list_35_0
      rw [f1, pq_sb, if_pos rfl]
      exact hst (fun m39 => jn_X10_list_83_0 m39 0 10 11 12 99 kb kx)
    have h35b : jn_X10_list_35 M 0 10 11 12 99 = jn_X10_list_83 (ev_pim (ev_pim M1 39 0 (11 + c) (sv_ B L t)) 39 0 10 (nI (c + 1))) 0 10 11 12 99 := by
      unfold jn_X10_list_35
      rw [f1, pq_sb, if_pos rfl]
      exact hst (fun m39 => jn_X10_list_83 m39 0 10 11 12 99)
    refine ⟨ev_pim (ev_pim m1 12 9 c (sv_ B L t)) 3 9 10 (nI (c + 1)), ev_pim (ev_pim M1 39 0 (11 + c) (sv_ B L t)) 39 0 10 (nI (c + 1)), _, c + 1, fun i kb kx => ?_, fun f kx => ?_, ?_, x1.fr (fun r i k q => by rw [pq_pim, if_neg (by omega), pq_pim, if_neg (by omega)]), y1.fr rfl (fun r i k q => by rw [pq_pim, if_neg (by omega), pq_pim, if_neg (by omega)]), ⟨by omega, by rw [pq_pim, if_pos ⟨rfl, rfl, rfl⟩], ?_, fun k hk => ?_⟩, by omega, fun r i k q => ?_, fun r i k q q2 => ?_, fun q => ?_, fun k q q2 => ?_⟩
    · unfold jn_X4_takeSeas_32_14
      rw [e1, pq_sb, if_pos rfl, hadd, pq_let, if_pos rfl]
      rfl
    · rw [lp_X10_list_0, show ev_ald (M.1 39 0) 61 10 = some (M.1 39 0 10) from iN_39 (k := 10) (by decide), pq_sb, if_neg hne]
      exact h35 _ _
    · unfold f_X10_list
      rw [show ev_ald (M.1 39 0) 61 10 = some (M.1 39 0 10) from iN_39 (k := 10) (by decide), pq_sb, if_neg hne]
      exact h35b
    · intro k hk
      by_cases e : k = 10
      · rw [e, pq_pim, if_pos ⟨rfl, rfl, rfl⟩, pq_pim, if_pos ⟨rfl, rfl, rfl⟩]
      · rw [pq_pim, if_neg (by omega), pq_pim, if_neg (by omega), pq_pim, if_neg (by omega), pq_pim, if_neg (by omega)]
        exact kceq k hk
    · rw [pq_pim, if_neg (by omega), pq_pim]
      by_cases e : k = c
      · rw [if_pos ⟨rfl, rfl, e⟩, pq_pim, if_neg (by omega), pq_pim, if_pos ⟨rfl, rfl, by rw [e]⟩]
      · rw [if_neg (fun z => e z.2.2), karr k (by omega), pq_pim, if_neg (by omega), pq_pim, if_neg (by omega)]
    · unfold xc_ at q
      rw [pq_pim, if_neg (by omega), pq_pim, if_neg (by omega)]
      exact x4 r i k (by omega)
    · rw [pq_pim, if_neg (by omega), pq_pim, if_neg (by omega)]
      exact y3 r i k (by omega)
    · obtain ⟨q1, q2⟩ := nt_0 q
      exact ⟨q1, rfl, hin _ q2, by rw [pq_pim, if_neg (by omega), pq_pim, if_pos ⟨rfl, rfl, rfl⟩]⟩
    · rw [pq_pim, if_neg (by omega), pq_pim, if_neg (by omega)]
      exact y3 39 0 k (by omega)
  · -- full
    have ec : c = 12 := by omega
    subst ec
    have hkr : M.1 10 0 13 = 3 ∨ M.1 10 0 13 = 5 := by
      rw [g.1.2.2.1]
      rcases htk with q | q <;> rw [q]
      · exact Or.inl rfl
      · exact Or.inr rfl
    obtain ⟨n1, n2, n3⟩ := rf_later (f := 3) (p := t.1) g.2.2.1 g.2.2.2.2 (by decide) (by decide) (by omega)
    have g2 : RR_ (s_X10_later M 0 (nI 3) (nI t.1)) B L t (nt_ 3 t.1 s) := ⟨⟨(n3 10 0 12 (by decide)).trans g.1.1, (n3 10 0 10 (by decide)).trans g.1.2.1, (n3 10 0 13 (by decide)).trans g.1.2.2.1, fun z => (n3 10 0 14 (by decide)).trans (g.1.2.2.2.1 z), fun z => by rw [n2]; exact g.1.2.2.2.2 z⟩, ⟨(n3 10 0 11 (by decide)).trans g.2.1.1, fun k hk => by rw [n3 30 0 k (by omega)]; exact g.2.1.2 k hk⟩, n1, g.2.2.2.1, nt_ok g.2.2.2.2 (by decide) (by omega)⟩
    obtain ⟨M1, f1, y1, y2, y3⟩ := (rf_sgn (hi := 99) (h0 := 99) hB g2 rfl (by decide)).1 h2
    have y3' : ∀ r i k, ¬ (r = 10 ∧ i = 0) → M1.1 r i k = M.1 r i k := fun r i k hr => (y3 r i k hr).trans (n3 r i k (by omega))
    have hD1 : DSc_ m1 M1 12 := DSc_.fr ⟨h0, h39, hceq, harr⟩ x4 y3'
    obtain ⟨-, k39, kceq, karr⟩ := hD1
    have kc : m1.1 3 9 10 = nI 12 := (kceq 10 (by decide)).trans k39
    have hadd : s_X5_addSea m1 9 (m1.1 7 0 10) = (false, m1) := by
      unfold s_X5_addSea
      rw [kc, if_neg (by decide)]
    obtain ⟨p1, p2, p3⟩ := cl_note (f := 3) (p := t.1) x1.2.2.1 x1.2.2.2.2 (by decide) (by decide) (by omega)
    have x1' : RC_ (s_X4_note m1 0 (nI 3) (nI t.1)) B L (xn_ B L (sg_ B L t).2.1) (nt_ 3 t.1 (if sv_ B L t < -99 ∨ 99 < sv_ B L t then nt_ 2 (sg_ B L t).1 s else s)) := ⟨⟨(p3 7 0 8 (by decide)).trans x1.1.1, (p3 7 0 9 (by decide)).trans x1.1.2.1, (p3 7 0 7 (by decide)).trans x1.1.2.2⟩, ⟨(p3 2 4 1 (by decide)).trans x1.2.1.1, fun k hk => by rw [p3 11 4 k (by omega)]; exact x1.2.1.2 k hk⟩, p1, x1.2.2.2.1, nt_ok x1.2.2.2.2 (by decide) (by omega)⟩
    have hse : (if sv_ B L t < -99 ∨ 99 < sv_ B L t then nt_ 2 (sg_ B L t).1 (nt_ 3 t.1 s) else nt_ 3 t.1 s) = nt_ 3 t.1 (if sv_ B L t < -99 ∨ 99 < sv_ B L t then nt_ 2 (sg_ B L t).1 s else s) := by
      split
      · exact nt_comm (by decide) (by decide)
      · rfl
    rw [hse] at y1
    have hst : ∀ K : ev_m → Option (Bool × ev_m), (ev_ald (M1.1 39 0) 61 10).bind (fun x31 => (if x31 < 12 then (ev_ald (M1.1 39 0) 61 10).bind (fun x36 => (ev_ast M1 39 0 61 (11 + x36) (M1.1 10 0 20)).bind (fun m37 => (ev_ald (m37.1 39 0) 61 10).bind (fun x38 => (ev_ast m37 39 0 61 10 (x38 + 1)).bind K))) else K M1)) = K M1 := by
      intro K
      rw [show ev_ald (M1.1 39 0) 61 10 = some (M1.1 39 0 10) from iN_39 (k := 10) (by decide), pq_sb, k39, if_neg (by decide)]
    have h35 : ∀ kb kx, jn_X10_list_35_0 (s_X10_later M 0 (nI 3) (nI t.1)) 0 10 11 12 99 kb kx = jn_X10_list_83_0 M1 0 10 11 12 99 kb kx := by
      intro kb kx
      unfold jn_X10_list_35_0
      rw [f1, pq_sb, if_pos rfl]
      exact hst (fun m39 => jn_X10_list_83_0 m39 0 10 11 12 99 kb kx)
    have h35b : jn_X10_list_35 (s_X10_later M 0 (nI 3) (nI t.1)) 0 10 11 12 99 = jn_X10_list_83 M1 0 10 11 12 99 := by
      unfold jn_X10_list_35
      rw [f1, pq_sb, if_pos rfl]
      exact hst (fun m39 => jn_X10_list_83 m39 0 10 11 12 99)
    refine ⟨s_X4_note m1 0 (nI 3) (nI t.1), M1, _, 12, fun i kb kx => ?_, fun f kx => ?_, ?_, x1', y1, DSc_.fr ⟨h0, k39, kceq, karr⟩ (fun r i k hr => p3 r i k (by omega)) (fun _ _ _ _ => rfl), by decide, fun r i k q => ?_, fun r i k q q2 => ?_, fun q => absurd q (nt_ne (by decide)), fun k q q2 => ?_⟩
    · unfold jn_X4_takeSeas_32_14
      rw [e1, pq_sb, if_pos rfl, hadd, pq_let, if_neg Bool.false_ne_true, x3, pq_let]
      rfl
    · rw [lp_X10_list_0, show ev_ald (M.1 39 0) 61 10 = some (M.1 39 0 10) from iN_39 (k := 10) (by decide), pq_sb, h39, if_pos (show nI 12 = 12 from rfl)]
      unfold jn_X10_list_26_0
      rw [g.1.1, pq_let]
      rcases hkr with q | q
      · rw [if_pos q]
        exact h35 _ _
      · rw [if_neg (by rw [q]; decide), if_pos q]
        exact h35 _ _
    · unfold f_X10_list
      rw [show ev_ald (M.1 39 0) 61 10 = some (M.1 39 0 10) from iN_39 (k := 10) (by decide), pq_sb, h39, if_pos (show nI 12 = 12 from rfl)]
      unfold jn_X10_list_26
      rw [g.1.1, pq_let]
      rcases hkr with q | q
      · rw [if_pos q]
        exact h35b
      · rw [if_neg (by rw [q]; decide), if_pos q]
        exact h35b
    · unfold xc_ at q
      rw [p3 r i k (by omega)]
      exact x4 r i k (by omega)
    · exact y3' r i k (by omega)
    · exact y3' 39 0 k (by omega)
theorem sea_fail {m M : ev_m} {B : Nat → Int32} {L c : Nat} {t : Nat × Nat × Int32} {s : Nat × Nat} (hB : okB_ B L) (h : RC_ m B L t s) (g : RR_ M B L t s) (hD : DSc_ m M c) (h2 : (sg_ B L t).2.2 ≠ 2) : ∃ m' M', (∀ i kb kx, jn_X4_takeSeas_32_14 m 0 i kb kx = some (false, m')) ∧ (∀ f kx, lp_X10_list_0 0 10 11 12 99 (f + 1) M kx = some (false, M')) ∧ f_X10_list M 0 10 11 12 99 = some (false, M') ∧ m'.1 7 0 8 = M'.1 10 0 16 ∧ cF_ m m' ∧ rF_ M M' := by
  have hL := hB.1
  have hb := tk_b hB h.2.2.2.1
  obtain ⟨m1, e1, x1, x2⟩ := (cl_sgn (lo := -99) (hi := 99) hB h).2 h2
  obtain ⟨h0, h39, hceq, harr⟩ := hD
  obtain ⟨n1, n2, n3⟩ := rf_later (f := 3) (p := t.1) g.2.2.1 g.2.2.2.2 (by decide) (by decide) (by omega)
  have g2 : RR_ (s_X10_later M 0 (nI 3) (nI t.1)) B L t (nt_ 3 t.1 s) := ⟨⟨(n3 10 0 12 (by decide)).trans g.1.1, (n3 10 0 10 (by decide)).trans g.1.2.1, (n3 10 0 13 (by decide)).trans g.1.2.2.1, fun z => (n3 10 0 14 (by decide)).trans (g.1.2.2.2.1 z), fun z => by rw [n2]; exact g.1.2.2.2.2 z⟩, ⟨(n3 10 0 11 (by decide)).trans g.2.1.1, fun k hk => by rw [n3 30 0 k (by omega)]; exact g.2.1.2 k hk⟩, n1, g.2.2.2.1, nt_ok g.2.2.2.2 (by decide) (by omega)⟩
  obtain ⟨M1, f1, y1, y2⟩ := (rf_sgn (hi := 99) (h0 := 99) hB g rfl (by decide)).2 h2
  obtain ⟨M2, f2, z1, z2⟩ := (rf_sgn (hi := 99) (h0 := 99) hB g2 rfl (by decide)).2 h2
  have hc : ∀ i kb kx, jn_X4_takeSeas_32_14 m 0 i kb kx = some (false, m1) := by
    intro i kb kx
    unfold jn_X4_takeSeas_32_14
    rw [e1, pq_sb, if_neg Bool.false_ne_true]
  have hcF : cF_ m m1 := fun r i k q => x2 r i k (by unfold xc_ at q; omega)
  by_cases hfull : M.1 39 0 10 = 12 ∧ (M.1 10 0 13 = 3 ∨ M.1 10 0 13 = 5)
  · obtain ⟨q0, q⟩ := hfull
    refine ⟨m1, M2, hc, fun f kx => ?_, ?_, x1.trans z1.symm, hcF, fun r i k q1 q2 => ?_⟩
    · rw [lp_X10_list_0, show ev_ald (M.1 39 0) 61 10 = some (M.1 39 0 10) from iN_39 (k := 10) (by decide), pq_sb, if_pos q0]
      unfold jn_X10_list_26_0 jn_X10_list_35_0
      rw [g.1.1, pq_let, show f_X10_signed (s_X10_later M 0 3 (nI t.1)) 0 99 = _ from f2, pq_sb, if_neg Bool.false_ne_true]
      rcases q with q | q
      · rw [if_pos q]
      · rw [if_neg (by rw [q]; decide), if_pos q]
    · unfold f_X10_list
      rw [show ev_ald (M.1 39 0) 61 10 = some (M.1 39 0 10) from iN_39 (k := 10) (by decide), pq_sb, if_pos q0]
      unfold jn_X10_list_26 jn_X10_list_35
      rw [g.1.1, pq_let, show f_X10_signed (s_X10_later M 0 3 (nI t.1)) 0 99 = _ from f2, pq_sb, if_neg Bool.false_ne_true]
      rcases q with q | q
      · rw [if_pos q]
      · rw [if_neg (by rw [q]; decide), if_pos q]
    · rw [z2 r i k (by omega), n3 r i k (by omega)]
  · refine ⟨m1, M1, hc, fun f kx => ?_, ?_, x1.trans y1.symm, hcF, fun r i k q1 q2 => y2 r i k (by omega)⟩
    · have hj : ∀ kb kx, jn_X10_list_35_0 M 0 10 11 12 99 kb kx = some (false, M1) := by
        intro kb kx
        unfold jn_X10_list_35_0
        rw [f1, pq_sb, if_neg Bool.false_ne_true]
      rw [lp_X10_list_0, show ev_ald (M.1 39 0) 61 10 = some (M.1 39 0 10) from iN_39 (k := 10) (by decide), pq_sb]
      by_cases q0 : M.1 39 0 10 = 12
      · rw [if_pos q0, if_neg (fun q => hfull ⟨q0, Or.inl q⟩), if_neg (fun q => hfull ⟨q0, Or.inr q⟩), hj]
      · rw [if_neg q0, hj]
    · have hj : jn_X10_list_35 M 0 10 11 12 99 = some (false, M1) := by
        unfold jn_X10_list_35
        rw [f1, pq_sb, if_neg Bool.false_ne_true]
      unfold f_X10_list
      rw [show ev_ald (M.1 39 0) 61 10 = some (M.1 39 0 10) from iN_39 (k := 10) (by decide), pq_sb]
      by_cases q0 : M.1 39 0 10 = 12
      · rw [if_pos q0, if_neg (fun q => hfull ⟨q0, Or.inl q⟩), if_neg (fun q => hfull ⟨q0, Or.inr q⟩), hj]
      · rw [if_neg q0, hj]
/-- what is known behind a row: b: all went well -/
def DSr_ (B : Nat → Int32) (L e : Nat) (s0 : Nat × Nat) (P : Nat → ev_m → Prop) (m M m' M' : ev_m) (b : Bool) : Prop := (b = true → ∃ t s c, RC_ m' B L t s ∧ RR_ M' B L t s ∧ DSc_ m' M' c ∧ 1 ≤ c ∧ e ≤ t.2.1 ∧ (s.1 = 0 → s0.1 = 0 ∧ P c M')) ∧ (b = false → m'.1 7 0 8 = M'.1 10 0 16) ∧ cF_ m m' ∧ rF_ M M'
theorem sea_loop {B : Nat → Int32} {L : Nat} {P : Nat → ev_m → Prop} (hB : okB_ B L) (hP : ∀ c M M' v, P c M → (∀ k, k ≠ 10 → k < 11 + c → M'.1 39 0 k = M.1 39 0 k) → -99 ≤ v.toInt → v.toInt ≤ 99 → M'.1 39 0 (11 + c) = v → P (c + 1) M') : ∀ n f g i m M t s c, L - t.2.1 < n → i < t.2.1 → i ≠ 0 → n < f → n < g → t.2.2 = 2 ∨ t.2.2 = 3 → RC_ m B L t s → RR_ M B L t s → DSc_ m M c → (s.1 = 0 → P c M) →
    ∃ b m' M', lp_X4_takeSeas_14 0 f (nI i) m (fun z => some (true, z)) = some (b, m') ∧ lp_X10_list_0 0 10 11 12 99 g M (fun z => some (true, z)) = some (b, M') ∧ DSr_ B L t.2.1 s P m M m' M' b := by
  intro n
  have hL := hB.1
  induction n with
  | zero => intro f g i m M t s c h; omega
  | succ n ih =>
    intro f g i m M t s c hn hi hi0 hf hg htk h g0 hD hPc
    obtain ⟨f', rfl⟩ : ∃ e, f = e + 1 := ⟨f - 1, by omega⟩
    obtain ⟨g', rfl⟩ : ∃ e, g = e + 1 := ⟨g - 1, by omega⟩
    have hb := tk_b hB h.2.2.2.1
    have hgo : s_X4_goesOnWithNumber m 0 = true := by
      unfold s_X4_goesOnWithNumber
      rw [h.1.2.2]
      rcases htk with q | q <;> rw [q] <;> rfl
    rw [lp_X4_takeSeas_14, if_neg (nI_ne0 (by omega) (by omega)), if_neg (show ¬ 600 < nI i from nI_nlt (a := 600) (by omega) (by decide)), if_pos hgo]
    by_cases h2 : (sg_ B L t).2.2 = 2
    · obtain ⟨m', M', s', c', a1, a2, -, a4, a5, a6, a7, a8, a9, a10, a11⟩ := sea_item hB h g0 hD h2
      have hsb := sg_b hB h.2.2.2.1 h2
      have hxn := xn_bd (e := (sg_ B L t).2.1) hB hsb.2.2.1
      rw [a1, a2, nI_1]
      unfold jn_X10_list_83_0
      have hkk := kr_2 (tk_k hB a5.2.2.2.1)
      rw [a5.1.2.2.1]
      have hP' : s'.1 = 0 → s.1 = 0 ∧ P c' M' := fun q => by
        obtain ⟨q1, q2, q3, q4⟩ := a10 q
        subst q2
        exact ⟨q1, hP c M M' _ (hPc q1) a11 q3.1 q3.2 q4⟩
      -- does it go on?
      by_cases hnx : (xn_ B L (sg_ B L t).2.1).2.2 = 2 ∨ (xn_ B L (sg_ B L t).2.1).2.2 = 3
      · have hlt := hxn.2.2.2 (by rcases hnx with q | q <;> rw [q] <;> decide)
        obtain ⟨b, m2, M2, b1, b2, b3, b4, b5, b6⟩ := ih f' g' (i + 1) m' M' (xn_ B L (sg_ B L t).2.1) s' c' (by omega) (by omega) (by omega) (by omega) (by omega) hnx a4 a5 a6 (fun q => (hP' q).2)
        refine ⟨b, m2, M2, b1, ?_, fun hb => ?_, b4, a8.trans b5, a9.trans b6⟩
        · rcases hnx with q | q
          · rw [if_pos (hkk.1.mpr q)]
            exact b2
          · rw [if_neg (fun z => by rw [hkk.1.mp z] at q; exact absurd q (by decide)), if_pos (hkk.2.1.mpr q)]
            exact b2
        · obtain ⟨t3, s3, c3, d1, d2, d3, d4, d5, d6⟩ := b3 hb
          exact ⟨t3, s3, c3, d1, d2, d3, d4, by omega, fun q => ⟨(hP' (d6 q).1).1, (d6 q).2⟩⟩
      · have hn2 : ¬ s_X4_goesOnWithNumber m' 0 = true := by
          unfold s_X4_goesOnWithNumber
          rw [a4.1.2.2, if_neg (fun z => hnx (Or.inl z)), if_neg (fun z => hnx (Or.inr z))]
          decide
        obtain ⟨f'', rfl⟩ : ∃ e, f' = e + 1 := ⟨f' - 1, by omega⟩
        refine ⟨true, m', M', ?_, ?_, fun _ => ⟨_, s', c', a4, a5, a6, a7, by omega, hP'⟩, fun q => (by cases q), a8, a9⟩
        · rw [lp_X4_takeSeas_14, if_neg (nI_ne0 (by omega) (by omega)), if_neg (show ¬ 600 < nI (i + 1) from nI_nlt (a := 600) (by omega) (by decide)), if_neg hn2]
        · rw [if_neg (fun z => hnx (Or.inl (hkk.1.mp z))), if_neg (fun z => hnx (Or.inr (hkk.2.1.mp z)))]
    · obtain ⟨m', M', a1, a2, -, a4, a5, a6⟩ := sea_fail hB h g0 hD h2
      exact ⟨false, m', M', a1 _ _ _, a2 _ _, fun q => by (cases q), fun _ => a4, a5, a6⟩
/-- the row, from its first number on -/
theorem sea_all {B : Nat → Int32} {L c : Nat} {P : Nat → ev_m → Prop} {m M : ev_m} {t : Nat × Nat × Int32} {s : Nat × Nat} (hB : okB_ B L) (hP : ∀ c M M' v, P c M → (∀ k, k ≠ 10 → k < 11 + c → M'.1 39 0 k = M.1 39 0 k) → -99 ≤ v.toInt → v.toInt ≤ 99 → M'.1 39 0 (11 + c) = v → P (c + 1) M') (h : RC_ m B L t s) (g0 : RR_ M B L t s) (hD : DSc_ m M c) (hPc : s.1 = 0 → P c M) : ∃ b m' M', lp_X4_takeSeas_14 0 4000 0 m (fun z => some (true, z)) = some (b, m') ∧ f_X10_list M 0 10 11 12 99 = some (b, M') ∧ DSr_ B L t.2.1 s P m M m' M' b := by
  have hL := hB.1
  rw [lp_X4_takeSeas_14, if_pos rfl]
  by_cases h2 : (sg_ B L t).2.2 = 2
  · obtain ⟨m', M', s', c', a1, -, a3, a4, a5, a6, a7, a8, a9, a10, a11⟩ := sea_item hB h g0 hD h2
    have hsb := sg_b hB h.2.2.2.1 h2
    have hxn := xn_bd (e := (sg_ B L t).2.1) hB hsb.2.2.1
    rw [a1, a3, show (0 : Int32) + 1 = nI 1 from rfl]
    unfold jn_X10_list_83
    have hkk := kr_2 (tk_k hB a5.2.2.2.1)
    rw [a5.1.2.2.1]
    have hP' : s'.1 = 0 → s.1 = 0 ∧ P c' M' := fun q => by
      obtain ⟨q1, q2, q3, q4⟩ := a10 q
      subst q2
      exact ⟨q1, hP c M M' _ (hPc q1) a11 q3.1 q3.2 q4⟩
    by_cases hnx : (xn_ B L (sg_ B L t).2.1).2.2 = 2 ∨ (xn_ B L (sg_ B L t).2.1).2.2 = 3
    · have hlt := hxn.2.2.2 (by rcases hnx with q | q <;> rw [q] <;> decide)
      obtain ⟨b, m2, M2, b1, b2, b3, b4, b5, b6⟩ := sea_loop hB hP 700 3999 4000 1 m' M' (xn_ B L (sg_ B L t).2.1) s' c' (by omega) (by omega) (by omega) (by omega) (by omega) hnx a4 a5 a6 (fun q => (hP' q).2)
      refine ⟨b, m2, M2, b1, ?_, fun hb => ?_, b4, a8.trans b5, a9.trans b6⟩
      · rcases hnx with q | q
        · rw [if_pos (hkk.1.mpr q)]
          exact b2
        · rw [if_neg (fun z => by rw [hkk.1.mp z] at q; exact absurd q (by decide)), if_pos (hkk.2.1.mpr q)]
          exact b2
      · obtain ⟨t3, s3, c3, d1, d2, d3, d4, d5, d6⟩ := b3 hb
        exact ⟨t3, s3, c3, d1, d2, d3, d4, by omega, fun q => ⟨(hP' (d6 q).1).1, (d6 q).2⟩⟩
    · have hn2 : ¬ s_X4_goesOnWithNumber m' 0 = true := by
        unfold s_X4_goesOnWithNumber
        rw [a4.1.2.2, if_neg (fun z => hnx (Or.inl z)), if_neg (fun z => hnx (Or.inr z))]
        decide
      refine ⟨true, m', M', ?_, ?_, fun _ => ⟨_, s', c', a4, a5, a6, a7, by omega, hP'⟩, fun q => (by cases q), a8, a9⟩
      · rw [lp_X4_takeSeas_14, if_neg (by decide), if_neg (by decide), if_neg hn2]
      · rw [if_neg (fun z => hnx (Or.inl (hkk.1.mp z))), if_neg (fun z => hnx (Or.inr (hkk.2.1.mp z)))]
  · obtain ⟨m', M', a1, -, a3, a4, a5, a6⟩ := sea_fail hB h g0 hD h2
    exact ⟨false, m', M', a1 _ _ _, a3, fun q => by (cases q), fun _ => a4, a5, a6⟩
/-- headings -/
def DPc_ (m M : ev_m) (c : Nat) : Prop := c ≤ 60 ∧ M.1 39 0 0 = nI c ∧ m.1 5 8 1 = nI c ∧ ∀ k, k < c → m.1 15 8 k = M.1 39 0 (1 + k)
theorem DPc_.fr {m m' M M' : ev_m} {c : Nat} (h : DPc_ m M c) (hc : ∀ r i k, ¬ (r = 7 ∧ i = 0) → m'.1 r i k = m.1 r i k) (hr : ∀ r i k, ¬ (r = 10 ∧ i = 0) → M'.1 r i k = M.1 r i k) : DPc_ m' M' c := by
  obtain ⟨h0, h1, h2, h3⟩ := h
  refine ⟨h0, (hr 39 0 _ (by omega)).trans h1, (hc 5 8 1 (by omega)).trans h2, fun k hk => ?_⟩
  rw [hc 15 8 k (by omega), hr 39 0 _ (by omega)]
  exact h3 k hk
/-- one number of a row -/
theorem hdg_item {m M : ev_m} {B : Nat → Int32} {L c : Nat} {t : Nat × Nat × Int32} {s : Nat × Nat} (hB : okB_ B L) (h : RC_ m B L t s) (g : RR_ M B L t s) (hD : DPc_ m M c) (h2 : (sg_ B L t).2.2 = 2) : ∃ m' M' s' c', (∀ i kb kx, jn_X4_takeHeadings_24_6 m 0 i kb kx = kb (i + 1) m') ∧ (∀ f kx, lp_X10_list_0 0 0 1 60 9999 (f + 1) M kx = jn_X10_list_83_0 M' 0 0 1 60 9999 (fun z => lp_X10_list_0 0 0 1 60 9999 f z kx) kx) ∧ f_X10_list M 0 0 1 60 9999 = jn_X10_list_83 M' 0 0 1 60 9999 ∧ RC_ m' B L (xn_ B L (sg_ B L t).2.1) s' ∧ RR_ M' B L (xn_ B L (sg_ B L t).2.1) s' ∧ DPc_ m' M' c' ∧ 1 ≤ c' ∧ cF_ m m' ∧ rF_ M M' ∧ (s'.1 = 0 → s.1 = 0 ∧ c' = c + 1 ∧ (-9999 ≤ (sv_ B L t).toInt ∧ (sv_ B L t).toInt ≤ 9999) ∧ M'.1 39 0 (1 + c) = sv_ B L t) ∧ (∀ k, k ≠ 0 → k < 1 + c → M'.1 39 0 k = M.1 39 0 k) := by
  have hb := sg_b hB h.2.2.2.1 h2
  have hL := hB.1
  obtain ⟨m1, e1, x1, x2, x3, x4⟩ := (cl_sgn (lo := -9999) (hi := 9999) hB h).1 h2
  have hlo : (-9999 : Int32) = -nI 9999 := rfl
  have htk : t.2.2 = 2 ∨ t.2.2 = 3 := sg_k h2
  obtain ⟨h0, h39, hceq, harr⟩ := hD
  have hin : ∀ v : Int32, ¬ (v < -9999 ∨ 9999 < v) → -9999 ≤ v.toInt ∧ v.toInt ≤ 9999 := fun v hv => by
    rw [fa_lt, fa_lt, show (-9999 : Int32).toInt = -9999 from rfl, show (9999 : Int32).toInt = 9999 from rfl] at hv
    omega
  by_cases hc : c < 60
  · -- there is room
    obtain ⟨M1, f1, y1, y2, y3⟩ := (rf_sgn (hi := 9999) (h0 := 9999) hB g rfl (by decide)).1 h2
    have hD1 : DPc_ m1 M1 c := DPc_.fr ⟨h0, h39, hceq, harr⟩ x4 y3
    obtain ⟨-, k39, kceq, karr⟩ := hD1
    have kc : m1.1 5 8 1 = nI c := kceq
    have hadd : s_X3_addHeading m1 8 (m1.1 7 0 10) = (true, ev_pim (ev_pim m1 15 8 c (sv_ B L t)) 5 8 1 (nI (c + 1))) := by
      unfold s_X3_addHeading
      rw [kc, x2, if_pos (show nI c < 60 from nI_lt (b := 60) hc (by decide)), pq_put (by omega) (by decide), pq_let, show (ev_pim m1 15 8 c (sv_ B L t)).1 5 8 1 = nI c by rw [pq_pim, if_neg (by omega)]; exact kc, nI_1, pq_let]
    have hst : ∀ K : ev_m → Option (Bool × ev_m), (ev_ald (M1.1 39 0) 61 0).bind (fun x31 => (if x31 < 60 then (ev_ald (M1.1 39 0) 61 0).bind (fun x36 => (ev_ast M1 39 0 61 (1 + x36) (M1.1 10 0 20)).bind (fun m37 => (ev_ald (m37.1 39 0) 61 0).bind (fun x38 => (ev_ast m37 39 0 61 0 (x38 + 1)).bind K))) else K M1)) = K (ev_pim (ev_pim M1 39 0 (1 + c) (sv_ B L t)) 39 0 0 (nI (c + 1))) := by
      intro K
      rw [show ∀ M : ev_m, ev_ald (M.1 39 0) 61 0 = some (M.1 39 0 0) from fun M => iN_39 (k := 0) (by decide), pq_sb, k39, if_pos (show nI c < 60 from nI_lt (b := 60) hc (by decide)), pq_sb, show 1 + nI c = nI (1 + c) from nI_add 1 c, sN_39 (by omega), pq_sb, y2, show ∀ M : ev_m, ev_ald (M.1 39 0) 61 0 = some (M.1 39 0 0) from fun M => iN_39 (k := 0) (by decide), pq_sb, show (ev_pim M1 39 0 (1 + c) (sv_ B L t)).1 39 0 0 = nI c by rw [pq_pim, if_neg (by omega)]; exact k39, nI_1, show ∀ (M : ev_m) x, ev_ast M 39 0 61 0 x = some (ev_pim M 39 0 0 x) from fun M x => sN_39 (k := 0) (by decide), pq_sb]
    have hne : ¬ (M.1 39 0 0 = 60) := by
      rw [h39]
      intro e
      have := (nI_eq (a := c) (b := 60) (by omega) (by decide)).mp e
      omega
    have h35 : ∀ kb kx, jn_X10_list_35_0 M 0 0 1 60 9999 kb kx = jn_X10_list_83_0 (ev_pim (ev_pim M1 39 0 (1 + c) (sv_ B L t)) 39 0 0 (nI (c + 1))) 0 0 1 60 9999 kb kx := by
      intro kb kx
      unfold jn_X10_list_35_0
      rw [f1, pq_sb, if_pos rfl]
      exact hst (fun m39 => jn_X10_list_83_0 m39 0 0 1 60 9999 kb kx)
    have h35b : jn_X10_list_35 M 0 0 1 60 9999 = jn_X10_list_83 (ev_pim (ev_pim M1 39 0 (1 + c) (sv_ B L t)) 39 0 0 (nI (c + 1))) 0 0 1 60 9999 := by
      unfold jn_X10_list_35
      rw [f1, pq_sb, if_pos rfl]
      exact hst (fun m39 => jn_X10_list_83 m39 0 0 1 60 9999)
    refine ⟨ev_pim (ev_pim m1 15 8 c (sv_ B L t)) 5 8 1 (nI (c + 1)), ev_pim (ev_pim M1 39 0 (1 + c) (sv_ B L t)) 39 0 0 (nI (c + 1)), _, c + 1, fun i kb kx => ?_, fun f kx => ?_, ?_, x1.fr (fun r i k q => by rw [pq_pim, if_neg (by omega), pq_pim, if_neg (by omega)]), y1.fr rfl (fun r i k q => by rw [pq_pim, if_neg (by omega), pq_pim, if_neg (by omega)]), ⟨by omega, by rw [pq_pim, if_pos ⟨rfl, rfl, rfl⟩], ?_, fun k hk => ?_⟩, by omega, fun r i k q => ?_, fun r i k q q2 => ?_, fun q => ?_, fun k q q2 => ?_⟩
    · unfold jn_X4_takeHeadings_24_6
      rw [e1, pq_sb, if_pos rfl, hadd, pq_let, if_pos rfl]
      rfl
    · rw [lp_X10_list_0, show ev_ald (M.1 39 0) 61 0 = some (M.1 39 0 0) from iN_39 (k := 0) (by decide), pq_sb, if_neg hne]
      exact h35 _ _
    · unfold f_X10_list
      rw [show ev_ald (M.1 39 0) 61 0 = some (M.1 39 0 0) from iN_39 (k := 0) (by decide), pq_sb, if_neg hne]
      exact h35b
    · rw [pq_pim, if_pos ⟨rfl, rfl, rfl⟩]
    · rw [pq_pim, if_neg (by omega), pq_pim]
      by_cases e : k = c
      · rw [if_pos ⟨rfl, rfl, e⟩, pq_pim, if_neg (by omega), pq_pim, if_pos ⟨rfl, rfl, by rw [e]⟩]
      · rw [if_neg (fun z => e z.2.2), karr k (by omega), pq_pim, if_neg (by omega), pq_pim, if_neg (by omega)]
    · unfold xc_ at q
      rw [pq_pim, if_neg (by omega), pq_pim, if_neg (by omega)]
      exact x4 r i k (by omega)
    · rw [pq_pim, if_neg (by omega), pq_pim, if_neg (by omega)]
      exact y3 r i k (by omega)
    · obtain ⟨q1, q2⟩ := nt_0 q
      exact ⟨q1, rfl, hin _ q2, by rw [pq_pim, if_neg (by omega), pq_pim, if_pos ⟨rfl, rfl, rfl⟩]⟩
    · rw [pq_pim, if_neg (by omega), pq_pim, if_neg (by omega)]
      exact y3 39 0 k (by omega)
  · -- full
    have ec : c = 60 := by omega
    subst ec
    have hkr : M.1 10 0 13 = 3 ∨ M.1 10 0 13 = 5 := by
      rw [g.1.2.2.1]
      rcases htk with q | q <;> rw [q]
      · exact Or.inl rfl
      · exact Or.inr rfl
    obtain ⟨n1, n2, n3⟩ := rf_later (f := 3) (p := t.1) g.2.2.1 g.2.2.2.2 (by decide) (by decide) (by omega)
    have g2 : RR_ (s_X10_later M 0 (nI 3) (nI t.1)) B L t (nt_ 3 t.1 s) := ⟨⟨(n3 10 0 12 (by decide)).trans g.1.1, (n3 10 0 10 (by decide)).trans g.1.2.1, (n3 10 0 13 (by decide)).trans g.1.2.2.1, fun z => (n3 10 0 14 (by decide)).trans (g.1.2.2.2.1 z), fun z => by rw [n2]; exact g.1.2.2.2.2 z⟩, ⟨(n3 10 0 11 (by decide)).trans g.2.1.1, fun k hk => by rw [n3 30 0 k (by omega)]; exact g.2.1.2 k hk⟩, n1, g.2.2.2.1, nt_ok g.2.2.2.2 (by decide) (by omega)⟩
    obtain ⟨M1, f1, y1, y2, y3⟩ := (rf_sgn (hi := 9999) (h0 := 9999) hB g2 rfl (by decide)).1 h2
    have y3' : ∀ r i k, ¬ (r = 10 ∧ i = 0) → M1.1 r i k = M.1 r i k := fun r i k hr => (y3 r i k hr).trans (n3 r i k (by omega))
    have hD1 : DPc_ m1 M1 60 := DPc_.fr ⟨h0, h39, hceq, harr⟩ x4 y3'
    obtain ⟨-, k39, kceq, karr⟩ := hD1
    have kc : m1.1 5 8 1 = nI 60 := kceq
    have hadd : s_X3_addHeading m1 8 (m1.1 7 0 10) = (false, m1) := by
      unfold s_X3_addHeading
      rw [kc, if_neg (by decide)]
    obtain ⟨p1, p2, p3⟩ := cl_note (f := 3) (p := t.1) x1.2.2.1 x1.2.2.2.2 (by decide) (by decide) (by omega)
    have x1' : RC_ (s_X4_note m1 0 (nI 3) (nI t.1)) B L (xn_ B L (sg_ B L t).2.1) (nt_ 3 t.1 (if sv_ B L t < -9999 ∨ 9999 < sv_ B L t then nt_ 2 (sg_ B L t).1 s else s)) := ⟨⟨(p3 7 0 8 (by decide)).trans x1.1.1, (p3 7 0 9 (by decide)).trans x1.1.2.1, (p3 7 0 7 (by decide)).trans x1.1.2.2⟩, ⟨(p3 2 4 1 (by decide)).trans x1.2.1.1, fun k hk => by rw [p3 11 4 k (by omega)]; exact x1.2.1.2 k hk⟩, p1, x1.2.2.2.1, nt_ok x1.2.2.2.2 (by decide) (by omega)⟩
    have hse : (if sv_ B L t < -9999 ∨ 9999 < sv_ B L t then nt_ 2 (sg_ B L t).1 (nt_ 3 t.1 s) else nt_ 3 t.1 s) = nt_ 3 t.1 (if sv_ B L t < -9999 ∨ 9999 < sv_ B L t then nt_ 2 (sg_ B L t).1 s else s) := by
      split
      · exact nt_comm (by decide) (by decide)
      · rfl
    rw [hse] at y1
    have hst : ∀ K : ev_m → Option (Bool × ev_m), (ev_ald (M1.1 39 0) 61 0).bind (fun x31 => (if x31 < 60 then (ev_ald (M1.1 39 0) 61 0).bind (fun x36 => (ev_ast M1 39 0 61 (1 + x36) (M1.1 10 0 20)).bind (fun m37 => (ev_ald (m37.1 39 0) 61 0).bind (fun x38 => (ev_ast m37 39 0 61 0 (x38 + 1)).bind K))) else K M1)) = K M1 := by
      intro K
      rw [show ev_ald (M1.1 39 0) 61 0 = some (M1.1 39 0 0) from iN_39 (k := 0) (by decide), pq_sb, k39, if_neg (by decide)]
    have h35 : ∀ kb kx, jn_X10_list_35_0 (s_X10_later M 0 (nI 3) (nI t.1)) 0 0 1 60 9999 kb kx = jn_X10_list_83_0 M1 0 0 1 60 9999 kb kx := by
      intro kb kx
      unfold jn_X10_list_35_0
      rw [f1, pq_sb, if_pos rfl]
      exact hst (fun m39 => jn_X10_list_83_0 m39 0 0 1 60 9999 kb kx)
    have h35b : jn_X10_list_35 (s_X10_later M 0 (nI 3) (nI t.1)) 0 0 1 60 9999 = jn_X10_list_83 M1 0 0 1 60 9999 := by
      unfold jn_X10_list_35
      rw [f1, pq_sb, if_pos rfl]
      exact hst (fun m39 => jn_X10_list_83 m39 0 0 1 60 9999)
    refine ⟨s_X4_note m1 0 (nI 3) (nI t.1), M1, _, 60, fun i kb kx => ?_, fun f kx => ?_, ?_, x1', y1, DPc_.fr ⟨h0, k39, kceq, karr⟩ (fun r i k hr => p3 r i k (by omega)) (fun _ _ _ _ => rfl), by decide, fun r i k q => ?_, fun r i k q q2 => ?_, fun q => absurd q (nt_ne (by decide)), fun k q q2 => ?_⟩
    · unfold jn_X4_takeHeadings_24_6
      rw [e1, pq_sb, if_pos rfl, hadd, pq_let, if_neg Bool.false_ne_true, x3, pq_let]
      rfl
    · rw [lp_X10_list_0, show ev_ald (M.1 39 0) 61 0 = some (M.1 39 0 0) from iN_39 (k := 0) (by decide), pq_sb, h39, if_pos (show nI 60 = 60 from rfl)]
      unfold jn_X10_list_26_0
      rw [g.1.1, pq_let]
      rcases hkr with q | q
      · rw [if_pos q]
        exact h35 _ _
      · rw [if_neg (by rw [q]; decide), if_pos q]
        exact h35 _ _
    · unfold f_X10_list
      rw [show ev_ald (M.1 39 0) 61 0 = some (M.1 39 0 0) from iN_39 (k := 0) (by decide), pq_sb, h39, if_pos (show nI 60 = 60 from rfl)]
      unfold jn_X10_list_26
      rw [g.1.1, pq_let]
      rcases hkr with q | q
      · rw [if_pos q]
        exact h35b
      · rw [if_neg (by rw [q]; decide), if_pos q]
        exact h35b
    · unfold xc_ at q
      rw [p3 r i k (by omega)]
      exact x4 r i k (by omega)
    · exact y3' r i k (by omega)
    · exact y3' 39 0 k (by omega)
theorem hdg_fail {m M : ev_m} {B : Nat → Int32} {L c : Nat} {t : Nat × Nat × Int32} {s : Nat × Nat} (hB : okB_ B L) (h : RC_ m B L t s) (g : RR_ M B L t s) (hD : DPc_ m M c) (h2 : (sg_ B L t).2.2 ≠ 2) : ∃ m' M', (∀ i kb kx, jn_X4_takeHeadings_24_6 m 0 i kb kx = some (false, m')) ∧ (∀ f kx, lp_X10_list_0 0 0 1 60 9999 (f + 1) M kx = some (false, M')) ∧ f_X10_list M 0 0 1 60 9999 = some (false, M') ∧ m'.1 7 0 8 = M'.1 10 0 16 ∧ cF_ m m' ∧ rF_ M M' := by
  have hL := hB.1
  have hb := tk_b hB h.2.2.2.1
  obtain ⟨m1, e1, x1, x2⟩ := (cl_sgn (lo := -9999) (hi := 9999) hB h).2 h2
  obtain ⟨h0, h39, hceq, harr⟩ := hD
  obtain ⟨n1, n2, n3⟩ := rf_later (f := 3) (p := t.1) g.2.2.1 g.2.2.2.2 (by decide) (by decide) (by omega)
  have g2 : RR_ (s_X10_later M 0 (nI 3) (nI t.1)) B L t (nt_ 3 t.1 s) := ⟨⟨(n3 10 0 12 (by decide)).trans g.1.1, (n3 10 0 10 (by decide)).trans g.1.2.1, (n3 10 0 13 (by decide)).trans g.1.2.2.1, fun z => (n3 10 0 14 (by decide)).trans (g.1.2.2.2.1 z), fun z => by rw [n2]; exact g.1.2.2.2.2 z⟩, ⟨(n3 10 0 11 (by decide)).trans g.2.1.1, fun k hk => by rw [n3 30 0 k (by omega)]; exact g.2.1.2 k hk⟩, n1, g.2.2.2.1, nt_ok g.2.2.2.2 (by decide) (by omega)⟩
  obtain ⟨M1, f1, y1, y2⟩ := (rf_sgn (hi := 9999) (h0 := 9999) hB g rfl (by decide)).2 h2
  obtain ⟨M2, f2, z1, z2⟩ := (rf_sgn (hi := 9999) (h0 := 9999) hB g2 rfl (by decide)).2 h2
  have hc : ∀ i kb kx, jn_X4_takeHeadings_24_6 m 0 i kb kx = some (false, m1) := by
    intro i kb kx
    unfold jn_X4_takeHeadings_24_6
    rw [e1, pq_sb, if_neg Bool.false_ne_true]
  have hcF : cF_ m m1 := fun r i k q => x2 r i k (by unfold xc_ at q; omega)
  by_cases hfull : M.1 39 0 0 = 60 ∧ (M.1 10 0 13 = 3 ∨ M.1 10 0 13 = 5)
  · obtain ⟨q0, q⟩ := hfull
    refine ⟨m1, M2, hc, fun f kx => ?_, ?_, x1.trans z1.symm, hcF, fun r i k q1 q2 => ?_⟩
    · rw [lp_X10_list_0, show ev_ald (M.1 39 0) 61 0 = some (M.1 39 0 0) from iN_39 (k := 0) (by decide), pq_sb, if_pos q0]
      unfold jn_X10_list_26_0 jn_X10_list_35_0
      rw [g.1.1, pq_let, show f_X10_signed (s_X10_later M 0 3 (nI t.1)) 0 9999 = _ from f2, pq_sb, if_neg Bool.false_ne_true]
      rcases q with q | q
      · rw [if_pos q]
      · rw [if_neg (by rw [q]; decide), if_pos q]
    · unfold f_X10_list
      rw [show ev_ald (M.1 39 0) 61 0 = some (M.1 39 0 0) from iN_39 (k := 0) (by decide), pq_sb, if_pos q0]
      unfold jn_X10_list_26 jn_X10_list_35
      rw [g.1.1, pq_let, show f_X10_signed (s_X10_later M 0 3 (nI t.1)) 0 9999 = _ from f2, pq_sb, if_neg Bool.false_ne_true]
      rcases q with q | q
      · rw [if_pos q]
      · rw [if_neg (by rw [q]; decide), if_pos q]
    · rw [z2 r i k (by omega), n3 r i k (by omega)]
  · refine ⟨m1, M1, hc, fun f kx => ?_, ?_, x1.trans y1.symm, hcF, fun r i k q1 q2 => y2 r i k (by omega)⟩
    · have hj : ∀ kb kx, jn_X10_list_35_0 M 0 0 1 60 9999 kb kx = some (false, M1) := by
        intro kb kx
        unfold jn_X10_list_35_0
        rw [f1, pq_sb, if_neg Bool.false_ne_true]
      rw [lp_X10_list_0, show ev_ald (M.1 39 0) 61 0 = some (M.1 39 0 0) from iN_39 (k := 0) (by decide), pq_sb]
      by_cases q0 : M.1 39 0 0 = 60
      · rw [if_pos q0, if_neg (fun q => hfull ⟨q0, Or.inl q⟩), if_neg (fun q => hfull ⟨q0, Or.inr q⟩), hj]
      · rw [if_neg q0, hj]
    · have hj : jn_X10_list_35 M 0 0 1 60 9999 = some (false, M1) := by
        unfold jn_X10_list_35
        rw [f1, pq_sb, if_neg Bool.false_ne_true]
      unfold f_X10_list
      rw [show ev_ald (M.1 39 0) 61 0 = some (M.1 39 0 0) from iN_39 (k := 0) (by decide), pq_sb]
      by_cases q0 : M.1 39 0 0 = 60
      · rw [if_pos q0, if_neg (fun q => hfull ⟨q0, Or.inl q⟩), if_neg (fun q => hfull ⟨q0, Or.inr q⟩), hj]
      · rw [if_neg q0, hj]
/-- what is known behind a row: b: all went well -/
def DPr_ (B : Nat → Int32) (L e : Nat) (s0 : Nat × Nat) (P : Nat → ev_m → Prop) (m M m' M' : ev_m) (b : Bool) : Prop := (b = true → ∃ t s c, RC_ m' B L t s ∧ RR_ M' B L t s ∧ DPc_ m' M' c ∧ 1 ≤ c ∧ e ≤ t.2.1 ∧ (s.1 = 0 → s0.1 = 0 ∧ P c M')) ∧ (b = false → m'.1 7 0 8 = M'.1 10 0 16) ∧ cF_ m m' ∧ rF_ M M'
theorem hdg_loop {B : Nat → Int32} {L : Nat} {P : Nat → ev_m → Prop} (hB : okB_ B L) (hP : ∀ c M M' v, P c M → (∀ k, k ≠ 0 → k < 1 + c → M'.1 39 0 k = M.1 39 0 k) → -9999 ≤ v.toInt → v.toInt ≤ 9999 → M'.1 39 0 (1 + c) = v → P (c + 1) M') : ∀ n f g i m M t s c, L - t.2.1 < n → i < t.2.1 → i ≠ 0 → n < f → n < g → t.2.2 = 2 ∨ t.2.2 = 3 → RC_ m B L t s → RR_ M B L t s → DPc_ m M c → (s.1 = 0 → P c M) →
    ∃ b m' M', lp_X4_takeHeadings_6 0 f (nI i) m (fun z => some (true, z)) = some (b, m') ∧ lp_X10_list_0 0 0 1 60 9999 g M (fun z => some (true, z)) = some (b, M') ∧ DPr_ B L t.2.1 s P m M m' M' b := by
  intro n
  have hL := hB.1
  induction n with
  | zero => intro f g i m M t s c h; omega
  | succ n ih =>
    intro f g i m M t s c hn hi hi0 hf hg htk h g0 hD hPc
    obtain ⟨f', rfl⟩ : ∃ e, f = e + 1 := ⟨f - 1, by omega⟩
    obtain ⟨g', rfl⟩ : ∃ e, g = e + 1 := ⟨g - 1, by omega⟩
    have hb := tk_b hB h.2.2.2.1
    have hgo : s_X4_goesOnWithNumber m 0 = true := by
      unfold s_X4_goesOnWithNumber
      rw [h.1.2.2]
      rcases htk with q | q <;> rw [q] <;> rfl
    rw [lp_X4_takeHeadings_6, if_neg (nI_ne0 (by omega) (by omega)), if_neg (show ¬ 600 < nI i from nI_nlt (a := 600) (by omega) (by decide)), if_pos hgo]
    by_cases h2 : (sg_ B L t).2.2 = 2
    · obtain ⟨m', M', s', c', a1, a2, -, a4, a5, a6, a7, a8, a9, a10, a11⟩ := hdg_item hB h g0 hD h2
      have hsb := sg_b hB h.2.2.2.1 h2
      have hxn := xn_bd (e := (sg_ B L t).2.1) hB hsb.2.2.1
      rw [a1, a2, nI_1]
      unfold jn_X10_list_83_0
      have hkk := kr_2 (tk_k hB a5.2.2.2.1)
      rw [a5.1.2.2.1]
      have hP' : s'.1 = 0 → s.1 = 0 ∧ P c' M' := fun q => by
        obtain ⟨q1, q2, q3, q4⟩ := a10 q
        subst q2
        exact ⟨q1, hP c M M' _ (hPc q1) a11 q3.1 q3.2 q4⟩
      -- does it go on?
      by_cases hnx : (xn_ B L (sg_ B L t).2.1).2.2 = 2 ∨ (xn_ B L (sg_ B L t).2.1).2.2 = 3
      · have hlt := hxn.2.2.2 (by rcases hnx with q | q <;> rw [q] <;> decide)
        obtain ⟨b, m2, M2, b1, b2, b3, b4, b5, b6⟩ := ih f' g' (i + 1) m' M' (xn_ B L (sg_ B L t).2.1) s' c' (by omega) (by omega) (by omega) (by omega) (by omega) hnx a4 a5 a6 (fun q => (hP' q).2)
        refine ⟨b, m2, M2, b1, ?_, fun hb => ?_, b4, a8.trans b5, a9.trans b6⟩
        · rcases hnx with q | q
          · rw [if_pos (hkk.1.mpr q)]
            exact b2
          · rw [if_neg (fun z => by rw [hkk.1.mp z] at q; exact absurd q (by decide)), if_pos (hkk.2.1.mpr q)]
            exact b2
        · obtain ⟨t3, s3, c3, d1, d2, d3, d4, d5, d6⟩ := b3 hb
          exact ⟨t3, s3, c3, d1, d2, d3, d4, by omega, fun q => ⟨(hP' (d6 q).1).1, (d6 q).2⟩⟩
      · have hn2 : ¬ s_X4_goesOnWithNumber m' 0 = true := by
          unfold s_X4_goesOnWithNumber
          rw [a4.1.2.2, if_neg (fun z => hnx (Or.inl z)), if_neg (fun z => hnx (Or.inr z))]
          decide
        obtain ⟨f'', rfl⟩ : ∃ e, f' = e + 1 := ⟨f' - 1, by omega⟩
        refine ⟨true, m', M', ?_, ?_, fun _ => ⟨_, s', c', a4, a5, a6, a7, by omega, hP'⟩, fun q => (by cases q), a8, a9⟩
        · rw [lp_X4_takeHeadings_6, if_neg (nI_ne0 (by omega) (by omega)), if_neg (show ¬ 600 < nI (i + 1) from nI_nlt (a := 600) (by omega) (by decide)), if_neg hn2]
        · rw [if_neg (fun z => hnx (Or.inl (hkk.1.mp z))), if_neg (fun z => hnx (Or.inr (hkk.2.1.mp z)))]
    · obtain ⟨m', M', a1, a2, -, a4, a5, a6⟩ := hdg_fail hB h g0 hD h2
      exact ⟨false, m', M', a1 _ _ _, a2 _ _, fun q => by (cases q), fun _ => a4, a5, a6⟩
/-- the row, from its first number on -/
theorem hdg_all {B : Nat → Int32} {L c : Nat} {P : Nat → ev_m → Prop} {m M : ev_m} {t : Nat × Nat × Int32} {s : Nat × Nat} (hB : okB_ B L) (hP : ∀ c M M' v, P c M → (∀ k, k ≠ 0 → k < 1 + c → M'.1 39 0 k = M.1 39 0 k) → -9999 ≤ v.toInt → v.toInt ≤ 9999 → M'.1 39 0 (1 + c) = v → P (c + 1) M') (h : RC_ m B L t s) (g0 : RR_ M B L t s) (hD : DPc_ m M c) (hPc : s.1 = 0 → P c M) : ∃ b m' M', lp_X4_takeHeadings_6 0 4000 0 m (fun z => some (true, z)) = some (b, m') ∧ f_X10_list M 0 0 1 60 9999 = some (b, M') ∧ DPr_ B L t.2.1 s P m M m' M' b := by
  have hL := hB.1
  rw [lp_X4_takeHeadings_6, if_pos rfl]
  by_cases h2 : (sg_ B L t).2.2 = 2
  · obtain ⟨m', M', s', c', a1, -, a3, a4, a5, a6, a7, a8, a9, a10, a11⟩ := hdg_item hB h g0 hD h2
    have hsb := sg_b hB h.2.2.2.1 h2
    have hxn := xn_bd (e := (sg_ B L t).2.1) hB hsb.2.2.1
    rw [a1, a3, show (0 : Int32) + 1 = nI 1 from rfl]
    unfold jn_X10_list_83
    have hkk := kr_2 (tk_k hB a5.2.2.2.1)
    rw [a5.1.2.2.1]
    have hP' : s'.1 = 0 → s.1 = 0 ∧ P c' M' := fun q => by
      obtain ⟨q1, q2, q3, q4⟩ := a10 q
      subst q2
      exact ⟨q1, hP c M M' _ (hPc q1) a11 q3.1 q3.2 q4⟩
    by_cases hnx : (xn_ B L (sg_ B L t).2.1).2.2 = 2 ∨ (xn_ B L (sg_ B L t).2.1).2.2 = 3
    · have hlt := hxn.2.2.2 (by rcases hnx with q | q <;> rw [q] <;> decide)
      obtain ⟨b, m2, M2, b1, b2, b3, b4, b5, b6⟩ := hdg_loop hB hP 700 3999 4000 1 m' M' (xn_ B L (sg_ B L t).2.1) s' c' (by omega) (by omega) (by omega) (by omega) (by omega) hnx a4 a5 a6 (fun q => (hP' q).2)
      refine ⟨b, m2, M2, b1, ?_, fun hb => ?_, b4, a8.trans b5, a9.trans b6⟩
      · rcases hnx with q | q
        · rw [if_pos (hkk.1.mpr q)]
          exact b2
        · rw [if_neg (fun z => by rw [hkk.1.mp z] at q; exact absurd q (by decide)), if_pos (hkk.2.1.mpr q)]
          exact b2
      · obtain ⟨t3, s3, c3, d1, d2, d3, d4, d5, d6⟩ := b3 hb
        exact ⟨t3, s3, c3, d1, d2, d3, d4, by omega, fun q => ⟨(hP' (d6 q).1).1, (d6 q).2⟩⟩
    · have hn2 : ¬ s_X4_goesOnWithNumber m' 0 = true := by
        unfold s_X4_goesOnWithNumber
        rw [a4.1.2.2, if_neg (fun z => hnx (Or.inl z)), if_neg (fun z => hnx (Or.inr z))]
        decide
      refine ⟨true, m', M', ?_, ?_, fun _ => ⟨_, s', c', a4, a5, a6, a7, by omega, hP'⟩, fun q => (by cases q), a8, a9⟩
      · rw [lp_X4_takeHeadings_6, if_neg (by decide), if_neg (by decide), if_neg hn2]
      · rw [if_neg (fun z => hnx (Or.inl (hkk.1.mp z))), if_neg (fun z => hnx (Or.inr (hkk.2.1.mp z)))]
  · obtain ⟨m', M', a1, -, a3, a4, a5, a6⟩ := hdg_fail hB h g0 hD h2
    exact ⟨false, m', M', a1 _ _ _, a3, fun q => by (cases q), fun _ => a4, a5, a6⟩
