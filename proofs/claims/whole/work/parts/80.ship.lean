/-! pure: texts: lines of ships -/
/-- behind a line: b: all went well -/
def LN_ (B : Nat → Int32) (L e : Nat) (J : Nat × Nat → ev_m → ev_m → Prop) (m M m' M' : ev_m) (b : Bool) : Prop := (b = true → ∃ t s, RC_ m' B L t s ∧ RR_ M' B L t s ∧ J s m' M' ∧ e ≤ t.2.1) ∧ (b = false → m'.1 7 0 8 = M'.1 10 0 16) ∧ cF_ m m' ∧ rF_ M M'
theorem LN_.bad {B : Nat → Int32} {L e : Nat} {J : Nat × Nat → ev_m → ev_m → Prop} {m M m' M' : ev_m} (h : m'.1 7 0 8 = M'.1 10 0 16) (hc : cF_ m m') (hr : rF_ M M') : LN_ B L e J m M m' M' false := ⟨fun q => (by cases q), fun _ => h, hc, hr⟩
theorem LN_.step {B : Nat → Int32} {L e e1 : Nat} {J : Nat × Nat → ev_m → ev_m → Prop} {m M m1 M1 m' M' : ev_m} {b : Bool} (h : LN_ B L e1 J m1 M1 m' M' b) (he : e ≤ e1) (hc : cF_ m m1) (hr : rF_ M M1) : LN_ B L e J m M m' M' b :=
  ⟨fun q => by
    obtain ⟨t, s, h1, h2, h3, h4⟩ := h.1 q
    exact ⟨t, s, h1, h2, h3, by omega⟩, h.2.1, hc.trans h.2.2.1, hr.trans h.2.2.2⟩
theorem xF_c.c {m m' : ev_m} (h : xF_c m m') : cF_ m m' := fun r i k q => h r i k (by unfold xc_ at q; omega)
theorem xF_r.r {m m' : ev_m} (h : xF_r m m') : rF_ m m' := fun r i k q _ => h r i k (by omega)
theorem tK_eq {B : Nat → Int32} {t : Nat × Nat × Int32} {j : Nat} (hj : j < 22) (h : tK_ B t j = true) : ∀ i, i < 22 → tK_ B t i = decide (i = j) := by
  intro i hi
  by_cases e : i = j
  · rw [e, h, decide_eq_true rfl]
  · rw [decide_eq_false e]
    cases h2 : tK_ B t i with
    | false => rfl
    | true => exact absurd (tK_one hi hj h2 h) e
theorem tK_or (B : Nat → Int32) (t : Nat × Nat × Int32) : (∃ j, j < 22 ∧ tK_ B t j = true) ∨ ∀ j, j < 22 → tK_ B t j = false := by
  by_cases h : ∃ j, j < 22 ∧ tK_ B t j = true
  · exact Or.inl h
  · right
    intro j hj
    cases h2 : tK_ B t j with
    | false => rfl
    | true => exact absurd ⟨j, hj, h2⟩ h
theorem cl_shipW {m : ev_m} {B : Nat → Int32} {L j : Nat} {t : Nat × Nat × Int32} {s : Nat × Nat} (hB : okB_ B L) (h : RC_ m B L t s) (hj : j < 22) (tj : tK_ B t j = true) : f_X4_shipWord m 0 = some (if j = 0 then -1 else if j ≤ 9 then nI (j - 1) else -1) := by
  have e : ∀ i, i < 22 → f_X4_isWord m 0 i = some (decide (i = j)) := fun i hi => by rw [cl_isWord hB h hi, tK_eq hj tj i hi]
  unfold f_X4_shipWord
  simp only [e 1 (by decide), e 2 (by decide), e 3 (by decide), e 4 (by decide), e 5 (by decide), e 6 (by decide), e 7 (by decide), e 8 (by decide), e 9 (by decide), pq_sb, decide_eq_true_eq]
  rcases (show j = 0 ∨ j = 1 ∨ j = 2 ∨ j = 3 ∨ j = 4 ∨ j = 5 ∨ j = 6 ∨ j = 7 ∨ j = 8 ∨ j = 9 ∨ 10 ≤ j by omega) with q | q | q | q | q | q | q | q | q | q | q
  all_goals first
    | (subst q; rfl)
    | (rw [if_neg (by omega), if_neg (by omega), if_neg (by omega), if_neg (by omega), if_neg (by omega), if_neg (by omega), if_neg (by omega), if_neg (by omega), if_neg (by omega), if_neg (by omega), if_neg (by omega)])
theorem cl_shipN {m : ev_m} {B : Nat → Int32} {L : Nat} {t : Nat × Nat × Int32} {s : Nat × Nat} (hB : okB_ B L) (h : RC_ m B L t s) (hn : ∀ j, j < 22 → tK_ B t j = false) : f_X4_shipWord m 0 = some (-1) := by
  have e : ∀ i, i < 22 → f_X4_isWord m 0 i = some false := fun i hi => by rw [cl_isWord hB h hi, hn i hi]
  unfold f_X4_shipWord
  simp only [e 1 (by decide), e 2 (by decide), e 3 (by decide), e 4 (by decide), e 5 (by decide), e 6 (by decide), e 7 (by decide), e 8 (by decide), e 9 (by decide), pq_sb, Bool.false_eq_true, ↓reduceIte]
theorem rf_stops (M : ev_m) : s_X10_stops M 0 = (false, ev_pim M 10 0 16 (M.1 10 0 12)) := rfl
theorem LN_.stop {B : Nat → Int32} {L e : Nat} {J : Nat × Nat → ev_m → ev_m → Prop} {m M : ev_m} {t : Nat × Nat × Int32} {s : Nat × Nat} (h : RC_ m B L t s) (g : RR_ M B L t s) : LN_ B L e J m M m (ev_pim M 10 0 16 (M.1 10 0 12)) false :=
  LN_.bad (by rw [pq_pim, if_pos ⟨rfl, rfl, rfl⟩, h.1.1, g.1.1]) (fun _ _ _ _ => rfl) (fun r i k q _ => by rw [pq_pim, if_neg (by omega)])
/-- what a ship's draft keeps to -/
def pS_ (S : Nat → Int32) : Prop := (0 ≤ (S 2).toInt ∧ (S 2).toInt ≤ 9) ∧ (0 ≤ (S 3).toInt ∧ (S 3).toInt ≤ 35) ∧ (0 ≤ (S 4).toInt ∧ (S 4).toInt ≤ 35) ∧ (0 ≤ (S 5).toInt ∧ (S 5).toInt ≤ 99) ∧ (-999 ≤ (S 8).toInt ∧ (S 8).toInt ≤ 999)
def JS_ (s : Nat × Nat) (m M : ev_m) : Prop := ∃ c, DSc_ m M c ∧ 1 ≤ c ∧ (s.1 = 0 → pS_ (M.1 39 0))
theorem JS_.fr {s : Nat × Nat} {m m' M M' : ev_m} (h : JS_ s m M) (hc : ∀ r i k, ¬ (r = 7 ∧ i = 0) → m'.1 r i k = m.1 r i k) (hr : ∀ r i k, ¬ (r = 10 ∧ i = 0) → M'.1 r i k = M.1 r i k) : JS_ s m' M' := by
  obtain ⟨c, h1, h2, h3⟩ := h
  have e : M'.1 39 0 = M.1 39 0 := funext fun k => hr 39 0 k (by omega)
  exact ⟨c, h1.fr hc hr, h2, fun q => by rw [e]; exact h3 q⟩
theorem pim_39 (M : ev_m) (k : Nat) (v : Int32) : (ev_pim M 39 0 k v).1 39 0 = upd (M.1 39 0) k v := by
  funext j
  rw [pq_pim]
  unfold upd
  by_cases q : j = k
  · rw [if_pos ⟨rfl, rfl, q⟩, if_pos q]
  · rw [if_neg (fun z => q z.2.2), if_neg q]
theorem JS_.put {s s' : Nat × Nat} {m M : ev_m} {k : Nat} {v : Int32} (h : JS_ s m M) (hk : k < 10) (hs : s'.1 = 0 → s.1 = 0 ∧ ∀ S, pS_ S → pS_ (upd S k v)) : JS_ s' (ev_pim m 3 9 k v) (ev_pim M 39 0 k v) := by
  obtain ⟨c, ⟨a0, a1, a2, a3⟩, h2, h3⟩ := h
  refine ⟨c, ⟨a0, ?_, fun j hj => ?_, fun j hj => ?_⟩, h2, fun q => ?_⟩
  · rw [pq_pim, if_neg (by omega)]
    exact a1
  · rw [pq_pim, pq_pim]
    by_cases q : j = k
    · rw [if_pos ⟨rfl, rfl, q⟩, if_pos ⟨rfl, rfl, q⟩]
    · rw [if_neg (fun z => q z.2.2), if_neg (fun z => q z.2.2)]
      exact a2 j hj
  · rw [pq_pim, if_neg (by omega), pq_pim, if_neg (by omega)]
    exact a3 j hj
  · rw [pim_39]
    exact (hs q).2 _ (h3 (hs q).1)
/-- a number of a ship -/
theorem ship_u {m M : ev_m} {B : Nat → Int32} {L k : Nat} {t : Nat × Nat × Int32} {s : Nat × Nat} {lo hi : Int32} (hB : okB_ B L) (h : RC_ m B L t s) (g : RR_ M B L t s) (hJ : JS_ s m M) (hk : k < 10) (hp : ∀ S v, ¬ (v < lo ∨ hi < v) → pS_ S → pS_ (upd S k v)) : ∃ b m' M', (f_X4_takeNumber m 0 0 lo hi).bind (fun p3 => (if p3.1 = true then ev_let (s_X5_write p3.2 9 (nI k) (p3.2.1 7 0 10)) (fun m5 => (some ((true, m5)))) else (some ((false, p3.2))))) = some (b, m') ∧ f_X10_into M 0 (nI k) lo hi = some (b, M') ∧ LN_ B L t.2.1 JS_ m M m' M' b := by
  have hb := tk_b hB h.2.2.2.1
  obtain ⟨c1, c2⟩ := cl_num (lo := lo) (hi := hi) hB h
  obtain ⟨r1, r2⟩ := rf_num (lo := lo) (hi := hi) hB g
  unfold f_X10_into
  by_cases h2 : t.2.2 = 2
  · obtain ⟨m1, e1, x1, x2, x3⟩ := c1 h2
    obtain ⟨M1, f1, y1, y2, y3⟩ := r1 h2
    have hxn := xn_bd (e := t.2.1) hB hb.2.1
    rw [e1, pq_sb, if_pos rfl, x2, cl_write k hk, pq_let, f1, pq_sb, pq_let, if_pos rfl, y2]
    unfold jn_X10_into_31
    rw [sN_39 (by omega), pq_sb]
    refine ⟨true, ev_pim m1 3 9 k (nI (vn_ B t)), ev_pim M1 39 0 k (nI (vn_ B t)), rfl, rfl, fun _ => ⟨_, _, x1.fr (fun r i j q => by rw [pq_pim, if_neg (by omega)]), y1.fr rfl (fun r i j q => by rw [pq_pim, if_neg (by omega)]), (hJ.fr x3 y3).put hk (fun q => ?_), by omega⟩, fun q => (by cases q), fun r i j q => ?_, fun r i j q q2 => ?_⟩
    · obtain ⟨q1, q2⟩ := nt_0 q
      exact ⟨q1, fun S hS => hp S _ q2 hS⟩
    · unfold xc_ at q
      rw [pq_pim, if_neg (by omega)]
      exact x3 r i j (by omega)
    · rw [pq_pim, if_neg (by omega)]
      exact y3 r i j (by omega)
  · obtain ⟨m1, e1, x1, x2⟩ := c2 h2
    rw [e1, pq_sb, if_neg Bool.false_ne_true, r2 h2, pq_sb, pq_let, if_neg Bool.false_ne_true, show ∀ N : ev_m, ev_ald (N.1 39 0) 61 (nI k) = some (N.1 39 0 k) from fun N => iN_39 (by omega), pq_sb]
    unfold jn_X10_into_31
    rw [sN_39 (by omega), pq_sb]
    refine ⟨false, m1, _, rfl, rfl, LN_.bad ?_ (fun r i j q => x2 r i j (by unfold xc_ at q; omega)) (fun r i j q q2 => ?_)⟩
    · rw [x1, pq_pim, if_neg (by omega)]
      show _ = (ev_pim M 10 0 16 (nI t.1)).1 10 0 16
      rw [pq_pim, if_pos ⟨rfl, rfl, rfl⟩]
    · rw [pq_pim, if_neg (by omega)]
      show (ev_pim M 10 0 16 (nI t.1)).1 r i j = _
      rw [pq_pim, if_neg (by omega)]
theorem ship_s {m M : ev_m} {B : Nat → Int32} {L k h0 : Nat} {t : Nat × Nat × Int32} {s : Nat × Nat} {lo hi : Int32} (hB : okB_ B L) (h : RC_ m B L t s) (g : RR_ M B L t s) (hJ : JS_ s m M) (hk : k < 10) (hhi : hi = nI h0) (hh0 : h0 < 10000) (hlo : lo = -hi) (hp : ∀ S v, ¬ (v < lo ∨ hi < v) → pS_ S → pS_ (upd S k v)) : ∃ b m' M', (f_X4_takeNumber m 0 1 lo hi).bind (fun p3 => (if p3.1 = true then ev_let (s_X5_write p3.2 9 (nI k) (p3.2.1 7 0 10)) (fun m5 => (some ((true, m5)))) else (some ((false, p3.2))))) = some (b, m') ∧ f_X10_signedInto M 0 (nI k) hi = some (b, M') ∧ LN_ B L t.2.1 JS_ m M m' M' b := by
  have hb := tk_b hB h.2.2.2.1
  obtain ⟨c1, c2⟩ := cl_sgn (lo := lo) (hi := hi) hB h
  obtain ⟨r1, r2⟩ := rf_sgn hB g hhi hh0
  unfold f_X10_signedInto
  by_cases h2 : (sg_ B L t).2.2 = 2
  · obtain ⟨m1, e1, x1, x2, -, x3⟩ := c1 h2
    obtain ⟨M1, f1, y1, y2, y3⟩ := r1 h2
    have hsb := sg_b hB h.2.2.2.1 h2
    have hxn := xn_bd (e := (sg_ B L t).2.1) hB hsb.2.2.1
    rw [e1, pq_sb, if_pos rfl, x2, cl_write k hk, pq_let, f1, pq_sb, pq_let, if_pos rfl, y2]
    unfold jn_X10_signedInto_28
    rw [sN_39 (by omega), pq_sb]
    rw [hlo] at x1
    refine ⟨true, ev_pim m1 3 9 k (sv_ B L t), ev_pim M1 39 0 k (sv_ B L t), rfl, rfl, fun _ => ⟨_, _, x1.fr (fun r i j q => by rw [pq_pim, if_neg (by omega)]), y1.fr rfl (fun r i j q => by rw [pq_pim, if_neg (by omega)]), (hJ.fr x3 y3).put hk (fun q => ?_), by omega⟩, fun q => (by cases q), fun r i j q => ?_, fun r i j q q2 => ?_⟩
    · obtain ⟨q1, q2⟩ := nt_0 q
      exact ⟨q1, fun S hS => hp S _ (by rw [hlo]; exact q2) hS⟩
    · unfold xc_ at q
      rw [pq_pim, if_neg (by omega)]
      exact x3 r i j (by omega)
    · rw [pq_pim, if_neg (by omega)]
      exact y3 r i j (by omega)
  · obtain ⟨m1, e1, x1, x2⟩ := c2 h2
    obtain ⟨M1, f1, y1, y2⟩ := r2 h2
    rw [e1, pq_sb, if_neg Bool.false_ne_true, f1, pq_sb, pq_let, if_neg Bool.false_ne_true, show ∀ N : ev_m, ev_ald (N.1 39 0) 61 (nI k) = some (N.1 39 0 k) from fun N => iN_39 (by omega), pq_sb]
    unfold jn_X10_signedInto_28
    rw [sN_39 (by omega), pq_sb]
    refine ⟨false, m1, _, rfl, rfl, LN_.bad ?_ (fun r i j q => x2 r i j (by unfold xc_ at q; omega)) (fun r i j q q2 => ?_)⟩
    · rw [x1, pq_pim, if_neg (by omega)]
      exact y1.symm
    · rw [pq_pim, if_neg (by omega)]
      exact y2 r i j (by omega)
theorem tsn_0 (m : ev_m) : f_X4_takeShipNumber m 0 0 = (f_X4_takeNumber m 0 0 0 99).bind (fun p3 => (if p3.1 = true then ev_let (s_X5_write p3.2 9 (nI 0) (p3.2.1 7 0 10)) (fun m5 => (some ((true, m5)))) else (some ((false, p3.2))))) := by
  unfold f_X4_takeShipNumber
  rw [pq_let, show (if (0 : Int32) < 6 then 0 else 1 : Int32) = 0 from by decide, show ev_at (ev_cst 0) 10 0 = 0 from by decide +kernel, show ev_at (ev_cst 1) 10 0 = 99 from by decide +kernel]
  rfl
theorem tsn_1 (m : ev_m) : f_X4_takeShipNumber m 0 1 = (f_X4_takeNumber m 0 0 0 100).bind (fun p3 => (if p3.1 = true then ev_let (s_X5_write p3.2 9 (nI 1) (p3.2.1 7 0 10)) (fun m5 => (some ((true, m5)))) else (some ((false, p3.2))))) := by
  unfold f_X4_takeShipNumber
  rw [pq_let, show (if (1 : Int32) < 6 then 0 else 1 : Int32) = 0 from by decide, show ev_at (ev_cst 0) 10 1 = 0 from by decide +kernel, show ev_at (ev_cst 1) 10 1 = 100 from by decide +kernel]
  rfl
theorem tsn_2 (m : ev_m) : f_X4_takeShipNumber m 0 2 = (f_X4_takeNumber m 0 0 0 9).bind (fun p3 => (if p3.1 = true then ev_let (s_X5_write p3.2 9 (nI 2) (p3.2.1 7 0 10)) (fun m5 => (some ((true, m5)))) else (some ((false, p3.2))))) := by
  unfold f_X4_takeShipNumber
  rw [pq_let, show (if (2 : Int32) < 6 then 0 else 1 : Int32) = 0 from by decide, show ev_at (ev_cst 0) 10 2 = 0 from by decide +kernel, show ev_at (ev_cst 1) 10 2 = 9 from by decide +kernel]
  rfl
theorem tsn_3 (m : ev_m) : f_X4_takeShipNumber m 0 3 = (f_X4_takeNumber m 0 0 1 35).bind (fun p3 => (if p3.1 = true then ev_let (s_X5_write p3.2 9 (nI 3) (p3.2.1 7 0 10)) (fun m5 => (some ((true, m5)))) else (some ((false, p3.2))))) := by
  unfold f_X4_takeShipNumber
  rw [pq_let, show (if (3 : Int32) < 6 then 0 else 1 : Int32) = 0 from by decide, show ev_at (ev_cst 0) 10 3 = 1 from by decide +kernel, show ev_at (ev_cst 1) 10 3 = 35 from by decide +kernel]
  rfl
theorem tsn_4 (m : ev_m) : f_X4_takeShipNumber m 0 4 = (f_X4_takeNumber m 0 0 1 35).bind (fun p3 => (if p3.1 = true then ev_let (s_X5_write p3.2 9 (nI 4) (p3.2.1 7 0 10)) (fun m5 => (some ((true, m5)))) else (some ((false, p3.2))))) := by
  unfold f_X4_takeShipNumber
  rw [pq_let, show (if (4 : Int32) < 6 then 0 else 1 : Int32) = 0 from by decide, show ev_at (ev_cst 0) 10 4 = 1 from by decide +kernel, show ev_at (ev_cst 1) 10 4 = 35 from by decide +kernel]
  rfl
theorem tsn_5 (m : ev_m) : f_X4_takeShipNumber m 0 5 = (f_X4_takeNumber m 0 0 0 99).bind (fun p3 => (if p3.1 = true then ev_let (s_X5_write p3.2 9 (nI 5) (p3.2.1 7 0 10)) (fun m5 => (some ((true, m5)))) else (some ((false, p3.2))))) := by
  unfold f_X4_takeShipNumber
  rw [pq_let, show (if (5 : Int32) < 6 then 0 else 1 : Int32) = 0 from by decide, show ev_at (ev_cst 0) 10 5 = 0 from by decide +kernel, show ev_at (ev_cst 1) 10 5 = 99 from by decide +kernel]
  rfl
theorem tsn_6 (m : ev_m) : f_X4_takeShipNumber m 0 6 = (f_X4_takeNumber m 0 1 (-99) 99).bind (fun p3 => (if p3.1 = true then ev_let (s_X5_write p3.2 9 (nI 6) (p3.2.1 7 0 10)) (fun m5 => (some ((true, m5)))) else (some ((false, p3.2))))) := by
  unfold f_X4_takeShipNumber
  rw [pq_let, show (if (6 : Int32) < 6 then 0 else 1 : Int32) = 1 from by decide, show ev_at (ev_cst 0) 10 6 = (-99) from by decide +kernel, show ev_at (ev_cst 1) 10 6 = 99 from by decide +kernel]
  rfl
theorem tsn_7 (m : ev_m) : f_X4_takeShipNumber m 0 7 = (f_X4_takeNumber m 0 1 (-99) 99).bind (fun p3 => (if p3.1 = true then ev_let (s_X5_write p3.2 9 (nI 7) (p3.2.1 7 0 10)) (fun m5 => (some ((true, m5)))) else (some ((false, p3.2))))) := by
  unfold f_X4_takeShipNumber
  rw [pq_let, show (if (7 : Int32) < 6 then 0 else 1 : Int32) = 1 from by decide, show ev_at (ev_cst 0) 10 7 = (-99) from by decide +kernel, show ev_at (ev_cst 1) 10 7 = 99 from by decide +kernel]
  rfl
theorem tsn_8 (m : ev_m) : f_X4_takeShipNumber m 0 8 = (f_X4_takeNumber m 0 1 (-999) 999).bind (fun p3 => (if p3.1 = true then ev_let (s_X5_write p3.2 9 (nI 8) (p3.2.1 7 0 10)) (fun m5 => (some ((true, m5)))) else (some ((false, p3.2))))) := by
  unfold f_X4_takeShipNumber
  rw [pq_let, show (if (8 : Int32) < 6 then 0 else 1 : Int32) = 1 from by decide, show ev_at (ev_cst 0) 10 8 = (-999) from by decide +kernel, show ev_at (ev_cst 1) 10 8 = 999 from by decide +kernel]
  rfl
theorem tsn_9 (m : ev_m) : f_X4_takeShipNumber m 0 9 = (f_X4_takeNumber m 0 1 (-999) 999).bind (fun p3 => (if p3.1 = true then ev_let (s_X5_write p3.2 9 (nI 9) (p3.2.1 7 0 10)) (fun m5 => (some ((true, m5)))) else (some ((false, p3.2))))) := by
  unfold f_X4_takeShipNumber
  rw [pq_let, show (if (9 : Int32) < 6 then 0 else 1 : Int32) = 1 from by decide, show ev_at (ev_cst 0) 10 9 = (-999) from by decide +kernel, show ev_at (ev_cst 1) 10 9 = 999 from by decide +kernel]
  rfl
theorem ship_w1 {m M : ev_m} {B : Nat → Int32} {L : Nat} {t : Nat × Nat × Int32} {s : Nat × Nat} (hB : okB_ B L) (h : RC_ m B L t s) (g : RR_ M B L t s) (hJ : JS_ s m M) (hk : t.2.2 = 1) (tj : tK_ B t 1 = true) : ∃ b m' M', f_X4_takeLine m 0 0 = some (b, m') ∧ f_X10_shipLine M 0 (wo_ B t) = some (b, M') ∧ LN_ B L t.2.1 JS_ m M m' M' b := by
  have ew : wo_ B t = 1953854062 := (wo_t hB h.2.2.2.1 hk (by decide)).mpr tj
  have hw : f_X4_isWord m 0 0 = some false := by
    rw [cl_isWord hB h (by decide), tK_eq (by decide) tj 0 (by decide)]
    rfl
  have hs : f_X4_shipWord m 0 = some 0 := by
    rw [cl_shipW hB h (by decide) tj]
    rfl
  have hb := tk_b hB h.2.2.2.1
  have hxn := xn_bd (e := t.2.1) hB hb.2.1
  obtain ⟨m1, e1, x1, -, x2⟩ := cl_nextR hB h
  obtain ⟨M1, f1, y1, y2⟩ := rf_nextR hB g
  have hJ1 : JS_ s m1 M1 := hJ.fr (fun r i k q => x2 r i k (by omega)) (fun r i k q => y2 r i k (by omega))
  obtain ⟨b, m', M', a1, a2, a3⟩ := ship_u (k := 0) (lo := 0) (hi := 99) hB x1 y1 hJ1 (by decide) (fun S v _ hS => hS)
  refine ⟨b, m', M', ?_, ?_, a3.step (by omega) x2.c y2.r⟩
  · unfold f_X4_takeLine f_X4_takeShipNumbers
    rw [if_pos rfl, hw, pq_sb, if_neg Bool.false_ne_true, hs, pq_sb, if_neg (by decide), e1, pq_sb, tsn_0, a1, pq_sb]
    cases b <;> rfl
  · rw [ew]
    unfold f_X10_shipLine
    rw [if_pos rfl]
    unfold jn_X10_shipLine_99
    rw [if_neg (by decide)]
    unfold jn_X10_shipLine_126
    rw [f1, pq_sb, if_neg (by decide), if_neg (by decide), if_neg (by decide), if_neg (by decide), show (if (0 : Int32) = 3 then 1 else (if (0 : Int32) = 4 then 1 else 0) : Int32) = 0 from by decide, pq_let, show (if (0 : Int32) = 1 then 100 else (if (0 : Int32) = 2 then 9 else (if (0 : Int32) = 3 then 35 else (if (0 : Int32) = 4 then 35 else 99))) : Int32) = 99 from by decide, pq_let, show f_X10_into M1 0 0 0 99 = _ from a2, pq_sb] <;> rfl
theorem ship_w2 {m M : ev_m} {B : Nat → Int32} {L : Nat} {t : Nat × Nat × Int32} {s : Nat × Nat} (hB : okB_ B L) (h : RC_ m B L t s) (g : RR_ M B L t s) (hJ : JS_ s m M) (hk : t.2.2 = 1) (tj : tK_ B t 2 = true) : ∃ b m' M', f_X4_takeLine m 0 0 = some (b, m') ∧ f_X10_shipLine M 0 (wo_ B t) = some (b, M') ∧ LN_ B L t.2.1 JS_ m M m' M' b := by
  have ew : wo_ B t = 1667329133 := (wo_t hB h.2.2.2.1 hk (by decide)).mpr tj
  have hw : f_X4_isWord m 0 0 = some false := by
    rw [cl_isWord hB h (by decide), tK_eq (by decide) tj 0 (by decide)]
    rfl
  have hs : f_X4_shipWord m 0 = some 1 := by
    rw [cl_shipW hB h (by decide) tj]
    rfl
  have hb := tk_b hB h.2.2.2.1
  have hxn := xn_bd (e := t.2.1) hB hb.2.1
  obtain ⟨m1, e1, x1, -, x2⟩ := cl_nextR hB h
  obtain ⟨M1, f1, y1, y2⟩ := rf_nextR hB g
  have hJ1 : JS_ s m1 M1 := hJ.fr (fun r i k q => x2 r i k (by omega)) (fun r i k q => y2 r i k (by omega))
  obtain ⟨b, m', M', a1, a2, a3⟩ := ship_u (k := 1) (lo := 0) (hi := 100) hB x1 y1 hJ1 (by decide) (fun S v _ hS => hS)
  refine ⟨b, m', M', ?_, ?_, a3.step (by omega) x2.c y2.r⟩
  · unfold f_X4_takeLine f_X4_takeShipNumbers
    rw [if_pos rfl, hw, pq_sb, if_neg Bool.false_ne_true, hs, pq_sb, if_neg (by decide), e1, pq_sb, tsn_1, a1, pq_sb]
    cases b <;> rfl
  · rw [ew]
    unfold f_X10_shipLine
    rw [if_neg (by decide), show (if (1667329133 : Int64) = 1667329133 then 1 else (if (1667329133 : Int64) = 7102823 then 2 else (if (1667329133 : Int64) = 1836020596 then 3 else (if (1667329133 : Int64) = 1734697330 then 4 else (if (1667329133 : Int64) = 7501154 then 5 else (if (1667329133 : Int64) = 2003398244 then 6 else (if (1667329133 : Int64) = 1953655149 then 7 else ((-1)))))))) : Int32) = 1 from by decide, pq_let, if_neg (by decide)]
    unfold jn_X10_shipLine_126
    rw [f1, pq_sb, if_neg (by decide), if_neg (by decide), if_neg (by decide), if_neg (by decide), show (if (1 : Int32) = 3 then 1 else (if (1 : Int32) = 4 then 1 else 0) : Int32) = 0 from by decide, pq_let, show (if (1 : Int32) = 1 then 100 else (if (1 : Int32) = 2 then 9 else (if (1 : Int32) = 3 then 35 else (if (1 : Int32) = 4 then 35 else 99))) : Int32) = 100 from by decide, pq_let, show f_X10_into M1 0 1 0 100 = _ from a2, pq_sb] <;> rfl
theorem ship_w3 {m M : ev_m} {B : Nat → Int32} {L : Nat} {t : Nat × Nat × Int32} {s : Nat × Nat} (hB : okB_ B L) (h : RC_ m B L t s) (g : RR_ M B L t s) (hJ : JS_ s m M) (hk : t.2.2 = 1) (tj : tK_ B t 3 = true) : ∃ b m' M', f_X4_takeLine m 0 0 = some (b, m') ∧ f_X10_shipLine M 0 (wo_ B t) = some (b, M') ∧ LN_ B L t.2.1 JS_ m M m' M' b := by
  have ew : wo_ B t = 7102823 := (wo_t hB h.2.2.2.1 hk (by decide)).mpr tj
  have hw : f_X4_isWord m 0 0 = some false := by
    rw [cl_isWord hB h (by decide), tK_eq (by decide) tj 0 (by decide)]
    rfl
  have hs : f_X4_shipWord m 0 = some 2 := by
    rw [cl_shipW hB h (by decide) tj]
    rfl
  have hb := tk_b hB h.2.2.2.1
  have hxn := xn_bd (e := t.2.1) hB hb.2.1
  obtain ⟨m1, e1, x1, -, x2⟩ := cl_nextR hB h
  obtain ⟨M1, f1, y1, y2⟩ := rf_nextR hB g
  have hJ1 : JS_ s m1 M1 := hJ.fr (fun r i k q => x2 r i k (by omega)) (fun r i k q => y2 r i k (by omega))
  obtain ⟨b, m', M', a1, a2, a3⟩ := ship_u (k := 2) (lo := 0) (hi := 9) hB x1 y1 hJ1 (by decide) (fun S v hq hS => by
    rw [fa_lt, fa_lt, show (0 : Int32).toInt = 0 from rfl, show (9 : Int32).toInt = 9 from rfl] at hq
    exact ⟨⟨by show (0 : Int) ≤ v.toInt; omega, by show v.toInt ≤ 9; omega⟩, hS.2⟩)
  refine ⟨b, m', M', ?_, ?_, a3.step (by omega) x2.c y2.r⟩
  · unfold f_X4_takeLine f_X4_takeShipNumbers
    rw [if_pos rfl, hw, pq_sb, if_neg Bool.false_ne_true, hs, pq_sb, if_neg (by decide), e1, pq_sb, tsn_2, a1, pq_sb]
    cases b <;> rfl
  · rw [ew]
    unfold f_X10_shipLine
    rw [if_neg (by decide), show (if (7102823 : Int64) = 1667329133 then 1 else (if (7102823 : Int64) = 7102823 then 2 else (if (7102823 : Int64) = 1836020596 then 3 else (if (7102823 : Int64) = 1734697330 then 4 else (if (7102823 : Int64) = 7501154 then 5 else (if (7102823 : Int64) = 2003398244 then 6 else (if (7102823 : Int64) = 1953655149 then 7 else ((-1)))))))) : Int32) = 2 from by decide, pq_let, if_neg (by decide)]
    unfold jn_X10_shipLine_126
    rw [f1, pq_sb, if_neg (by decide), if_neg (by decide), if_neg (by decide), if_neg (by decide), show (if (2 : Int32) = 3 then 1 else (if (2 : Int32) = 4 then 1 else 0) : Int32) = 0 from by decide, pq_let, show (if (2 : Int32) = 1 then 100 else (if (2 : Int32) = 2 then 9 else (if (2 : Int32) = 3 then 35 else (if (2 : Int32) = 4 then 35 else 99))) : Int32) = 9 from by decide, pq_let, show f_X10_into M1 0 2 0 9 = _ from a2, pq_sb] <;> rfl
theorem ship_w4 {m M : ev_m} {B : Nat → Int32} {L : Nat} {t : Nat × Nat × Int32} {s : Nat × Nat} (hB : okB_ B L) (h : RC_ m B L t s) (g : RR_ M B L t s) (hJ : JS_ s m M) (hk : t.2.2 = 1) (tj : tK_ B t 4 = true) : ∃ b m' M', f_X4_takeLine m 0 0 = some (b, m') ∧ f_X10_shipLine M 0 (wo_ B t) = some (b, M') ∧ LN_ B L t.2.1 JS_ m M m' M' b := by
  have ew : wo_ B t = 1836020596 := (wo_t hB h.2.2.2.1 hk (by decide)).mpr tj
  have hw : f_X4_isWord m 0 0 = some false := by
    rw [cl_isWord hB h (by decide), tK_eq (by decide) tj 0 (by decide)]
    rfl
  have hs : f_X4_shipWord m 0 = some 3 := by
    rw [cl_shipW hB h (by decide) tj]
    rfl
  have hb := tk_b hB h.2.2.2.1
  have hxn := xn_bd (e := t.2.1) hB hb.2.1
  obtain ⟨m1, e1, x1, -, x2⟩ := cl_nextR hB h
  obtain ⟨M1, f1, y1, y2⟩ := rf_nextR hB g
  have hJ1 : JS_ s m1 M1 := hJ.fr (fun r i k q => x2 r i k (by omega)) (fun r i k q => y2 r i k (by omega))
  obtain ⟨b, m', M', a1, a2, a3⟩ := ship_u (k := 3) (lo := 1) (hi := 35) hB x1 y1 hJ1 (by decide) (fun S v hq hS => by
    rw [fa_lt, fa_lt, show (1 : Int32).toInt = 1 from rfl, show (35 : Int32).toInt = 35 from rfl] at hq
    exact ⟨hS.1, ⟨by show (0 : Int) ≤ v.toInt; omega, by show v.toInt ≤ 35; omega⟩, hS.2.2⟩)
  refine ⟨b, m', M', ?_, ?_, a3.step (by omega) x2.c y2.r⟩
  · unfold f_X4_takeLine f_X4_takeShipNumbers
    rw [if_pos rfl, hw, pq_sb, if_neg Bool.false_ne_true, hs, pq_sb, if_neg (by decide), e1, pq_sb, tsn_3, a1, pq_sb]
    cases b <;> rfl
  · rw [ew]
    unfold f_X10_shipLine
    rw [if_neg (by decide), show (if (1836020596 : Int64) = 1667329133 then 1 else (if (1836020596 : Int64) = 7102823 then 2 else (if (1836020596 : Int64) = 1836020596 then 3 else (if (1836020596 : Int64) = 1734697330 then 4 else (if (1836020596 : Int64) = 7501154 then 5 else (if (1836020596 : Int64) = 2003398244 then 6 else (if (1836020596 : Int64) = 1953655149 then 7 else ((-1)))))))) : Int32) = 3 from by decide, pq_let, if_neg (by decide)]
    unfold jn_X10_shipLine_126
    rw [f1, pq_sb, if_neg (by decide), if_neg (by decide), if_neg (by decide), if_neg (by decide), show (if (3 : Int32) = 3 then 1 else (if (3 : Int32) = 4 then 1 else 0) : Int32) = 1 from by decide, pq_let, show (if (3 : Int32) = 1 then 100 else (if (3 : Int32) = 2 then 9 else (if (3 : Int32) = 3 then 35 else (if (3 : Int32) = 4 then 35 else 99))) : Int32) = 35 from by decide, pq_let, show f_X10_into M1 0 3 1 35 = _ from a2, pq_sb] <;> rfl
theorem ship_w5 {m M : ev_m} {B : Nat → Int32} {L : Nat} {t : Nat × Nat × Int32} {s : Nat × Nat} (hB : okB_ B L) (h : RC_ m B L t s) (g : RR_ M B L t s) (hJ : JS_ s m M) (hk : t.2.2 = 1) (tj : tK_ B t 5 = true) : ∃ b m' M', f_X4_takeLine m 0 0 = some (b, m') ∧ f_X10_shipLine M 0 (wo_ B t) = some (b, M') ∧ LN_ B L t.2.1 JS_ m M m' M' b := by
  have ew : wo_ B t = 1734697330 := (wo_t hB h.2.2.2.1 hk (by decide)).mpr tj
  have hw : f_X4_isWord m 0 0 = some false := by
    rw [cl_isWord hB h (by decide), tK_eq (by decide) tj 0 (by decide)]
    rfl
  have hs : f_X4_shipWord m 0 = some 4 := by
    rw [cl_shipW hB h (by decide) tj]
    rfl
  have hb := tk_b hB h.2.2.2.1
  have hxn := xn_bd (e := t.2.1) hB hb.2.1
  obtain ⟨m1, e1, x1, -, x2⟩ := cl_nextR hB h
  obtain ⟨M1, f1, y1, y2⟩ := rf_nextR hB g
  have hJ1 : JS_ s m1 M1 := hJ.fr (fun r i k q => x2 r i k (by omega)) (fun r i k q => y2 r i k (by omega))
  obtain ⟨b, m', M', a1, a2, a3⟩ := ship_u (k := 4) (lo := 1) (hi := 35) hB x1 y1 hJ1 (by decide) (fun S v hq hS => by
    rw [fa_lt, fa_lt, show (1 : Int32).toInt = 1 from rfl, show (35 : Int32).toInt = 35 from rfl] at hq
    exact ⟨hS.1, hS.2.1, ⟨by show (0 : Int) ≤ v.toInt; omega, by show v.toInt ≤ 35; omega⟩, hS.2.2.2⟩)
  refine ⟨b, m', M', ?_, ?_, a3.step (by omega) x2.c y2.r⟩
  · unfold f_X4_takeLine f_X4_takeShipNumbers
    rw [if_pos rfl, hw, pq_sb, if_neg Bool.false_ne_true, hs, pq_sb, if_neg (by decide), e1, pq_sb, tsn_4, a1, pq_sb]
    cases b <;> rfl
  · rw [ew]
    unfold f_X10_shipLine
    rw [if_neg (by decide), show (if (1734697330 : Int64) = 1667329133 then 1 else (if (1734697330 : Int64) = 7102823 then 2 else (if (1734697330 : Int64) = 1836020596 then 3 else (if (1734697330 : Int64) = 1734697330 then 4 else (if (1734697330 : Int64) = 7501154 then 5 else (if (1734697330 : Int64) = 2003398244 then 6 else (if (1734697330 : Int64) = 1953655149 then 7 else ((-1)))))))) : Int32) = 4 from by decide, pq_let, if_neg (by decide)]
    unfold jn_X10_shipLine_126
    rw [f1, pq_sb, if_neg (by decide), if_neg (by decide), if_neg (by decide), if_neg (by decide), show (if (4 : Int32) = 3 then 1 else (if (4 : Int32) = 4 then 1 else 0) : Int32) = 1 from by decide, pq_let, show (if (4 : Int32) = 1 then 100 else (if (4 : Int32) = 2 then 9 else (if (4 : Int32) = 3 then 35 else (if (4 : Int32) = 4 then 35 else 99))) : Int32) = 35 from by decide, pq_let, show f_X10_into M1 0 4 1 35 = _ from a2, pq_sb] <;> rfl
theorem ship_w6 {m M : ev_m} {B : Nat → Int32} {L : Nat} {t : Nat × Nat × Int32} {s : Nat × Nat} (hB : okB_ B L) (h : RC_ m B L t s) (g : RR_ M B L t s) (hJ : JS_ s m M) (hk : t.2.2 = 1) (tj : tK_ B t 6 = true) : ∃ b m' M', f_X4_takeLine m 0 0 = some (b, m') ∧ f_X10_shipLine M 0 (wo_ B t) = some (b, M') ∧ LN_ B L t.2.1 JS_ m M m' M' b := by
  have ew : wo_ B t = 7501154 := (wo_t hB h.2.2.2.1 hk (by decide)).mpr tj
  have hw : f_X4_isWord m 0 0 = some false := by
    rw [cl_isWord hB h (by decide), tK_eq (by decide) tj 0 (by decide)]
    rfl
  have hs : f_X4_shipWord m 0 = some 5 := by
    rw [cl_shipW hB h (by decide) tj]
    rfl
  have hb := tk_b hB h.2.2.2.1
  have hxn := xn_bd (e := t.2.1) hB hb.2.1
  obtain ⟨m1, e1, x1, -, x2⟩ := cl_nextR hB h
  obtain ⟨M1, f1, y1, y2⟩ := rf_nextR hB g
  have hJ1 : JS_ s m1 M1 := hJ.fr (fun r i k q => x2 r i k (by omega)) (fun r i k q => y2 r i k (by omega))
  obtain ⟨b, m', M', a1, a2, a3⟩ := ship_u (k := 5) (lo := 0) (hi := 99) hB x1 y1 hJ1 (by decide) (fun S v hq hS => by
    rw [fa_lt, fa_lt, show (0 : Int32).toInt = 0 from rfl, show (99 : Int32).toInt = 99 from rfl] at hq
    exact ⟨hS.1, hS.2.1, hS.2.2.1, ⟨by show (0 : Int) ≤ v.toInt; omega, by show v.toInt ≤ 99; omega⟩, hS.2.2.2.2⟩)
  refine ⟨b, m', M', ?_, ?_, a3.step (by omega) x2.c y2.r⟩
  · unfold f_X4_takeLine f_X4_takeShipNumbers
    rw [if_pos rfl, hw, pq_sb, if_neg Bool.false_ne_true, hs, pq_sb, if_neg (by decide), e1, pq_sb, tsn_5, a1, pq_sb]
    cases b <;> rfl
  · rw [ew]
    unfold f_X10_shipLine
    rw [if_neg (by decide), show (if (7501154 : Int64) = 1667329133 then 1 else (if (7501154 : Int64) = 7102823 then 2 else (if (7501154 : Int64) = 1836020596 then 3 else (if (7501154 : Int64) = 1734697330 then 4 else (if (7501154 : Int64) = 7501154 then 5 else (if (7501154 : Int64) = 2003398244 then 6 else (if (7501154 : Int64) = 1953655149 then 7 else ((-1)))))))) : Int32) = 5 from by decide, pq_let, if_neg (by decide)]
    unfold jn_X10_shipLine_126
    rw [f1, pq_sb, if_neg (by decide), if_neg (by decide), if_neg (by decide), if_neg (by decide), show (if (5 : Int32) = 3 then 1 else (if (5 : Int32) = 4 then 1 else 0) : Int32) = 0 from by decide, pq_let, show (if (5 : Int32) = 1 then 100 else (if (5 : Int32) = 2 then 9 else (if (5 : Int32) = 3 then 35 else (if (5 : Int32) = 4 then 35 else 99))) : Int32) = 99 from by decide, pq_let, show f_X10_into M1 0 5 0 99 = _ from a2, pq_sb] <;> rfl
theorem ship_w7 {m M : ev_m} {B : Nat → Int32} {L : Nat} {t : Nat × Nat × Int32} {s : Nat × Nat} (hB : okB_ B L) (h : RC_ m B L t s) (g : RR_ M B L t s) (hJ : JS_ s m M) (hk : t.2.2 = 1) (tj : tK_ B t 7 = true) : ∃ b m' M', f_X4_takeLine m 0 0 = some (b, m') ∧ f_X10_shipLine M 0 (wo_ B t) = some (b, M') ∧ LN_ B L t.2.1 JS_ m M m' M' b := by
  have ew : wo_ B t = 2003398244 := (wo_t hB h.2.2.2.1 hk (by decide)).mpr tj
  have hw : f_X4_isWord m 0 0 = some false := by
    rw [cl_isWord hB h (by decide), tK_eq (by decide) tj 0 (by decide)]
    rfl
  have hs : f_X4_shipWord m 0 = some 6 := by
    rw [cl_shipW hB h (by decide) tj]
    rfl
  have hb := tk_b hB h.2.2.2.1
  have hxn := xn_bd (e := t.2.1) hB hb.2.1
  obtain ⟨m1, e1, x1, -, x2⟩ := cl_nextR hB h
  obtain ⟨M1, f1, y1, y2⟩ := rf_nextR hB g
  have hJ1 : JS_ s m1 M1 := hJ.fr (fun r i k q => x2 r i k (by omega)) (fun r i k q => y2 r i k (by omega))
  obtain ⟨b, m', M', a1, a2, a3⟩ := ship_s (k := 6) (lo := -99) (hi := 99) (h0 := 99) hB x1 y1 hJ1 (by decide) rfl (by decide) (by decide) (fun S v _ hS => hS)
  refine ⟨b, m', M', ?_, ?_, a3.step (by omega) x2.c y2.r⟩
  · unfold f_X4_takeLine f_X4_takeShipNumbers
    rw [if_pos rfl, hw, pq_sb, if_neg Bool.false_ne_true, hs, pq_sb, if_neg (by decide), e1, pq_sb, tsn_6, a1, pq_sb]
    cases b <;> rfl
  · rw [ew]
    unfold f_X10_shipLine
    rw [if_neg (by decide), show (if (2003398244 : Int64) = 1667329133 then 1 else (if (2003398244 : Int64) = 7102823 then 2 else (if (2003398244 : Int64) = 1836020596 then 3 else (if (2003398244 : Int64) = 1734697330 then 4 else (if (2003398244 : Int64) = 7501154 then 5 else (if (2003398244 : Int64) = 2003398244 then 6 else (if (2003398244 : Int64) = 1953655149 then 7 else ((-1)))))))) : Int32) = 6 from by decide, pq_let, if_neg (by decide)]
    unfold jn_X10_shipLine_126
    rw [f1, pq_sb, if_neg (by decide), if_neg (by decide), if_pos rfl, show jn_X10_shipLine_209 M1 0 6 = (f_X10_signedInto M1 0 (nI 6) 99).bind (fun p22 => (some ((p22.1, p22.2)))) from rfl, a2, pq_sb] <;> rfl
theorem ship_w8 {m M : ev_m} {B : Nat → Int32} {L : Nat} {t : Nat × Nat × Int32} {s : Nat × Nat} (hB : okB_ B L) (h : RC_ m B L t s) (g : RR_ M B L t s) (hJ : JS_ s m M) (hk : t.2.2 = 1) (tj : tK_ B t 8 = true) : ∃ b m' M', f_X4_takeLine m 0 0 = some (b, m') ∧ f_X10_shipLine M 0 (wo_ B t) = some (b, M') ∧ LN_ B L t.2.1 JS_ m M m' M' b := by
  have ew : wo_ B t = 1953655149 := (wo_t hB h.2.2.2.1 hk (by decide)).mpr tj
  have hw : f_X4_isWord m 0 0 = some false := by
    rw [cl_isWord hB h (by decide), tK_eq (by decide) tj 0 (by decide)]
    rfl
  have hs : f_X4_shipWord m 0 = some 7 := by
    rw [cl_shipW hB h (by decide) tj]
    rfl
  have hb := tk_b hB h.2.2.2.1
  have hxn := xn_bd (e := t.2.1) hB hb.2.1
  obtain ⟨m1, e1, x1, -, x2⟩ := cl_nextR hB h
  obtain ⟨M1, f1, y1, y2⟩ := rf_nextR hB g
  have hJ1 : JS_ s m1 M1 := hJ.fr (fun r i k q => x2 r i k (by omega)) (fun r i k q => y2 r i k (by omega))
  obtain ⟨b, m', M', a1, a2, a3⟩ := ship_s (k := 7) (lo := -99) (hi := 99) (h0 := 99) hB x1 y1 hJ1 (by decide) rfl (by decide) (by decide) (fun S v _ hS => hS)
  refine ⟨b, m', M', ?_, ?_, a3.step (by omega) x2.c y2.r⟩
  · unfold f_X4_takeLine f_X4_takeShipNumbers
    rw [if_pos rfl, hw, pq_sb, if_neg Bool.false_ne_true, hs, pq_sb, if_neg (by decide), e1, pq_sb, tsn_7, a1, pq_sb]
    cases b <;> rfl
  · rw [ew]
    unfold f_X10_shipLine
    rw [if_neg (by decide), show (if (1953655149 : Int64) = 1667329133 then 1 else (if (1953655149 : Int64) = 7102823 then 2 else (if (1953655149 : Int64) = 1836020596 then 3 else (if (1953655149 : Int64) = 1734697330 then 4 else (if (1953655149 : Int64) = 7501154 then 5 else (if (1953655149 : Int64) = 2003398244 then 6 else (if (1953655149 : Int64) = 1953655149 then 7 else ((-1)))))))) : Int32) = 7 from by decide, pq_let, if_neg (by decide)]
    unfold jn_X10_shipLine_126
    rw [f1, pq_sb, if_neg (by decide), if_neg (by decide), if_neg (by decide), if_pos rfl, show jn_X10_shipLine_209 M1 0 7 = (f_X10_signedInto M1 0 (nI 7) 99).bind (fun p22 => (some ((p22.1, p22.2)))) from rfl, a2, pq_sb] <;> rfl
theorem ship_w9 {m M : ev_m} {B : Nat → Int32} {L : Nat} {t : Nat × Nat × Int32} {s : Nat × Nat} (hB : okB_ B L) (h : RC_ m B L t s) (g : RR_ M B L t s) (hJ : JS_ s m M) (hk : t.2.2 = 1) (tj : tK_ B t 9 = true) : ∃ b m' M', f_X4_takeLine m 0 0 = some (b, m') ∧ f_X10_shipLine M 0 (wo_ B t) = some (b, M') ∧ LN_ B L t.2.1 JS_ m M m' M' b := by
  have ew : wo_ B t = 495873782388 := (wo_t hB h.2.2.2.1 hk (by decide)).mpr tj
  have hw : f_X4_isWord m 0 0 = some false := by
    rw [cl_isWord hB h (by decide), tK_eq (by decide) tj 0 (by decide)]
    rfl
  have hs : f_X4_shipWord m 0 = some 8 := by
    rw [cl_shipW hB h (by decide) tj]
    rfl
  have hb := tk_b hB h.2.2.2.1
  have hxn := xn_bd (e := t.2.1) hB hb.2.1
  obtain ⟨m1, e1, x1, -, x2⟩ := cl_nextR hB h
  obtain ⟨M1, f1, y1, y2⟩ := rf_nextR hB g
  have hJ1 : JS_ s m1 M1 := hJ.fr (fun r i k q => x2 r i k (by omega)) (fun r i k q => y2 r i k (by omega))
  obtain ⟨b, m2, M2, a1, a2, a3⟩ := ship_s (k := 8) (lo := -999) (hi := 999) (h0 := 999) hB x1 y1 hJ1 (by decide) rfl (by decide) (by decide) (fun S v hq hS => by
    rw [fa_lt, fa_lt, show (-999 : Int32).toInt = -999 from rfl, show (999 : Int32).toInt = 999 from rfl] at hq
    exact ⟨hS.1, hS.2.1, hS.2.2.1, hS.2.2.2.1, ⟨by show (-999 : Int) ≤ v.toInt; omega, by show v.toInt ≤ 999; omega⟩⟩)
  cases b with
  | false =>
    refine ⟨false, m2, M2, ?_, ?_, a3.step (by omega) x2.c y2.r⟩
    · unfold f_X4_takeLine f_X4_takeShipNumbers
      rw [if_pos rfl, hw, pq_sb, if_neg Bool.false_ne_true, hs, pq_sb, if_neg (by decide), e1, pq_sb, tsn_8, a1, pq_sb]
      rfl
    · rw [ew]
      unfold f_X10_shipLine
      rw [if_neg (by decide), show (if (495873782388 : Int64) = 1667329133 then 1 else (if (495873782388 : Int64) = 7102823 then 2 else (if (495873782388 : Int64) = 1836020596 then 3 else (if (495873782388 : Int64) = 1734697330 then 4 else (if (495873782388 : Int64) = 7501154 then 5 else (if (495873782388 : Int64) = 2003398244 then 6 else (if (495873782388 : Int64) = 1953655149 then 7 else ((-1)))))))) : Int32) = -1 from by decide, pq_let, if_pos rfl, if_pos rfl]
      unfold jn_X10_shipLine_126
      rw [f1, pq_sb, if_pos rfl, show f_X10_signedInto M1 0 8 999 = _ from a2, pq_sb, if_neg Bool.false_ne_true] <;> rfl
  | true =>
    obtain ⟨t2, s2, b1, b2, b3, b4⟩ := a3.1 rfl
    obtain ⟨b, m3, M3, c1, c2, c3⟩ := ship_s (k := 9) (lo := -999) (hi := 999) (h0 := 999) hB b1 b2 b3 (by decide) rfl (by decide) (by decide) (fun S v _ hS => hS)
    have hb2 := tk_b hB b1.2.2.2.1
    refine ⟨b, m3, M3, ?_, ?_, (c3.step (e := t.2.1) (by omega) a3.2.2.1 a3.2.2.2).step (Nat.le_refl _) x2.c y2.r⟩
    · unfold f_X4_takeLine f_X4_takeShipNumbers
      rw [if_pos rfl, hw, pq_sb, if_neg Bool.false_ne_true, hs, pq_sb, if_neg (by decide), e1, pq_sb, tsn_8, a1, pq_sb, if_pos rfl, if_pos rfl, tsn_9, show (f_X4_takeNumber (true, m2).2 0 1 (-999) 999).bind _ = _ from c1, pq_sb]
      cases b <;> rfl
    · rw [ew]
      unfold f_X10_shipLine
      rw [if_neg (by decide), show (if (495873782388 : Int64) = 1667329133 then 1 else (if (495873782388 : Int64) = 7102823 then 2 else (if (495873782388 : Int64) = 1836020596 then 3 else (if (495873782388 : Int64) = 1734697330 then 4 else (if (495873782388 : Int64) = 7501154 then 5 else (if (495873782388 : Int64) = 2003398244 then 6 else (if (495873782388 : Int64) = 1953655149 then 7 else ((-1)))))))) : Int32) = -1 from by decide, pq_let, if_pos rfl, if_pos rfl]
      unfold jn_X10_shipLine_126
      rw [f1, pq_sb, if_pos rfl, show f_X10_signedInto M1 0 8 999 = _ from a2, pq_sb, if_pos rfl, show f_X10_signedInto (true, M2).2 0 9 999 = _ from c2, pq_sb]
      cases b <;> rfl
theorem ship_w0 {m M : ev_m} {B : Nat → Int32} {L : Nat} {t : Nat × Nat × Int32} {s : Nat × Nat} (hB : okB_ B L) (h : RC_ m B L t s) (g : RR_ M B L t s) (hJ : JS_ s m M) (hk : t.2.2 = 1) (tj : tK_ B t 0 = true) : ∃ b m' M', f_X4_takeLine m 0 0 = some (b, m') ∧ f_X10_shipLine M 0 (wo_ B t) = some (b, M') ∧ LN_ B L t.2.1 JS_ m M m' M' b := by
  have ew : wo_ B t = 7562593 := (wo_t hB h.2.2.2.1 hk (by decide)).mpr tj
  have hw : f_X4_isWord m 0 0 = some true := by
    rw [cl_isWord hB h (by decide), tK_eq (by decide) tj 0 (by decide)]
    rfl
  have hb := tk_b hB h.2.2.2.1
  have hxn := xn_bd (e := t.2.1) hB hb.2.1
  have h' : RC_ (ev_pim m 3 9 10 0) B L t s := h.fr (fun r i k q => by rw [pq_pim, if_neg (by omega)])
  obtain ⟨m1, e1, x1, -, x2⟩ := cl_nextR hB h'
  obtain ⟨M1, f1, y1, y2⟩ := rf_nextR hB g
  obtain ⟨c, ⟨d0, d1, d2, d3⟩, hc1, hp⟩ := hJ
  have y1' : RR_ (ev_pim M1 39 0 10 0) B L (xn_ B L t.2.1) s := y1.fr rfl (fun r i k q => by rw [pq_pim, if_neg (by omega)])
  have hD : DSc_ m1 (ev_pim M1 39 0 10 0) 0 := by
    refine ⟨by decide, by rw [pq_pim, if_pos ⟨rfl, rfl, rfl⟩]; rfl, fun k hk => ?_, fun k hk => absurd hk (Nat.not_lt_zero k)⟩
    rw [x2 3 9 k (by omega), pq_pim, pq_pim]
    by_cases q : k = 10
    · rw [if_pos ⟨rfl, rfl, q⟩, if_pos ⟨rfl, rfl, q⟩]
    · rw [if_neg (fun z => q z.2.2), if_neg (fun z => q z.2.2), y2 39 0 k (by omega)]
      exact d2 k hk
  have hP0 : s.1 = 0 → pS_ ((ev_pim M1 39 0 10 0).1 39 0) := fun q => by
    rw [pim_39, show M1.1 39 0 = M.1 39 0 from funext fun k => y2 39 0 k (by omega)]
    exact hp q
  obtain ⟨b, m', M', a1, a2, a3, a4, a5, a6⟩ := sea_all (P := fun _ N => pS_ (N.1 39 0)) hB (fun c N N' v hN hF _ _ _ => by
    unfold pS_ at hN ⊢
    rw [hF 2 (by decide) (by omega), hF 3 (by decide) (by omega), hF 4 (by decide) (by omega), hF 5 (by decide) (by omega), hF 8 (by decide) (by omega)]
    exact hN) x1 y1' hD hP0
  have hcF : cF_ m m1 := fun r i k q => by
    rw [x2.c r i k q, pq_pim, if_neg (by unfold xc_ at q; omega)]
  have hrF : rF_ M (ev_pim M1 39 0 10 0) := fun r i k q q2 => by
    rw [pq_pim, if_neg (by omega)]
    exact y2.r r i k q q2
  refine ⟨b, m', M', ?_, ?_, fun q => ?_, a4, hcF.trans a5, hrF.trans a6⟩
  · unfold f_X4_takeLine f_X4_takeSeas
    rw [if_pos rfl, hw, pq_sb, if_pos rfl, pq_let, e1, pq_sb, a1, pq_sb]
  · rw [ew]
    unfold f_X10_shipLine
    rw [if_neg (by decide), show (if (7562593 : Int64) = 1667329133 then 1 else (if (7562593 : Int64) = 7102823 then 2 else (if (7562593 : Int64) = 1836020596 then 3 else (if (7562593 : Int64) = 1734697330 then 4 else (if (7562593 : Int64) = 7501154 then 5 else (if (7562593 : Int64) = 2003398244 then 6 else (if (7562593 : Int64) = 1953655149 then 7 else ((-1)))))))) : Int32) = -1 from by decide, pq_let, if_pos rfl, if_neg (by decide), if_pos rfl]
    unfold jn_X10_shipLine_126
    rw [f1, pq_sb, if_neg (by decide), if_pos rfl, pq_let, a2, pq_sb]
  · obtain ⟨t3, s3, c3, g1, g2, g3, g4, g5, g6⟩ := a3 q
    exact ⟨t3, s3, g1, g2, ⟨c3, g3, g4, fun z => (g6 z).2⟩, by omega⟩
theorem ship_line {m M : ev_m} {B : Nat → Int32} {L : Nat} {t : Nat × Nat × Int32} {s : Nat × Nat} (hB : okB_ B L) (h : RC_ m B L t s) (g : RR_ M B L t s) (hJ : JS_ s m M) (hk : t.2.2 = 1) : ∃ b m' M', f_X4_takeLine m 0 0 = some (b, m') ∧ f_X10_shipLine M 0 (wo_ B t) = some (b, M') ∧ LN_ B L t.2.1 JS_ m M m' M' b := by
  have hno : (f_X4_shipWord m 0 = some (-1)) → f_X4_isWord m 0 0 = some false → (∀ j, j < 10 → wo_ B t ≠ W_ j) → ∃ b m' M', f_X4_takeLine m 0 0 = some (b, m') ∧ f_X10_shipLine M 0 (wo_ B t) = some (b, M') ∧ LN_ B L t.2.1 JS_ m M m' M' b := by
    intro hs hw hy
    refine ⟨false, m, _, ?_, ?_, LN_.stop h g⟩
    · unfold f_X4_takeLine f_X4_takeShipNumbers
      rw [if_pos rfl, hw, pq_sb, if_neg Bool.false_ne_true, hs, pq_sb, if_pos rfl, pq_sb]
    · unfold f_X10_shipLine
      rw [if_neg (show ¬ wo_ B t = 1953854062 from hy 1 (by decide)), if_neg (show ¬ wo_ B t = 1667329133 from hy 2 (by decide)), if_neg (show ¬ wo_ B t = 7102823 from hy 3 (by decide)), if_neg (show ¬ wo_ B t = 1836020596 from hy 4 (by decide)), if_neg (show ¬ wo_ B t = 1734697330 from hy 5 (by decide)), if_neg (show ¬ wo_ B t = 7501154 from hy 6 (by decide)), if_neg (show ¬ wo_ B t = 2003398244 from hy 7 (by decide)), if_neg (show ¬ wo_ B t = 1953655149 from hy 8 (by decide)), pq_let, if_pos rfl, if_neg (show ¬ wo_ B t = 495873782388 from hy 9 (by decide)), if_neg (show ¬ wo_ B t = 7562593 from hy 0 (by decide)), rf_stops, pq_let]
  rcases tK_or B t with ⟨j, hj, tj⟩ | hn
  · rcases (show j = 0 ∨ j = 1 ∨ j = 2 ∨ j = 3 ∨ j = 4 ∨ j = 5 ∨ j = 6 ∨ j = 7 ∨ j = 8 ∨ j = 9 ∨ 10 ≤ j by omega) with q | q | q | q | q | q | q | q | q | q | q
    · subst q; exact ship_w0 hB h g hJ hk tj
    · subst q; exact ship_w1 hB h g hJ hk tj
    · subst q; exact ship_w2 hB h g hJ hk tj
    · subst q; exact ship_w3 hB h g hJ hk tj
    · subst q; exact ship_w4 hB h g hJ hk tj
    · subst q; exact ship_w5 hB h g hJ hk tj
    · subst q; exact ship_w6 hB h g hJ hk tj
    · subst q; exact ship_w7 hB h g hJ hk tj
    · subst q; exact ship_w8 hB h g hJ hk tj
    · subst q; exact ship_w9 hB h g hJ hk tj
    · refine hno ?_ ?_ (fun i hi e => ?_)
      · rw [cl_shipW hB h hj tj, if_neg (by omega), if_neg (by omega)]
      · rw [cl_isWord hB h (by decide), tK_eq hj tj 0 (by decide), decide_eq_false (by omega)]
      · have := (wo_t hB h.2.2.2.1 hk (by omega)).mp e
        have := tK_one (by omega) hj this tj
        omega
  · refine hno (cl_shipN hB h hn) ?_ (fun i hi e => ?_)
    · rw [cl_isWord hB h (by decide), hn 0 (by decide)]
    · have := (wo_t hB h.2.2.2.1 hk (by omega)).mp e
      rw [hn i (by omega)] at this
      cases this
