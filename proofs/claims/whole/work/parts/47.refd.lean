/-! pure: the reference's rows laid; who is told; numbers in their bounds -/
theorem in_T {m : ev_m} {a b n : Nat} (h1 : a ≤ n) (h2 : n ≤ b) (hb : b < 2 ^ 31) : s_X10_in m (nI n) (nI a) (nI b) = true := by
  unfold s_X10_in
  rw [if_neg (nI_nlt h1 (by omega)), if_neg (nI_nlt h2 hb)]
theorem in_F {m : ev_m} {x : Int32} {a b : Nat} (hb : b < 2 ^ 31) (hab : a < 2 ^ 31) (h : s_X10_in m x (nI a) (nI b) = true) : ∃ n, a ≤ n ∧ n ≤ b ∧ x = nI n := by
  unfold s_X10_in at h
  by_cases h1 : x < nI a
  · rw [if_pos h1] at h
    cases h
  · rw [if_neg h1] at h
    by_cases h2 : nI b < x
    · rw [if_pos h2] at h
      cases h
    · rw [fa_lt, nI_toInt hab] at h1
      rw [fa_lt, nI_toInt hb] at h2
      obtain ⟨n, hn, rfl⟩ := pu_nI (x := x) (n := b) (by omega) (by omega) hb
      rw [nI_toInt (by omega)] at h1
      exact ⟨n, by omega, hn, rfl⟩
theorem is_T {m : ev_m} {c s : Nat} (h : s < c) (hc : c < 2 ^ 30) : s_X10_in m (nI s) 0 (nI c - 1) = true := by
  have := in_T (m := m) (a := 0) (b := c - 1) (n := s) (by omega) (by omega) (by omega)
  rw [show (1 : Int32) = nI 1 from rfl, pk_sub (by omega)]
  exact this
theorem is_F {m : ev_m} {c : Nat} {x : Int32} (hc : c < 2 ^ 30) (h : s_X10_in m x 0 (nI c - 1) = true) : ∃ s, s < c ∧ x = nI s := by
  rcases Nat.eq_zero_or_pos c with e | e
  · subst e
    exfalso
    unfold s_X10_in at h
    by_cases h1 : x < 0
    · rw [if_pos h1] at h
      cases h
    · rw [if_neg h1] at h
      rw [fa_lt, show (0 : Int32).toInt = 0 from rfl] at h1
      rw [if_pos (by rw [fa_lt, show (nI 0 - 1 : Int32).toInt = -1 from rfl]; omega)] at h
      cases h
  · rw [show (1 : Int32) = nI 1 from rfl, pk_sub (by omega)] at h
    obtain ⟨n, -, h2, h3⟩ := in_F (a := 0) (by omega) (by omega) h
    exact ⟨n, by omega, h3⟩
theorem rf_is {m : ev_m} {t c : Nat} {x : Int32} (ht : t < 16) (hc : m.1 34 0 t = nI c) : f_X10_is m 0 (nI t) x = some (s_X10_in m x 0 (nI c - 1)) := by
  unfold f_X10_is
  rw [pq_ald ht (by decide), pq_sb, hc]
theorem rf_layShip_l {s : Nat} {kx : ev_m → Option ev_m} (hs : s < 2) : ∀ n f i m, i + n = 23 → n < f → ∃ m', lp_X10_layShip_2 0 (nI s) f (nI i) m kx = kx m' ∧ (∀ k, i ≤ k → k < 23 → m'.1 40 0 k = m.1 35 0 (23 * s + k)) ∧ (∀ k, k < i → m'.1 40 0 k = m.1 40 0 k) ∧ pq_Fr (fun r _ => r != 40) m m' := by
  intro n
  induction n with
  | zero =>
    intro f i m hi hf
    obtain ⟨g, rfl⟩ : ∃ g, f = g + 1 := ⟨f - 1, by omega⟩
    rw [lp_X10_layShip_2, show (23 : Int32) = nI 23 from rfl, if_neg (nI_nlt (by omega) (by omega))]
    exact ⟨m, rfl, fun k h1 h2 => by omega, fun _ _ => rfl, pq_Fr.refl _ m⟩
  | succ n ih =>
    intro f i m hi hf
    obtain ⟨g, rfl⟩ : ∃ g, f = g + 1 := ⟨f - 1, by omega⟩
    rw [lp_X10_layShip_2, show (23 : Int32) = nI 23 from rfl, if_pos (nI_lt (by omega) (by omega)), pk_mul, nI_add, pq_ald (by omega) (by decide), pq_sb, pq_ast (by omega) (by decide), pq_sb, nI_1]
    obtain ⟨m', e, h1, h2, h3⟩ := ih g (i + 1) (ev_pim m 40 0 i (m.1 35 0 (23 * s + i))) (by omega) (by omega)
    refine ⟨m', e, ?_, ?_, ?_⟩
    · intro k a1 a2
      by_cases q : k = i
      · rw [h2 k (by omega), q]; simp [pq_pim]
      · rw [h1 k (by omega) a2]; simp [pq_pim]
    · intro k a1
      rw [h2 k (by omega), pq_pim, if_neg (fun q => by omega)]
    · exact ((pq_Fr.refl _ m).pim rfl).trans h3
theorem rf_layShip {m : ev_m} {s : Nat} (hs : s < 2) : ∃ m', f_X10_layShip m 0 (nI s) = some m' ∧ rr_S m' (fun k => m.1 35 0 (23 * s + k)) ∧ pq_Fr (fun r _ => r != 40) m m' := by
  obtain ⟨m', e, h1, -, h3⟩ := rf_layShip_l (kx := fun m => some m) hs 23 4000 0 m (by omega) (by omega)
  exact ⟨m', e, fun k hk => h1 k (by omega) hk, h3⟩
theorem rf_layHand_l {p h : Nat} {kx : ev_m → Option ev_m} (hp : p < 2) (hh : h < 4) : ∀ n f i m, i + n = 18 → n < f → ∃ m', lp_X10_layHand_2 0 (nI p) (nI h) f (nI i) m kx = kx m' ∧ (∀ k, i ≤ k → k < 18 → m'.1 41 0 (18 * p + k) = m.1 36 0 (18 * h + k)) ∧ (∀ k, k < 18 * p + i ∨ 18 * p + 18 ≤ k → m'.1 41 0 k = m.1 41 0 k) ∧ pq_Fr (fun r _ => r != 41) m m' := by
  intro n
  induction n with
  | zero =>
    intro f i m hi hf
    obtain ⟨g, rfl⟩ : ∃ g, f = g + 1 := ⟨f - 1, by omega⟩
    rw [lp_X10_layHand_2, show (18 : Int32) = nI 18 from rfl, if_neg (nI_nlt (by omega) (by omega))]
    exact ⟨m, rfl, fun k h1 h2 => by omega, fun _ _ => rfl, pq_Fr.refl _ m⟩
  | succ n ih =>
    intro f i m hi hf
    obtain ⟨g, rfl⟩ : ∃ g, f = g + 1 := ⟨f - 1, by omega⟩
    rw [lp_X10_layHand_2, show (18 : Int32) = nI 18 from rfl, if_pos (nI_lt (by omega) (by omega)), pk_mul, nI_add, pk_mul, nI_add, pq_ald (by omega) (by decide), pq_sb, pq_ast (by omega) (by decide), pq_sb, nI_1]
    obtain ⟨m', e, h1, h2, h3⟩ := ih g (i + 1) (ev_pim m 41 0 (18 * p + i) (m.1 36 0 (18 * h + i))) (by omega) (by omega)
    refine ⟨m', e, ?_, ?_, ?_⟩
    · intro k a1 a2
      by_cases q : k = i
      · rw [h2 _ (by omega), q]; simp [pq_pim]
      · rw [h1 k (by omega) a2]; simp [pq_pim]
    · intro k a1
      rw [h2 k (by omega), pq_pim, if_neg (fun q => by omega)]
    · exact ((pq_Fr.refl _ m).pim rfl).trans h3
theorem rf_layHand {m : ev_m} {p h : Nat} (hp : p < 2) (hh : h < 4) : ∃ m', f_X10_layHand m 0 (nI p) (nI h) = some m' ∧ rr_H m' p (fun k => m.1 36 0 (18 * h + k)) ∧ (∀ p' D, p' ≠ p → rr_H m p' D → rr_H m' p' D) ∧ pq_Fr (fun r _ => r != 41) m m' := by
  obtain ⟨m', e, h1, h2, h3⟩ := rf_layHand_l (kx := fun m => some m) hp hh 18 4000 0 m (by omega) (by omega)
  refine ⟨m', e, fun k hk => h1 k (by omega) hk, fun p' D hn hH k hk => ?_, h3⟩
  rw [h2 _ (by omega)]
  exact hH k hk
/-- the rows of the first book, as the reference has them -/
def pv_S (m : ev_m) (s : Nat) : Nat → Int32 := fun k => m.1 35 0 (23 * s + k)
def pv_D (m : ev_m) (h : Nat) : Nat → Int32 := fun k => m.1 36 0 (18 * h + k)
def pv_L : Nat → Nat → Bool := fun r _ => r != 40 && r != 41
theorem pv_S.fr {m m' : ev_m} {P : Nat → Nat → Bool} (hF : pq_Fr P m m') (hp : P 35 0 = true) (s : Nat) : pv_S m' s = pv_S m s := by
  funext k
  exact hF 35 0 _ hp
theorem pv_D.fr {m m' : ev_m} {P : Nat → Nat → Bool} (hF : pq_Fr P m m') (hp : P 36 0 = true) (s : Nat) : pv_D m' s = pv_D m s := by
  funext k
  exact hF 36 0 _ hp
theorem pv_L40 : ∀ r i, pv_L r i = true → (r != 40) = true := by
  intro r i h
  revert h
  simp only [pv_L, Bool.and_eq_true, bne_iff_ne]
  omega
theorem pv_L41 : ∀ r i, pv_L r i = true → (r != 41) = true := by
  intro r i h
  revert h
  simp only [pv_L, Bool.and_eq_true, bne_iff_ne]
  omega
/-- lay with a hand -/
theorem rf_lay_t {m : ev_m} {c0 c1 s h : Nat} {x3 : Int32} (h0 : m.1 34 0 0 = nI c0) (h1 : m.1 34 0 1 = nI c1) (b0 : c0 ≤ 2) (b1 : c1 ≤ 4) (hs : s < c0) (hh : h < c1) : ∃ m', f_X10_lay m 0 (nI s) (nI h) x3 = some (true, m') ∧ rr_S m' (pv_S m s) ∧ rr_H m' 0 (pv_D m h) ∧ pq_Fr pv_L m m' := by
  obtain ⟨m1, e1, r1, F1⟩ := rf_layShip (m := m) (s := s) (by omega)
  obtain ⟨m2, e2, r2, -, F2⟩ := rf_layHand (m := m1) (p := 0) (h := h) (by decide) (by omega)
  unfold f_X10_lay
  rw [show (0 : Int32) = nI 0 from rfl, show (1 : Int32) = nI 1 from rfl, rf_is (by decide) h0, pq_sb, is_T hs (by omega), if_pos rfl, rf_is (by decide) h1, pq_sb, is_T hh (by omega), if_pos rfl]
  unfold jn_X10_lay_29
  rw [e1, pq_sb, if_neg (fun e => by have := congrArg Int32.toInt e; rw [nI_toInt (by omega), show ((-1 : Int32)).toInt = -1 from rfl] at this; omega), show (0 : Int32) = nI 0 from rfl, e2, pq_sb]
  refine ⟨m2, rfl, r1.fr F2 rfl, ?_, (F1.sub pv_L40).trans (F2.sub pv_L41)⟩
  intro k hk
  rw [r2 k hk]
  exact F1 36 0 _ rfl
/-- lay without one -/
theorem rf_lay_n {m : ev_m} {c0 c1 s : Nat} (h0 : m.1 34 0 0 = nI c0) (h1 : m.1 34 0 1 = nI c1) (b0 : c0 ≤ 2) (b1 : c1 ≤ 4) (hs : s < c0) : ∃ m', f_X10_lay m 0 (nI s) (-1) 1 = some (true, m') ∧ rr_S m' (pv_S m s) ∧ pq_Fr pv_L m m' := by
  obtain ⟨m1, e1, r1, F1⟩ := rf_layShip (m := m) (s := s) (by omega)
  unfold f_X10_lay
  have hx : s_X10_in m (-1) 0 (nI c1 - 1) = false := by
    unfold s_X10_in
    rw [if_pos (by decide)]
  rw [show f_X10_is m 0 0 (nI s) = _ from rf_is (t := 0) (by decide) h0, pq_sb, is_T hs (by omega), if_pos rfl, show f_X10_is m 0 1 (-1) = _ from rf_is (t := 1) (by decide) h1, pq_sb, hx, if_neg (by decide), if_neg (by decide), if_pos rfl]
  unfold jn_X10_lay_29
  rw [e1, pq_sb, if_pos rfl]
  exact ⟨m1, rfl, r1, F1.sub pv_L40⟩
/-- lay refuses -/
theorem rf_lay_f {m : ev_m} {c0 c1 : Nat} {x y z : Int32} (h0 : m.1 34 0 0 = nI c0) (h1 : m.1 34 0 1 = nI c1) (b0 : c0 ≤ 2) (b1 : c1 ≤ 4) (hn : ¬ ((∃ s, s < c0 ∧ x = nI s) ∧ ((∃ h, h < c1 ∧ y = nI h) ∨ (z ≠ 0 ∧ y = -1)))) : f_X10_lay m 0 x y z = some (false, m) := by
  unfold f_X10_lay
  rw [show f_X10_is m 0 0 x = _ from rf_is (t := 0) (by decide) h0, pq_sb]
  by_cases e0 : s_X10_in m x 0 (nI c0 - 1) = true
  · rw [if_pos e0, show f_X10_is m 0 1 y = _ from rf_is (t := 1) (by decide) h1, pq_sb]
    have ex := is_F (by omega) e0
    by_cases e1 : s_X10_in m y 0 (nI c1 - 1) = true
    · exact absurd ⟨ex, Or.inl (is_F (by omega) e1)⟩ hn
    · rw [if_neg e1]
      by_cases e2 : z = 0
      · rw [if_pos e2]
      · rw [if_neg e2]
        by_cases e3 : y = -1
        · exact absurd ⟨ex, Or.inr ⟨e2, e3⟩⟩ hn
        · rw [if_neg e3]
  · rw [if_neg e0]
theorem rf_layFor_t {m : ev_m} {c0 c1 s h n : Nat} (h0 : m.1 34 0 0 = nI c0) (h1 : m.1 34 0 1 = nI c1) (b0 : c0 ≤ 2) (b1 : c1 ≤ 4) (hs : s < c0) (hh : h < c1) (hn1 : 1 ≤ n) (hn2 : n ≤ 200) : ∃ m', f_X10_layFor m 0 (nI s) (nI h) (nI n) = some (true, m') ∧ rr_S m' (pv_S m s) ∧ rr_H m' 0 (pv_D m h) ∧ pq_Fr pv_L m m' := by
  obtain ⟨m', e, r⟩ := rf_lay_t (x3 := 0) h0 h1 b0 b1 hs hh
  unfold f_X10_layFor
  rw [show s_X10_in m (nI n) 1 200 = true from in_T hn1 hn2 (by decide), if_pos rfl, e, pq_sb, if_pos rfl]
  exact ⟨m', rfl, r⟩
theorem rf_layFor_f {m : ev_m} {c0 c1 : Nat} {x y z : Int32} (h0 : m.1 34 0 0 = nI c0) (h1 : m.1 34 0 1 = nI c1) (b0 : c0 ≤ 2) (b1 : c1 ≤ 4) (hn : ¬ ((∃ s, s < c0 ∧ x = nI s) ∧ (∃ h, h < c1 ∧ y = nI h) ∧ ∃ n, 1 ≤ n ∧ n ≤ 200 ∧ z = nI n)) : f_X10_layFor m 0 x y z = some (false, m) := by
  unfold f_X10_layFor
  by_cases e : s_X10_in m z 1 200 = true
  · rw [if_pos e, rf_lay_f h0 h1 b0 b1 (fun q => hn ⟨q.1, q.2.elim id (fun r => absurd rfl r.1), in_F (a := 1) (b := 200) (by decide) (by decide) e⟩), pq_sb, if_neg Bool.false_ne_true]
  · rw [if_neg e]
theorem rf_put {m : ev_m} {k : Nat} {v : Int32} (hk : k < 36) : f_X10_put m 0 (nI k) v = some (ev_pim m 41 0 k v) := by
  unfold f_X10_put
  rw [pq_ast hk (by decide), pq_sb]
theorem rr_H.put {m : ev_m} {D : Nat → Int32} {k : Nat} {v : Int32} (h : rr_H m 0 D) (hk : k < 18) : rr_H (ev_pim m 41 0 k v) 0 (upd D k v) := by
  intro j hj
  unfold upd
  by_cases e : j = k
  · simp [pq_pim, e]
  · simp [pq_pim, e]
    have := h j hj
    rw [show 18 * 0 + j = j by omega] at this
    exact this
theorem rr_S.put {m : ev_m} {S : Nat → Int32} {k : Nat} {v : Int32} (h : rr_S m S) : rr_S (ev_pim m 40 0 k v) (upd S k v) := by
  intro j hj
  unfold upd
  by_cases e : j = k
  · simp [pq_pim, e]
  · simp [pq_pim, e]
    exact h j hj
/-- what a run costs -/
def pc_cost (S : Nat → Int32) (q : pu_Q) : Int64 := pa_off q.1 q.2.2.2.2.1 + (S 5).toInt64 * (pa_wea q.2.2.1 q.2.2.2.2.1).toInt64
def pc_grow (q : pu_Q) : Bool := decide (2 ≤ pa_tim q.1 q.2.2.2.2.1) && decide (pa_pk q.1 q.2.2.2.2.1 (pa_tim q.1 q.2.2.2.2.1 - 2) < pa_pk q.1 q.2.2.2.2.1 (pa_tim q.1 q.2.2.2.2.1 - 1))
theorem rf_cost {m : ev_m} {S : Nat → Int32} {q : pu_Q} (hR : rr_R m q) (hS : rr_S m S) : s_X10_cost m 0 = pc_cost S q := by
  unfold s_X10_cost pc_cost
  rw [hR.2.1.1, hR.2.2.1, hS 5 (by decide)]
theorem rf_grows {m : ev_m} {q : pu_Q} (hR : rr_R m q) (hd : q.2.2.2.2.1 ≤ 400) : f_X10_grows m 0 = some (pc_grow q) := by
  obtain ⟨-, ⟨-, -, -, -, h38, -, h49⟩, -⟩ := hR
  have hle := pa_tim_le q.1 q.2.2.2.2.1
  unfold f_X10_grows pc_grow
  rw [h38, show (2 : Int32) = nI 2 from rfl]
  by_cases h2 : pa_tim q.1 q.2.2.2.2.1 < 2
  · rw [if_pos (nI_lt h2 (by decide)), decide_eq_false (by omega)]
    rfl
  · rw [if_neg (nI_nlt (by omega) (by omega)), show (1 : Int32) = nI 1 from rfl, pk_sub (by omega), pk_sub (by omega), pq_ald (by omega) (by decide), pq_sb, pq_ald (by omega) (by decide), pq_sb, h49 _ (by omega), h49 _ (by omega), decide_eq_true (by omega)]
    by_cases h3 : pa_pk q.1 q.2.2.2.2.1 (pa_tim q.1 q.2.2.2.2.1 - 2) < pa_pk q.1 q.2.2.2.2.1 (pa_tim q.1 q.2.2.2.2.1 - 1)
    · rw [if_pos h3, decide_eq_true h3]
      rfl
    · rw [if_neg h3, decide_eq_false h3]
      rfl
theorem pu_run_d (S D : Nat → Int32) (seed : Int32) (n : Nat) : (pu_run S D seed n).2.2.2.2.1 = n := by
  unfold pu_run pu_steer
  rw [pu_go_d]
  show 0 + n = n
  omega
theorem pu_run0_d (S : Nat → Int32) (seed : Int32) (n : Nat) : (pu_run0 S seed n).2.2.2.2.1 = n := by
  unfold pu_run0
  rw [pu_free_d]
  show 0 + n = n
  omega
theorem rf_costBy {m : ev_m} {n : Nat} {S D : Nat → Int32} (hD : pu_okD D) (hS : pu_okS S) (hn : n ≤ 400) (hH : rr_H m 0 D) (hR : rr_S m S) : ∃ m', f_X10_costBy m 0 (nI n) = some (pc_cost S (pu_run S D 0 n), m') ∧ rr_R m' (pu_run S D 0 n) ∧ pq_Fr rr_P m m' := by
  obtain ⟨m', e, r, F⟩ := rf_run (seed := 0) hD hS hn hH hR
  unfold f_X10_costBy
  rw [e, pq_sb, rf_cost r (hR.fr F rfl)]
  exact ⟨m', rfl, r, F⟩
