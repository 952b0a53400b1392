/-! pure: the reference's run -/
def rr_S (m : ev_m) (S : Nat → Int32) : Prop := ∀ k, k < 23 → m.1 40 0 k = S k
def rr_H (m : ev_m) (p : Nat) (D : Nat → Int32) : Prop := ∀ k, k < 18 → m.1 41 0 (18 * p + k) = D k
def rr_q (m : ev_m) (q : pu_Q) : Prop := (∀ k, k ≤ q.2.2.2.2.1 → m.1 45 0 k = q.1 k) ∧ (∀ k, k ≤ q.2.2.2.2.1 → m.1 46 0 k = q.2.1 k) ∧ (∀ k, k ≤ q.2.2.2.2.1 → m.1 47 0 k = q.2.2.1 k) ∧ (∀ k, k ≤ q.2.2.2.2.1 → m.1 48 0 k = q.2.2.2.1 k) ∧ m.1 10 0 32 = nI q.2.2.2.2.1 ∧ m.1 10 0 26 = q.2.2.2.2.2
def rr_t (m : ev_m) (H : Nat → Int32) (d : Nat) : Prop := m.2.1 10 0 33 = pa_off H d ∧ m.2.1 10 0 35 = pa_los H d ∧ m.1 10 0 36 = pa_wid H d ∧ m.2.1 10 0 37 = pa_dri H d ∧ m.1 10 0 38 = nI (pa_tim H d) ∧ m.1 10 0 39 = pa_sig H d ∧ ∀ k, k ≤ pa_tim H d → m.1 49 0 k = pa_pk H d k
def rr_w (m : ev_m) (R : Nat → Int32) (d : Nat) : Prop := m.1 10 0 34 = pa_wea R d ∧ m.1 10 0 40 = pa_spk R d ∧ m.1 10 0 41 = pa_sti R d ∧ m.1 10 0 42 = pa_lng R d
def rr_m (m : ev_m) (p : Nat) (a : pu_A) (d : Nat) : Prop := m.1 42 0 p = a.2.2 ∧ m.1 43 0 p = a.2.1 ∧ ∃ b, b + a.1 = d ∧ m.1 44 0 p = nI b
theorem rf_of {m : ev_m} {p k : Nat} {D : Nat → Int32} (hp : p < 2) (hk : k < 18) (h : rr_H m p D) : f_X10_of m 0 (nI p) (nI k) = some (D k) := by
  unfold f_X10_of
  rw [show (18 : Int32) = nI 18 from rfl, pk_mul, nI_add, pq_ald (by omega) (by decide), pq_sb, h k hk]
theorem rf_ofs {m : ev_m} {p : Nat} {D : Nat → Int32} (hp : p < 2) (h : rr_H m p D) : f_X10_of m 0 (nI p) 0 = some (D 0) ∧ f_X10_of m 0 (nI p) 1 = some (D 1) ∧ f_X10_of m 0 (nI p) 2 = some (D 2) ∧ f_X10_of m 0 (nI p) 3 = some (D 3) ∧ f_X10_of m 0 (nI p) 4 = some (D 4) ∧ f_X10_of m 0 (nI p) 5 = some (D 5) ∧ f_X10_of m 0 (nI p) 6 = some (D 6) ∧ f_X10_of m 0 (nI p) 7 = some (D 7) ∧ f_X10_of m 0 (nI p) 8 = some (D 8) ∧ f_X10_of m 0 (nI p) 9 = some (D 9) := ⟨rf_of hp (by decide) h, rf_of hp (by decide) h, rf_of hp (by decide) h, rf_of hp (by decide) h, rf_of hp (by decide) h, rf_of hp (by decide) h, rf_of hp (by decide) h, rf_of hp (by decide) h, rf_of hp (by decide) h, rf_of hp (by decide) h⟩
theorem rf_star_l {m : ev_m} {p c : Nat} {D : Nat → Int32} {t : Int32} {kx : Unit → Option Bool} (hp : p < 2) (h : rr_H m p D) (hc : D 9 = nI c) (h4 : c ≤ 4) : ∀ n f i, i + n = c → n < f → lp_X10_isStar_2 m 0 (nI p) t f (nI i) kx = if pu_st D t i n = true then some true else kx () := by
  intro n
  obtain ⟨-, -, -, -, -, -, -, -, -, o9⟩ := rf_ofs hp h
  induction n with
  | zero =>
    intro f i hi hf
    obtain ⟨g, rfl⟩ : ∃ g, f = g + 1 := ⟨f - 1, by omega⟩
    rw [lp_X10_isStar_2, o9, pq_sb, hc, if_neg (nI_nlt (by omega) (by omega)), pu_st]
    rfl
  | succ n ih =>
    intro f i hi hf
    obtain ⟨g, rfl⟩ : ∃ g, f = g + 1 := ⟨f - 1, by omega⟩
    rw [lp_X10_isStar_2, o9, pq_sb, hc, if_pos (nI_lt (by omega) (by omega)), show (2 : Int32) = nI 2 from rfl, pk_mul, show (10 : Int32) = nI 10 from rfl, nI_add, show (11 : Int32) = nI 11 from rfl, nI_add, rf_of hp (by omega) h, pq_sb, rf_of hp (by omega) h, pq_sb, nI_1, ih g (i + 1) (by omega) (by omega), pu_st]
    unfold s_X10_in
    by_cases h1 : t < D (10 + 2 * i)
    · rw [if_pos h1, if_pos h1]
      rfl
    · rw [if_neg h1, if_neg h1]
      by_cases h2 : D (11 + 2 * i) < t
      · rw [if_pos h2, if_pos h2]
        rfl
      · rw [if_neg h2, if_neg h2]
        rfl
theorem rf_star {m : ev_m} {p : Nat} {D : Nat → Int32} {t : Int32} (hp : p < 2) (h : rr_H m p D) (hD : pu_okD D) : f_X10_isStar m 0 (nI p) t = some (pu_st D t 0 (D 9).toNatClampNeg) := by
  obtain ⟨-, -, -, -, c, h4, hc⟩ := hD
  unfold f_X10_isStar
  have := rf_star_l (kx := fun _ => some false) (t := t) hp h hc h4 c 4000 0 (by omega) (by omega)
  rw [show (0 : Int32) = nI 0 from rfl, this, hc, nI_clamp (by omega)]
  cases pu_st D t 0 c <;> rfl
theorem pu_nI {x : Int32} {n : Nat} (h0 : 0 ≤ x.toInt) (h1 : x.toInt ≤ n) (hn : n < 2 ^ 31) : ∃ j : Nat, j ≤ n ∧ x = nI j := by
  obtain ⟨j, hj, rfl⟩ := nI_of (x := x) (by rw [fa_lt]; show ¬ x.toInt < 0; omega)
  rw [nI_toInt hj] at h1
  exact ⟨j, by omega, rfl⟩
theorem pu_slow_ok {D : Nat → Int32} (hD : pu_okD D) {t : Nat} (ht : t < 2 ^ 30) : ∃ j : Nat, j ≤ 5 ∧ pu_slow D (nI t) = nI j := by
  obtain ⟨e, he, h6⟩ := pu_nI (n := 999) hD.2.2.1.1 hD.2.2.1.2 (by decide)
  unfold pu_slow
  rw [h6]
  by_cases h0 : e = 0
  · subst h0
    exact ⟨0, by omega, rfl⟩
  · rw [if_neg (nI_ne0 (by omega) (by omega)), pk_div (by omega) (by omega) (by omega), show (5 : Int32) = nI 5 from rfl]
    by_cases h5 : t / e < 5
    · rw [if_pos (nI_lt h5 (by omega))]
      exact ⟨t / e, by omega, rfl⟩
    · have hq : t / e ≤ t := Nat.div_le_self _ _
      rw [if_neg (nI_nlt (by omega) (by omega))]
      exact ⟨5, by omega, rfl⟩
theorem pu_back_ok {S D : Nat → Int32} (hS : pu_okS S) (hD : pu_okD D) {t : Nat} (ht : t < 2 ^ 30) : ∃ j : Nat, j ≤ 14 ∧ pu_back S D (nI t) = nI j := by
  obtain ⟨e, he, h2⟩ := pu_nI (n := 9) hS.1.1 hS.1.2 (by decide)
  obtain ⟨g, hg, h3⟩ := pu_slow_ok hD ht
  unfold pu_back
  split
  · exact ⟨0, by omega, rfl⟩
  · rw [h2, h3, nI_add]
    exact ⟨e + g, by omega, rfl⟩
theorem pu_ix_ok {d b : Nat} (hd : d < 2 ^ 30) (hb : b < 2 ^ 30) : ∃ j : Nat, j ≤ d ∧ pu_ix (nI d) (nI b) = nI j := by
  unfold pu_ix
  by_cases h : d < b
  · rw [if_pos (nI_lt h (by omega))]
    exact ⟨0, by omega, rfl⟩
  · rw [if_neg (nI_nlt (by omega) (by omega)), pk_sub (by omega)]
    exact ⟨d - b, by omega, rfl⟩
theorem rf_sees {m : ev_m} {p d t : Nat} {S D H : Nat → Int32} (hp : p < 2) (hH : rr_H m p D) (hD : pu_okD D) (hS : pu_okS S) (h2 : m.1 40 0 2 = S 2) (hd : d ≤ 400) (ht : t < 2 ^ 30) (h32 : m.1 10 0 32 = nI d) (h45 : ∀ k, k ≤ d → m.1 45 0 k = H k) : f_X10_sees m 0 (nI p) (nI t) = some (pu_see S D H (nI d) (nI t)) := by
  obtain ⟨-, -, -, -, o4, -, o6, -, -, -⟩ := rf_ofs hp hH
  have hj : ∀ more, more = pu_slow D (nI t) → jn_X10_sees_40 m 0 (nI p) (nI t) more = some (pu_see S D H (nI d) (nI t)) := by
    intro more hm
    subst hm
    unfold jn_X10_sees_40
    obtain ⟨b, hb, eb⟩ := pu_back_ok hS hD ht
    obtain ⟨j, hj, ej⟩ := pu_ix_ok (d := d) (b := b) (by omega) (by omega)
    simp only [rf_star hp hH hD, pq_sb, pq_let, h2]
    rw [h32]
    have e1 : (if pu_st D (nI t) 0 (D 9).toNatClampNeg = true then (0 : Int32) else S 2 + pu_slow D (nI t)) = nI b := eb
    rw [e1]
    have e2 : (if nI d < nI b then (0 : Int32) else nI d - nI b) = nI j := ej
    rw [e2, pq_ald (by omega) (by decide), pq_sb, o4, pq_sb, h45 j hj]
    have h4 : ¬ D 4 = 0 := by
      intro e
      have := hD.2.1.1
      rw [e] at this
      exact absurd this (by decide)
    unfold ev_rm
    rw [if_neg h4, pq_sb]
    unfold pu_see pu_pt
    rw [eb, ej, nI_clamp (by omega)]
  unfold f_X10_sees
  simp only [o6, pq_sb]
  by_cases h0 : D 6 = 0
  · rw [if_pos h0]
    exact hj 0 (by unfold pu_slow; rw [if_pos h0])
  · rw [if_neg h0]
    unfold ev_dv
    simp only [if_neg h0, pq_sb]
    by_cases h5 : nI t / D 6 < 5
    · rw [if_pos h5]
      exact hj _ (by unfold pu_slow; rw [if_neg h0, if_pos h5])
    · rw [if_neg h5]
      exact hj _ (by unfold pu_slow; rw [if_neg h0, if_neg h5])
theorem rf_w38 {m : ev_m} {p d : Nat} {S D : Nat → Int32} {t sees goes s0 seed : Int32} (hp : p < 2) (hH : rr_H m p D) (h3 : m.1 40 0 3 = S 3) (h43 : m.1 43 0 p = s0) (hd : d ≤ 400) (h32 : m.1 10 0 32 = nI d) (h26 : m.1 10 0 26 = seed) :
    jn_X10_wants_38 m 0 (nI p) t sees goes = some (if 0 < D 7 then (if pu_rn (pu_dr seed) < D 7 then m.1 47 0 d else pu_wa S D sees goes (pu_wi (s0 + sees) 9999) t) else pu_wa S D sees goes (pu_wi (s0 + sees) 9999) t, if 0 < D 7 then ev_pim (ev_pim (ev_pim m 42 0 p sees) 43 0 p (pu_wi (s0 + sees) 9999)) 10 0 26 (pu_dr seed) else ev_pim (ev_pim m 42 0 p sees) 43 0 p (pu_wi (s0 + sees) 9999)) := by
  unfold jn_X10_wants_38
  rw [pq_ast hp (by decide), pq_sb, pq_ald hp (by decide), pq_sb, pq_ast hp (by decide), pq_sb]
  have e43 : (ev_pim m 42 0 p sees).1 43 0 p = s0 := by simp [pq_pim, h43]
  rw [e43, pu_wi_r]
  generalize hs : pu_wi (s0 + sees) 9999 = s1
  have hR : rr_H (ev_pim (ev_pim m 42 0 p sees) 43 0 p s1) p D := fun k hk => by simp [pq_pim]; exact hH k hk
  have g3 : (ev_pim (ev_pim m 42 0 p sees) 43 0 p s1).1 40 0 3 = S 3 := by simp [pq_pim, h3]
  have g43 : (ev_pim (ev_pim m 42 0 p sees) 43 0 p s1).1 43 0 p = s1 := by simp [pq_pim]
  have g32 : (ev_pim (ev_pim m 42 0 p sees) 43 0 p s1).1 10 0 32 = nI d := by simp [pq_pim, h32]
  have g26 : (ev_pim (ev_pim m 42 0 p sees) 43 0 p s1).1 10 0 26 = seed := by simp [pq_pim, h26]
  have g47 : (ev_pim (ev_pim m 42 0 p sees) 43 0 p s1).1 47 0 d = m.1 47 0 d := by simp [pq_pim]
  generalize ev_pim (ev_pim m 42 0 p sees) 43 0 p s1 = m14 at *
  obtain ⟨o0, o1, o2, o3, -, o5, -, o7, o8, -⟩ := rf_ofs hp hR
  rw [o0, pq_sb, o1, pq_sb, o2, pq_sb, pq_ald hp (by decide), pq_sb, pq_let, o3, pq_sb, pq_let, o8, pq_sb, pq_let, o5, pq_sb, pq_let, o7, pq_sb, g43, g3]
  have hw : (if D 5 < t then (if D 8 = 1 then (if s_X10_signOf m14 goes * s_X10_signOf m14 sees < 0 then 0 else (if D 3 < s_X10_plain m14 sees then s_X10_within m14 (((((-D 0) * sees) - (D 1 * goes)) - ((D 2 * s1) / 100)) / 100) (S 3) else 0)) else (if D 3 < s_X10_plain m14 sees then s_X10_within m14 (((((-D 0) * sees) - (D 1 * goes)) - ((D 2 * s1) / 100)) / 100) (S 3) else 0)) else (-(if D 8 = 1 then (if s_X10_signOf m14 goes * s_X10_signOf m14 sees < 0 then 0 else (if D 3 < s_X10_plain m14 sees then s_X10_within m14 (((((-D 0) * sees) - (D 1 * goes)) - ((D 2 * s1) / 100)) / 100) (S 3) else 0)) else (if D 3 < s_X10_plain m14 sees then s_X10_within m14 (((((-D 0) * sees) - (D 1 * goes)) - ((D 2 * s1) / 100)) / 100) (S 3) else 0)))) = pu_wa S D sees goes s1 t := rfl
  rw [hw]
  generalize pu_wa S D sees goes s1 t = wv
  by_cases h7 : 0 < D 7
  · rw [if_pos h7, if_pos h7, if_pos h7]
    unfold f_X10_draw
    rw [pq_let]
    have ed : (ev_pim m14 10 0 26 (m14.1 10 0 26 * 1103515245 + 12345)).1 10 0 26 = pu_dr seed := by simp [pq_pim, g26, pu_dr]
    have ed2 : ev_pim m14 10 0 26 (m14.1 10 0 26 * 1103515245 + 12345) = ev_pim m14 10 0 26 (pu_dr seed) := by rw [g26, pu_dr]
    rw [ed, ed2]
    unfold ev_rm
    rw [if_neg (by decide), pq_sb, pq_sb]
    have hR2 : rr_H (ev_pim m14 10 0 26 (pu_dr seed)) p D := fun k hk => by simp [pq_pim]; exact hR k hk
    obtain ⟨-, -, -, -, -, -, -, o7, -, -⟩ := rf_ofs hp hR2
    dsimp only
    rw [o7, pq_sb]
    show (if pu_rn (pu_dr seed) < D 7 then _ else _) = _
    by_cases hsl : pu_rn (pu_dr seed) < D 7
    · rw [if_pos hsl, if_pos hsl]
      have e32 : (ev_pim m14 10 0 26 (pu_dr seed)).1 10 0 32 = nI d := by simp [pq_pim, g32]
      rw [e32, pq_ald (by omega) (by decide), pq_sb]
      have e47 : (ev_pim m14 10 0 26 (pu_dr seed)).1 47 0 d = m.1 47 0 d := by simp [pq_pim, g47]
      rw [e47]
    · rw [if_neg hsl, if_neg hsl]
  · rw [if_neg h7, if_neg h7, if_neg h7]
