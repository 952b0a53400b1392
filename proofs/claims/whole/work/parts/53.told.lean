/-! pure: what is told, on both sides; ships and hands for trials -/
def pv_P (m : ev_m) (p : Nat) : Nat → Int32 := fun k => m.1 37 0 (61 * p + k)
def pv_W (m : ev_m) (w : Nat) : Nat → Int32 := fun k => m.1 38 0 (17 * w + k)
def cp_P (m : ev_m) (i : Nat) (B : Nat → Int32) : Prop := m.1 5 i 1 = B 0 ∧ ∀ k, k < (B 0).toNatClampNeg → m.1 15 i k = B (1 + k)
def cp_W (m : ev_m) (i : Nat) (B : Nat → Int32) : Prop := m.1 6 i 2 = B 0 ∧ ∀ k, k < (B 0).toNatClampNeg → m.1 16 i k = B (1 + 2 * k) ∧ m.1 17 i k = B (2 + 2 * k)
def pu_okP (B : Nat → Int32) : Prop := ∃ c : Nat, 1 ≤ c ∧ c ≤ 60 ∧ B 0 = nI c ∧ ∀ k, k < c → -9999 ≤ (B (1 + k)).toInt ∧ (B (1 + k)).toInt ≤ 9999
def pu_okW (B : Nat → Int32) : Prop := ∃ c : Nat, c ≤ 8 ∧ B 0 = nI c ∧ ∀ k, k < c → (∃ h : Nat, h ≤ 3 ∧ B (1 + 2 * k) = nI h) ∧ ∃ n : Nat, 1 ≤ n ∧ n ≤ 200 ∧ B (2 + 2 * k) = nI n
/-- what is told in book b, on both sides -/
def iv_B (m : ev_m) (b c0 c1 c2 c3 : Nat) : Prop := (c0 ≤ 2 ∧ c1 ≤ 4 ∧ c2 ≤ 2 ∧ c3 ≤ 2) ∧ (m.1 1 b 3 = nI c0 ∧ m.1 1 b 4 = nI c1 ∧ m.1 1 b 5 = nI c2 ∧ m.1 1 b 6 = nI c3) ∧ (m.1 34 0 (4 * b) = nI c0 ∧ m.1 34 0 (4 * b + 1) = nI c1 ∧ m.1 34 0 (4 * b + 2) = nI c2 ∧ m.1 34 0 (4 * b + 3) = nI c3) ∧
  (∀ s, s < c0 → cc_S m (2 * b + s) (pv_S m (2 * b + s)) ∧ pu_okS (pv_S m (2 * b + s))) ∧ (∀ h, h < c1 → cc_D m (4 * b + h) (pv_D m (4 * b + h)) ∧ pu_okD (pv_D m (4 * b + h))) ∧ (∀ p, p < c2 → cp_P m (2 * b + p) (pv_P m (2 * b + p)) ∧ pu_okP (pv_P m (2 * b + p))) ∧ (∀ w, w < c3 → cp_W m (2 * b + w) (pv_W m (2 * b + w)) ∧ pu_okW (pv_W m (2 * b + w)))
/-- places that only one call uses -/
def sc_ (r i : Nat) : Bool := r == 7 || r == 8 || r == 9 || r == 10 || (decide (18 ≤ r) && decide (r ≤ 21)) || (decide (39 ≤ r) && decide (r ≤ 51)) || ((r == 2 || r == 11) && i == 4) || ((r == 3 || r == 12) && decide (8 ≤ i)) || ((r == 4 || r == 13 || r == 14) && decide (16 ≤ i)) || ((r == 5 || r == 15 || r == 6 || r == 16 || r == 17) && decide (8 ≤ i))
def PI_ : Nat → Nat → Bool := fun r i => !sc_ r i
def PC_ : Nat → Nat → Bool := fun r i => !(r == 8 || r == 9 || (decide (18 ≤ r) && decide (r ≤ 21)) || ((r == 3 || r == 12) && i == 8) || ((r == 4 || r == 13 || r == 14) && i == 16))
def PR_ : Nat → Nat → Bool := fun r _ => !(r == 10 || (decide (40 ≤ r) && decide (r ≤ 51)))
theorem PI_C : ∀ r i, PI_ r i = true → PC_ r i = true := by
  intro r i h
  cases hc : PC_ r i with
  | true => rfl
  | false =>
    exfalso
    revert h hc
    simp only [PI_, PC_, sc_, Bool.not_eq_true', Bool.not_eq_false', Bool.or_eq_false_iff, Bool.and_eq_false_imp, Bool.or_eq_true, Bool.and_eq_true, beq_iff_eq, beq_eq_false_iff_ne, decide_eq_true_eq, decide_eq_false_iff_not, ne_eq]
    omega
theorem PI_R : ∀ r i, PI_ r i = true → PR_ r i = true := by
  intro r i h
  cases hc : PR_ r i with
  | true => rfl
  | false =>
    exfalso
    revert h hc
    simp only [PI_, PR_, sc_, Bool.not_eq_true', Bool.not_eq_false', Bool.or_eq_false_iff, Bool.and_eq_false_imp, Bool.or_eq_true, Bool.and_eq_true, beq_iff_eq, beq_eq_false_iff_ne, decide_eq_true_eq, decide_eq_false_iff_not, ne_eq]
    omega
theorem PC_P : ∀ r i, PC_ r i = true → cc_P r i = true := by
  intro r i h
  cases hc : cc_P r i with
  | true => rfl
  | false =>
    exfalso
    revert h hc
    simp only [PC_, cc_P, Bool.not_eq_true', Bool.or_eq_false_iff, Bool.and_eq_false_imp, Bool.or_eq_true, Bool.and_eq_true, beq_iff_eq, bne_iff_ne, beq_eq_false_iff_ne, decide_eq_true_eq, decide_eq_false_iff_not, ne_eq]
    omega
theorem PR_P : ∀ r i, PR_ r i = true → rr_P r i = true := by
  intro r i h
  cases hc : rr_P r i with
  | true => rfl
  | false =>
    exfalso
    revert h hc
    simp only [PR_, rr_P, Bool.not_eq_true', Bool.or_eq_false_iff, Bool.and_eq_false_imp, Bool.or_eq_true, Bool.and_eq_true, beq_iff_eq, bne_iff_ne, beq_eq_false_iff_ne, decide_eq_true_eq, decide_eq_false_iff_not, ne_eq]
    omega
theorem PR_L : ∀ r i, PR_ r i = true → pv_L r i = true := by
  intro r i h
  simp only [pv_L, Bool.and_eq_true, bne_iff_ne]
  constructor
  · intro e
    subst e
    exact Bool.noConfusion (show false = true from h)
  · intro e
    subst e
    exact Bool.noConfusion (show false = true from h)
theorem PI_k {r i : Nat} (h : r = 1 ∨ r = 22 ∨ (30 ≤ r ∧ r ≤ 38) ∨ r = 52) : PI_ r i = true := by
  have : sc_ r i = false := by
    cases hc : sc_ r i with
    | false => rfl
    | true =>
      exfalso
      revert hc
      simp only [sc_, Bool.or_eq_true, Bool.and_eq_true, beq_iff_eq, decide_eq_true_eq]
      omega
  unfold PI_
  rw [this]
  rfl
theorem PI_s {r i : Nat} (h : (r = 2 ∨ r = 11) ∧ i < 4 ∨ (r = 3 ∨ r = 12) ∧ i < 8 ∨ (r = 4 ∨ r = 13 ∨ r = 14) ∧ i < 16 ∨ (r = 5 ∨ r = 15 ∨ r = 6 ∨ r = 16 ∨ r = 17) ∧ i < 8) : PI_ r i = true := by
  have : sc_ r i = false := by
    cases hc : sc_ r i with
    | false => rfl
    | true =>
      exfalso
      revert hc
      simp only [sc_, Bool.or_eq_true, Bool.and_eq_true, beq_iff_eq, decide_eq_true_eq]
      omega
  unfold PI_
  rw [this]
  rfl
theorem iv_B.fr {m m' : ev_m} {b c0 c1 c2 c3 : Nat} (h : iv_B m b c0 c1 c2 c3) (hF : pq_Fr PI_ m m') (hb : b < 4) : iv_B m' b c0 c1 c2 c3 := by
  obtain ⟨g, ⟨k0, k1, k2, k3⟩, ⟨r0, r1, r2, r3⟩, hs, hh, hp, hw⟩ := h
  have e1 : ∀ k, m'.1 1 b k = m.1 1 b k := fun k => hF 1 b k (PI_k (by omega))
  have e34 : ∀ k, m'.1 34 0 k = m.1 34 0 k := fun k => hF 34 0 k (PI_k (by omega))
  have eS : ∀ s, pv_S m' s = pv_S m s := fun s => pv_S.fr hF (PI_k (by omega)) s
  have eD : ∀ s, pv_D m' s = pv_D m s := fun s => pv_D.fr hF (PI_k (by omega)) s
  have eP : ∀ s, pv_P m' s = pv_P m s := fun s => by funext k; exact hF 37 0 _ (PI_k (by omega))
  have eW : ∀ s, pv_W m' s = pv_W m s := fun s => by funext k; exact hF 38 0 _ (PI_k (by omega))
  refine ⟨g, ⟨?_, ?_, ?_, ?_⟩, ⟨?_, ?_, ?_, ?_⟩, ?_, ?_, ?_, ?_⟩
  · rw [e1]; exact k0
  · rw [e1]; exact k1
  · rw [e1]; exact k2
  · rw [e1]; exact k3
  · rw [e34]; exact r0
  · rw [e34]; exact r1
  · rw [e34]; exact r2
  · rw [e34]; exact r3
  · intro s q
    rw [eS]
    exact ⟨(hs s q).1.fr hF (PI_s (by omega)) (PI_s (by omega)), (hs s q).2⟩
  · intro s q
    rw [eD]
    exact ⟨(hh s q).1.fr hF (PI_s (by omega)) (PI_s (by omega)) (PI_s (by omega)), (hh s q).2⟩
  · intro s q
    rw [eP]
    exact ⟨⟨(hF 5 _ 1 (PI_s (by omega))).trans (hp s q).1.1, fun k hk => (hF 15 _ k (PI_s (by omega))).trans ((hp s q).1.2 k hk)⟩, (hp s q).2⟩
  · intro s q
    rw [eW]
    exact ⟨⟨(hF 6 _ 2 (PI_s (by omega))).trans (hw s q).1.1, fun k hk => ⟨(hF 16 _ k (PI_s (by omega))).trans ((hw s q).1.2 k hk).1, (hF 17 _ k (PI_s (by omega))).trans ((hw s q).1.2 k hk).2⟩⟩, (hw s q).2⟩
/-- who is told, in the class -/
theorem cl_shipAt_t {m : ev_m} {b c s : Nat} (hc : m.1 1 b 3 = nI c) (h2 : c ≤ 2) (hs : s < c) : f_X0_shipAt m b (nI s) = some (some (2 * b + s)) := by
  unfold f_X0_shipAt ev_ard
  rw [hc, if_neg (nI_pos (by omega)), if_pos (nI_lt hs (by omega)), if_pos (show nI s < 2 from nI_lt (b := 2) (by omega) (by decide)), nI_toInt (by omega), if_pos (by omega), pq_sb, nI_clamp (by omega)]
theorem cl_shipAt_f {m : ev_m} {b c : Nat} {x : Int32} (hc : m.1 1 b 3 = nI c) (h2 : c ≤ 2) (hs : ∀ s, s < c → x ≠ nI s) : f_X0_shipAt m b x = some none := by
  unfold f_X0_shipAt
  rw [hc]
  rcases pk_ix x (n := c) (by omega) with h | h | ⟨j, hj, e⟩
  · rw [if_pos h]
  · rw [if_neg (show ¬ x < nI c by rw [fa_lt]; rw [fa_le] at h; omega)]
    split <;> rfl
  · exact absurd e (hs j hj)
theorem cl_handAt_t {m : ev_m} {b c s : Nat} (hc : m.1 1 b 4 = nI c) (h2 : c ≤ 4) (hs : s < c) : f_X0_handAt m b (nI s) = some (some (4 * b + s)) := by
  unfold f_X0_handAt ev_ard
  rw [hc, if_neg (nI_pos (by omega)), if_pos (nI_lt hs (by omega)), if_pos (show nI s < 4 from nI_lt (b := 4) (by omega) (by decide)), nI_toInt (by omega), if_pos (by omega), pq_sb, nI_clamp (by omega)]
theorem cl_handAt_f {m : ev_m} {b c : Nat} {x : Int32} (hc : m.1 1 b 4 = nI c) (h2 : c ≤ 4) (hs : ∀ s, s < c → x ≠ nI s) : f_X0_handAt m b x = some none := by
  unfold f_X0_handAt
  rw [hc]
  rcases pk_ix x (n := c) (by omega) with h | h | ⟨j, hj, e⟩
  · rw [if_pos h]
  · rw [if_neg (show ¬ x < nI c by rw [fa_lt]; rw [fa_le] at h; omega)]
    split <;> rfl
  · exact absurd e (hs j hj)
theorem cl_paperAt_t {m : ev_m} {b c s : Nat} (hc : m.1 1 b 5 = nI c) (h2 : c ≤ 2) (hs : s < c) : f_X0_paperAt m b (nI s) = some (some (2 * b + s)) := by
  unfold f_X0_paperAt ev_ard
  rw [hc, if_neg (nI_pos (by omega)), if_pos (nI_lt hs (by omega)), if_pos (show nI s < 2 from nI_lt (b := 2) (by omega) (by decide)), nI_toInt (by omega), if_pos (by omega), pq_sb, nI_clamp (by omega)]
theorem cl_paperAt_f {m : ev_m} {b c : Nat} {x : Int32} (hc : m.1 1 b 5 = nI c) (h2 : c ≤ 2) (hs : ∀ s, s < c → x ≠ nI s) : f_X0_paperAt m b x = some none := by
  unfold f_X0_paperAt
  rw [hc]
  rcases pk_ix x (n := c) (by omega) with h | h | ⟨j, hj, e⟩
  · rw [if_pos h]
  · rw [if_neg (show ¬ x < nI c by rw [fa_lt]; rw [fa_le] at h; omega)]
    split <;> rfl
  · exact absurd e (hs j hj)
theorem cl_watchAt_t {m : ev_m} {b c s : Nat} (hc : m.1 1 b 6 = nI c) (h2 : c ≤ 2) (hs : s < c) : f_X0_watchAt m b (nI s) = some (some (2 * b + s)) := by
  unfold f_X0_watchAt ev_ard
  rw [hc, if_neg (nI_pos (by omega)), if_pos (nI_lt hs (by omega)), if_pos (show nI s < 2 from nI_lt (b := 2) (by omega) (by decide)), nI_toInt (by omega), if_pos (by omega), pq_sb, nI_clamp (by omega)]
theorem cl_watchAt_f {m : ev_m} {b c : Nat} {x : Int32} (hc : m.1 1 b 6 = nI c) (h2 : c ≤ 2) (hs : ∀ s, s < c → x ≠ nI s) : f_X0_watchAt m b x = some none := by
  unfold f_X0_watchAt
  rw [hc]
  rcases pk_ix x (n := c) (by omega) with h | h | ⟨j, hj, e⟩
  · rw [if_pos h]
  · rw [if_neg (show ¬ x < nI c by rw [fa_lt]; rw [fa_le] at h; omega)]
    split <;> rfl
  · exact absurd e (hs j hj)
/-- fields written and looked at by their numbers -/
theorem cl_look {m : ev_m} {i : Nat} : ∀ k, k < 11 → s_X5_look m i (nI k) = m.1 3 i k
  | 0, _ => rfl
  | 1, _ => rfl
  | 2, _ => rfl
  | 3, _ => rfl
  | 4, _ => rfl
  | 5, _ => rfl
  | 6, _ => rfl
  | 7, _ => rfl
  | 8, _ => rfl
  | 9, _ => rfl
  | 10, _ => rfl
theorem cl_write {m : ev_m} {i : Nat} {v : Int32} : ∀ k, k < 10 → s_X5_write m i (nI k) v = ev_pim m 3 i k v
  | 0, _ => rfl
  | 1, _ => rfl
  | 2, _ => rfl
  | 3, _ => rfl
  | 4, _ => rfl
  | 5, _ => rfl
  | 6, _ => rfl
  | 7, _ => rfl
  | 8, _ => rfl
  | 9, _ => rfl
theorem cl_lookH {m : ev_m} {i : Nat} : ∀ k, k < 8 ∨ k = 9 → s_X1_look m i (nI k) = m.1 4 i k
  | 0, _ => rfl
  | 1, _ => rfl
  | 2, _ => rfl
  | 3, _ => rfl
  | 4, _ => rfl
  | 5, _ => rfl
  | 6, _ => rfl
  | 7, _ => rfl
  | 8, h => by omega
  | 9, _ => rfl
theorem cl_lookH8 {m : ev_m} {i : Nat} : s_X1_look m i (nI 8) = if m.1 4 i 8 = 0 then 0 else 1 := rfl
theorem cl_writeH {m : ev_m} {i : Nat} {v : Int32} : ∀ k, k < 8 → s_X1_write m i (nI k) v = ev_pim m 4 i k v
  | 0, _ => rfl
  | 1, _ => rfl
  | 2, _ => rfl
  | 3, _ => rfl
  | 4, _ => rfl
  | 5, _ => rfl
  | 6, _ => rfl
  | 7, _ => rfl
theorem cl_writeH8 {m : ev_m} {i : Nat} {v : Int32} : s_X1_write m i (nI 8) v = ev_pim m 4 i 8 (if v = 0 then 0 else 1) := rfl
