/-! pure: hands in turns -/
theorem lp_ixS {β σ : Type} {N : Nat} {L : Nat → σ → Int32 → ev_m → Option β} {kx : σ → ev_m → Option β} {T : Nat → ev_m → Prop} {g : Nat → σ}
    (h0 : ∀ f m, T N m → L (f + 1) (g N) (nI N) m = kx (g N) m) (hs : ∀ f k m, k < N → T k m → ∃ m', L (f + 1) (g k) (nI k) m = L f (g (k + 1)) (nI (k + 1)) m' ∧ T (k + 1) m') : ∀ n f k m, k + n = N → n < f → T k m → ∃ m', L f (g k) (nI k) m = kx (g N) m' ∧ T N m' := by
  intro n
  induction n with
  | zero =>
    intro f k m hk hf hT
    obtain ⟨e, rfl⟩ : ∃ e, f = e + 1 := ⟨f - 1, by omega⟩
    have ek : k = N := by omega
    subst ek
    exact ⟨m, h0 e m hT, hT⟩
  | succ n ih =>
    intro f k m hk hf hT
    obtain ⟨e, rfl⟩ : ∃ e, f = e + 1 := ⟨f - 1, by omega⟩
    obtain ⟨m1, e1, t1⟩ := hs e k m (by omega) hT
    rw [e1]
    exact ih e (k + 1) m1 (by omega) (by omega) t1
/-- the first of the least of those that p takes -/
def po_ (p : Nat → Bool) (c : Nat → Int64) : Nat → Option Nat
  | 0 => none
  | k + 1 => if p k = true then (match po_ p c k with
    | none => some k
    | some j => if c k < c j then some k else some j) else po_ p c k
theorem po_s (p : Nat → Bool) (c : Nat → Int64) (k : Nat) : po_ p c (k + 1) = if p k = true then (match po_ p c k with
    | none => some k
    | some j => if c k < c j then some k else some j) else po_ p c k := rfl
theorem po_lt {p : Nat → Bool} {c : Nat → Int64} : ∀ {k j}, po_ p c k = some j → j < k
  | 0, j, h => by cases h
  | k + 1, j, h => by
    rw [po_s] at h
    split at h
    · split at h
      · cases h
        omega
      · rename_i i hi
        have := po_lt hi
        split at h
        · cases h
          omega
        · cases h
          omega
    · have := po_lt h
      omega
theorem po_yes {p : Nat → Bool} {c : Nat → Int64} {i : Nat} (hi : p i = true) : ∀ {k}, i < k → po_ p c k ≠ none
  | 0, h => absurd h (Nat.not_lt_zero _)
  | k + 1, h => by
    rw [po_s]
    by_cases e : i = k
    · subst e
      rw [if_pos hi]
      split
      · intro q; cases q
      · split
        · intro q; cases q
        · intro q; cases q
    · have ih := po_yes (c := c) hi (show i < k by omega)
      split
      · split
        · intro q; cases q
        · split
          · intro q; cases q
          · intro q; cases q
      · exact ih
theorem po_skip {p : Nat → Bool} {c : Nat → Int64} {a : Nat} : ∀ n, (∀ i, a ≤ i → i < a + n → p i = false) → po_ p c (a + n) = po_ p c a
  | 0, _ => rfl
  | n + 1, h => by
    rw [show a + (n + 1) = a + n + 1 from rfl, po_s, if_neg (by rw [h (a + n) (by omega) (by omega)]; decide)]
    exact po_skip n (fun i h1 h2 => h i h1 (by omega))
theorem po_mul {w : Nat} (hw : 0 < w) {q : Nat → Bool} {d : Nat → Int64} : ∀ k, po_ (fun c => decide (c % w = 0) && q (c / w)) (fun c => d (c / w)) (w * k) = (po_ q d k).map (fun j => w * j)
  | 0 => rfl
  | k + 1 => by
    have ih := po_mul hw (q := q) (d := d) k
    have e1 : w * (k + 1) = w * k + 1 + (w - 1) := by rw [Nat.mul_succ]; omega
    rw [e1, po_skip (w - 1) (by
      intro i h1 h2
      have : ¬ i % w = 0 := by
        intro e
        have h3 := Nat.div_add_mod i w
        have h4 : k < i / w := by
          apply Nat.lt_of_mul_lt_mul_left (a := w)
          omega
        have h5 : w * (k + 1) ≤ w * (i / w) := Nat.mul_le_mul_left w h4
        rw [Nat.mul_succ] at h5
        omega
      simp [this]), po_s, ih, po_s]
    have e2 : w * k % w = 0 := Nat.mul_mod_right w k
    have e3 : w * k / w = k := Nat.mul_div_cancel_left k hw
    simp only [e2, e3, decide_true, Bool.true_and]
    by_cases hq : q k = true
    · rw [if_pos hq, if_pos hq]
      cases hp : po_ q d k with
      | none => rfl
      | some j =>
        simp only [Option.map_some, Nat.mul_div_cancel_left j hw]
        split <;> rfl
    · rw [if_neg hq, if_neg hq]
/-- hands told by a row: two bits each -/
def hd_ (row men k : Nat) : Nat := row / 4 ^ (men - 1 - k) % 4
def ho_ (row men : Nat) : Nat → Nat
  | 0 => 0
  | k + 1 => ho_ row men k ||| 2 ^ hd_ row men k
theorem hd_lt (row men k : Nat) : hd_ row men k < 4 := Nat.mod_lt _ (by decide)
theorem ho_le {row men j : Nat} : ∀ {k}, j < k → 2 ^ hd_ row men j ≤ ho_ row men k
  | 0, h => absurd h (Nat.not_lt_zero _)
  | k + 1, h => by
    rw [ho_]
    by_cases e : j = k
    · rw [e]
      exact Nat.right_le_or
    · exact Nat.le_trans (ho_le (show j < k by omega)) Nat.left_le_or
theorem sh1 {h : Nat} (hh : h < 4) : (1 : Int32) <<< (nI h &&& 31) = nI (2 ^ h) := by
  rcases (show h = 0 ∨ h = 1 ∨ h = 2 ∨ h = 3 by omega) with rfl | rfl | rfl | rfl <;> decide
theorem sh1b {h : Nat} (hh : h ≤ 4) : (1 : Int32) <<< (nI h &&& 31) = nI (2 ^ h) := by
  rcases (show h = 0 ∨ h = 1 ∨ h = 2 ∨ h = 3 ∨ h = 4 by omega) with rfl | rfl | rfl | rfl | rfl <;> decide
theorem sh2 {men : Nat} (h : men ≤ 4) : (1 : Int32) <<< ((2 * nI men) &&& 31) = nI (4 ^ men) := by
  rcases (show men = 0 ∨ men = 1 ∨ men = 2 ∨ men = 3 ∨ men = 4 by omega) with rfl | rfl | rfl | rfl | rfl <;> decide
theorem cl_handIn {m : ev_m} {row men k : Nat} (hr : row < 256) (hm : men ≤ 4) (hk : k < men) : s_X9_handIn m (nI row) (nI men) (nI k) = nI (hd_ row men k) := by
  unfold s_X9_handIn hd_
  rw [show (1 : Int32) = nI 1 from rfl, pk_sub (by omega), pk_sub (by omega), show (2 : Int32) = nI 2 from rfl, pk_mul]
  generalize hj : men - 1 - k = j
  have hj4 : j < 4 := by omega
  rcases (show j = 0 ∨ j = 1 ∨ j = 2 ∨ j = 3 by omega) with rfl | rfl | rfl | rfl
  · rw [pk_ushrN (by omega) _ 0 (by decide), pk_andN (by omega) 2 (by decide)]
  · rw [pk_ushrN (by omega) _ 2 (by decide), pk_andN (by omega) 2 (by decide)]
  · rw [pk_ushrN (by omega) _ 4 (by decide), pk_andN (by omega) 2 (by decide)]
  · rw [pk_ushrN (by omega) _ 6 (by decide), pk_andN (by omega) 2 (by decide)]
theorem cl_handsOf_l {m : ev_m} {row men : Nat} {kx : Int32 → Option Int32} (hr : row < 256) (hm : men ≤ 4) : ∀ n f k, k + n = men → n < f → lp_X9_handsOf_4 m (nI row) (nI men) f (nI (ho_ row men k)) (nI k) kx = kx (nI (ho_ row men men)) := by
  intro n
  induction n with
  | zero =>
    intro f k hk hf
    obtain ⟨g, rfl⟩ : ∃ g, f = g + 1 := ⟨f - 1, by omega⟩
    rw [lp_X9_handsOf_4, if_neg (nI_nlt (by omega) (by omega)), show k = men by omega]
  | succ n ih =>
    intro f k hk hf
    obtain ⟨g, rfl⟩ : ∃ g, f = g + 1 := ⟨f - 1, by omega⟩
    rw [lp_X9_handsOf_4, if_pos (nI_lt (by omega) (by omega)), cl_handIn hr hm (by omega), sh1 (hd_lt _ _ _), fa_or, pq_let, nI_1]
    exact ih g (k + 1) (by omega) (by omega)
theorem cl_handsOf {m : ev_m} {row men : Nat} (hr : row < 256) (hm : men ≤ 4) : f_X9_handsOf m (nI row) (nI men) = some (nI (ho_ row men men)) := cl_handsOf_l (kx := fun x => some x) hr hm men 4000 0 (by omega) (by omega)
/-- turns -/
def pn_t (n men k : Nat) : Nat := if k + 1 = men then n - n / men * k else n / men
theorem pn_t_s {n men : Nat} : ∀ k, k < men → fb_sm (pn_t n men) k = n / men * k
  | 0, _ => rfl
  | k + 1, h => by
    rw [fb_sm_succ, pn_t_s k (by omega)]
    unfold pn_t
    rw [if_neg (by omega), Nat.mul_succ]
theorem pn_t_le {n men k : Nat} (hk : k < men) : fb_sm (pn_t n men) k + pn_t n men k ≤ n := by
  rw [pn_t_s k hk]
  have h1 : n / men * (k + 1) ≤ n := Nat.le_trans (Nat.mul_le_mul_left _ hk) (Nat.div_mul_le_self n men)
  rw [Nat.mul_succ] at h1
  unfold pn_t
  generalize n / men = e at h1 ⊢
  split <;> omega
def pu_or (m : ev_m) (S : Nat → Int32) (n men row : Nat) : Nat → pu_Q := fun k => pu_tn S (fun k => pv_D m (hd_ row men k)) (pn_t n men) k (pu_q0 S 0)
theorem pu_or_d (m : ev_m) (S : Nat → Int32) (n men row k : Nat) : (pu_or m S n men row k).2.2.2.2.1 = fb_sm (pn_t n men) k := by
  unfold pu_or
  rw [pu_tn_d]
  show 0 + _ = _
  omega
theorem pu_or_le (m : ev_m) (S : Nat → Int32) {n men : Nat} (row : Nat) {k : Nat} (hk : k < men) : (pu_or m S n men row k).2.2.2.2.1 + pn_t n men k ≤ n := by
  rw [pu_or_d]
  exact pn_t_le hk
theorem pu_or_men (m : ev_m) (S : Nat → Int32) {n men : Nat} (row : Nat) (h : 1 ≤ men) : (pu_or m S n men row men).2.2.2.2.1 ≤ n := by
  obtain ⟨k, rfl⟩ : ∃ k, men = k + 1 := ⟨men - 1, by omega⟩
  have := pu_or_le m S (n := n) row (show k < k + 1 by omega)
  rw [pu_or_d] at this ⊢
  rw [fb_sm_succ]
  exact this
def pc_or (m : ev_m) (S : Nat → Int32) (n men row : Nat) : Int64 := pc_cost S (pu_or m S n men row men)
theorem pc_or_b (m : ev_m) {S : Nat → Int32} (hS : pu_okS S) {n men : Nat} (row : Nat) (h : 1 ≤ men) (hn : n ≤ 200) : pc_or m S n men row < 9223372036854775807 := by
  have := pu_or_men m S (n := n) row h
  exact pL_max (pc_cost_b (pb_H_tn (pb_q0 hS) _) (pb_R_tn hS (pb_R_q0 S 0) _) hS (by
    show (pu_or m S n men row men).2.2.2.2.1 ≤ 400
    omega)).2
theorem cl_turns {m0 m : ev_m} {c0 c1 c2 c3 s n men row : Nat} (hI : iv_B m0 0 c0 c1 c2 c3) (hs : s < c0) (hF : pq_Fr PI_ m0 m) (hn : n ≤ 200) (h1 : 1 ≤ men) (hm : men ≤ 4) (hr : row < 256) (hin : ∀ k, k < men → hd_ row men k < c1) : ∃ m', f_X9_costInTurns m 0 (some s) (nI row) (nI men) (nI n) = some (pc_or m0 (pv_S m0 s) n men row, m') ∧ pq_Fr PI_ m0 m' := by
  have hPI : ∀ r i, PI_ r i = true → cc_P r i = true := fun r i h => PC_P r i (PI_C r i h)
  have hS := iv_okS hI hs
  have hI1 := hI.fr hF (by decide)
  have hcS : cc_S m s (pv_S m0 s) := by rw [← pv_S.fr hF (PI_k (by decide))]; exact iv_cS hI1 hs
  obtain ⟨S, eS⟩ : ∃ S, S = pv_S m0 s := ⟨_, rfl⟩
  rw [← eS] at hS hcS ⊢
  obtain ⟨b1, b2, b3, b4⟩ := cl_begin (seed := 0) hcS
  obtain ⟨m2, e2, q2, l2, F2⟩ := lp_ixE (L := fun f i m => lp_X9_costInTurns_27 0 (nI row) (nI men) (nI n) (nI (n / men)) f i m (fun m16 => (f_X8_cost m16 0).bind (fun x17 => (some ((x17, m16)))))) (kx := fun m16 => (f_X8_cost m16 0).bind (fun x17 => (some ((x17, m16))))) (T := fun k m' => cc_q m' (pu_or m0 S n men row k) ∧ m'.2.2 8 0 0 = some s ∧ pq_Fr cc_P m m') (N := men)
    (by
      intro f m' ⟨t1, t2, t3⟩
      rw [lp_X9_costInTurns_27, if_neg (nI_nlt (Nat.le_refl _) (by omega))])
    (by
      intro f k m' hk ⟨t1, t2, t3⟩
      refine Or.inl ?_
      have hF' := hF.trans (t3.sub hPI)
      have hI' := hI.fr hF' (by decide)
      have hcD : cc_D m' (hd_ row men k) (pv_D m0 (hd_ row men k)) := by rw [← pv_D.fr hF' (PI_k (by decide))]; exact iv_cD hI' (hin k hk)
      have hle := pu_or_le m0 S (n := n) row hk
      obtain ⟨m'', e, q, -, l, -, F⟩ := cl_steer (n := pn_t n men k) (iv_okD hI (hin k hk)) hS (by omega) (by omega) hcD (hcS.fr t3 rfl rfl) t2 t1 (pb_H_tn (pb_q0 hS) k)
      rw [show min (pn_t n men k) (400 - (pu_or m0 S n men row k).2.2.2.2.1) = pn_t n men k by omega] at q
      refine ⟨m'', ?_, q, l, t3.trans F⟩
      have ex : (if nI k = nI men - 1 then nI n - nI (n / men) * nI k else nI (n / men) : Int32) = nI (pn_t n men k) := by
        have hdm : n / men * k ≤ n := Nat.le_trans (Nat.mul_le_mul_left _ (Nat.le_of_lt hk)) (Nat.div_mul_le_self n men)
        rw [show (1 : Int32) = nI 1 from rfl, pk_sub (by omega), pk_mul, pk_sub hdm]
        unfold pn_t
        by_cases hh : k + 1 = men
        · rw [if_pos hh, show k = men - 1 by omega, if_pos rfl]
        · rw [if_neg hh, if_neg (fun e => hh (by
            have := (nI_eq (by omega) (by omega)).mp e
            omega))]
      rw [lp_X9_costInTurns_27, if_pos (nI_lt hk (by omega)), ex, pq_let, cl_handIn hr hm hk, ath_t hI' (hin k hk), pq_sb, e, pq_sb, nI_1])
    men 4000 0 (s_X8_begin m 0 (some s) 0) (by omega) (by omega) ⟨b2, b1, b4⟩
  have hle := pu_or_men m0 S (n := n) row h1
  refine ⟨m2, ?_, hF.trans (F2.sub hPI)⟩
  unfold f_X9_costInTurns
  rw [if_neg (show ¬ nI men < 1 from nI_nlt (b := 1) h1 (by omega)), ev_dvN (by omega) (by omega) (by omega), pq_sb, pq_let]
  refine Eq.trans e2 ?_
  rw [cl_cost q2 (pb_H_tn (pb_q0 hS) _) (pb_R_tn hS (pb_R_q0 S 0) _) hS ((hcS.fr F2 rfl rfl).1 5 (by decide)) l2 (by omega), pq_sb]
  rfl
