/-! pure: peaks, first and last seconds, papers; bounds of the runs -/
theorem pa_pk_s (H : Nat → Int32) {t j : Nat} (h : t < pa_tim H j) : pa_pk H (j + 1) t = pa_pk H j t := by
  have := pa_tim_s H j
  rw [pa_pk, pk_un (by omega)]
theorem pa_pk_k (H : Nat → Int32) {t : Nat} : ∀ n j, t < pa_tim H j → pa_pk H (j + n) t = pa_pk H j t
  | 0, j, _ => rfl
  | n + 1, j, h => by
    have hm : ∀ i, pa_tim H j ≤ pa_tim H (j + i) := by
      intro i
      induction i with
      | zero => exact Nat.le_refl _
      | succ i ih => exact Nat.le_trans ih (pa_tim_s H (j + i)).1
    have := hm n
    rw [show j + (n + 1) = j + n + 1 by omega, pa_pk_s H (by omega), pa_pk_k H n j h]
theorem pa_tim_mono (H : Nat → Int32) (j : Nat) : ∀ n, pa_tim H j ≤ pa_tim H (j + n)
  | 0 => Nat.le_refl _
  | n + 1 => Nat.le_trans (pa_tim_mono H j n) (pa_tim_s H (j + n)).1
theorem cl_peak_l {m : ev_m} {q : pu_Q} {x : Int32} {kx : Int32 → Int32 → Option Int32} (hq : cc_q m q) (hd : q.2.2.2.2.1 ≤ 400) : ∀ n f j, j + n = q.2.2.2.2.1 → n < f → (∀ t, t < pa_tim q.1 j → x ≠ nI t) →
    (∀ t, t < pa_tim q.1 q.2.2.2.2.1 → x = nI t → lp_X8_peakAt_14 m 0 x f (pa_sig q.1 j) (nI (pa_tim q.1 j)) (pa_top q.1 j) (nI (j + 1)) kx = some (pa_pk q.1 q.2.2.2.2.1 t)) ∧ ((∀ t, t < pa_tim q.1 q.2.2.2.2.1 → x ≠ nI t) → lp_X8_peakAt_14 m 0 x f (pa_sig q.1 j) (nI (pa_tim q.1 j)) (pa_top q.1 j) (nI (j + 1)) kx = kx (nI (pa_tim q.1 q.2.2.2.2.1)) (pa_top q.1 q.2.2.2.2.1)) := by
  intro n
  have hT := pa_tim_le q.1 q.2.2.2.2.1
  induction n with
  | zero =>
    intro f j hj hf hx
    obtain ⟨e, rfl⟩ : ∃ e, f = e + 1 := ⟨f - 1, by omega⟩
    rw [show j = q.2.2.2.2.1 by omega] at hx ⊢
    rw [lp_X8_peakAt_14, hq.2.2.2.1, if_pos (nI_lt (by omega) (by omega))]
    exact ⟨fun t ht e => absurd e (hx t ht), fun _ => rfl⟩
  | succ n ih =>
    intro f j hj hf hx
    obtain ⟨e, rfl⟩ : ∃ e, f = e + 1 := ⟨f - 1, by omega⟩
    have hTj := pa_tim_le q.1 j
    have hTm := pa_tim_mono q.1 (j + 1) n
    rw [show j + 1 + n = q.2.2.2.2.1 by omega] at hTm
    have ht1 : pa_tim q.1 (j + 1) = if pu_sg (q.1 (j + 1)) * pa_sig q.1 j < 0 then pa_tim q.1 j + 1 else pa_tim q.1 j := rfl
    have hsg : pa_sig q.1 (j + 1) = if pu_sg (q.1 (j + 1)) = 0 then pa_sig q.1 j else pu_sg (q.1 (j + 1)) := rfl
    have htp : pa_top q.1 (j + 1) = (if (if pu_sg (q.1 (j + 1)) * pa_sig q.1 j < 0 then 0 else pa_top q.1 j) < pu_pl (q.1 (j + 1)) then pu_pl (q.1 (j + 1)) else (if pu_sg (q.1 (j + 1)) * pa_sig q.1 j < 0 then 0 else pa_top q.1 j)) := rfl
    rw [lp_X8_peakAt_14, hq.2.2.2.1, if_neg (nI_nlt (by omega) (by omega)), cl_sig1 hq (by omega) hd]
    have hj1 : ∀ tm tp : Int32, tm = nI (pa_tim q.1 (j + 1)) → tp = (if pu_sg (q.1 (j + 1)) * pa_sig q.1 j < 0 then 0 else pa_top q.1 j) → jn_X8_peakAt_48_14 m 0 x (pa_sig q.1 j) tm tp (nI (j + 1)) (fun z0 z1 z2 z3 => lp_X8_peakAt_14 m 0 x e z0 z1 z2 z3 kx) kx = lp_X8_peakAt_14 m 0 x e (pa_sig q.1 (j + 1)) (nI (pa_tim q.1 (j + 1))) (pa_top q.1 (j + 1)) (nI (j + 1 + 1)) kx := by
      intro tm tp h1 h2
      unfold jn_X8_peakAt_48_14
      rw [pq_let, pq_let, cl_sig1 hq (by omega) hd, cl_off1 hq (by omega) hd, nI_1, h1, h2, ← hsg, ← htp]
    by_cases hc : pu_sg (q.1 (j + 1)) * pa_sig q.1 j < 0
    · rw [if_pos hc] at ht1
      rw [if_pos hc]
      by_cases hxe : nI (pa_tim q.1 j) = x
      · rw [if_pos hxe]
        have hv : pa_top q.1 j = pa_pk q.1 q.2.2.2.2.1 (pa_tim q.1 j) := by
          rw [show q.2.2.2.2.1 = (j + 1) + n by omega, pa_pk_k q.1 n (j + 1) (by omega), pa_pk, pk_un (by omega), pa_pk_top]
        refine ⟨fun t ht et => ?_, fun h => absurd hxe.symm (h _ (by omega))⟩
        have : t = pa_tim q.1 j := by
          rw [et, nI_eq (by omega) (by omega)] at hxe
          exact hxe.symm
        rw [this, hv]
      · rw [if_neg hxe, hj1 _ _ (by rw [nI_1, ht1]) (by rw [if_pos hc])]
        refine ih e (j + 1) (by omega) (by omega) (fun t ht => ?_)
        by_cases et : t = pa_tim q.1 j
        · rw [et]; exact fun q => hxe q.symm
        · exact hx t (by omega)
    · rw [if_neg hc] at ht1
      rw [if_neg hc, hj1 _ _ (by rw [ht1]) (by rw [if_neg hc])]
      exact ih e (j + 1) (by omega) (by omega) (fun t ht => hx t (by omega))
theorem cl_peak_t {m : ev_m} {q : pu_Q} {t : Nat} (hq : cc_q m q) (hd : q.2.2.2.2.1 ≤ 400) (ht : t ≤ pa_tim q.1 q.2.2.2.2.1) : f_X8_peakAt m 0 (nI t) = some (pa_pk q.1 q.2.2.2.2.1 t) := by
  have e0 : s_X8_signAt m 0 0 = pu_sg (q.1 0) := cl_sig1 (k := 0) hq (by omega) hd
  have hT := pa_tim_le q.1 q.2.2.2.2.1
  have hl := cl_peak_l (x := nI t) (kx := fun x18 x19 => (if x18 = nI t then (some (x19)) else (some ((-1))))) hq hd q.2.2.2.2.1 4000 0 (by omega) (by omega) (fun t0 h => absurd h (Nat.not_lt_zero _))
  unfold f_X8_peakAt
  rw [e0, pq_let]
  by_cases h : t < pa_tim q.1 q.2.2.2.2.1
  · exact hl.1 t h rfl
  · refine (hl.2 (fun t0 h0 e => ?_)).trans ?_
    · rw [nI_eq (by omega) (by omega)] at e
      omega
    · rw [show t = pa_tim q.1 q.2.2.2.2.1 by omega, if_pos rfl, pa_pk_top]
theorem cl_peak_f {m : ev_m} {q : pu_Q} {x : Int32} (hq : cc_q m q) (hd : q.2.2.2.2.1 ≤ 400) (hx : ∀ t, t ≤ pa_tim q.1 q.2.2.2.2.1 → x ≠ nI t) : f_X8_peakAt m 0 x = some (-1) := by
  have e0 : s_X8_signAt m 0 0 = pu_sg (q.1 0) := cl_sig1 (k := 0) hq (by omega) hd
  have hl := cl_peak_l (x := x) (kx := fun x18 x19 => (if x18 = x then (some (x19)) else (some ((-1))))) hq hd q.2.2.2.2.1 4000 0 (by omega) (by omega) (fun t0 h => absurd h (Nat.not_lt_zero _))
  unfold f_X8_peakAt
  rw [e0, pq_let]
  refine (hl.2 (fun t0 h0 => hx t0 (by omega))).trans ?_
  rw [if_neg (fun e => hx _ (Nat.le_refl _) e.symm)]
theorem cl_grows {m : ev_m} {q : pu_Q} (hq : cc_q m q) (hd : q.2.2.2.2.1 ≤ 400) : f_X8_grows m 0 = some (pc_grow q) := by
  have hT := pa_tim_le q.1 q.2.2.2.2.1
  unfold f_X8_grows pc_grow
  rw [cl_cross hq hd, pq_sb, nI_l (by omega), lN_i, nI_1, pq_let]
  by_cases h2 : pa_tim q.1 q.2.2.2.2.1 < 2
  · rw [if_pos (show nI (pa_tim q.1 q.2.2.2.2.1 + 1) < 3 from nI_lt (b := 3) (by omega) (by decide)), decide_eq_false (by omega)]
    rfl
  · rw [if_neg (show ¬ nI (pa_tim q.1 q.2.2.2.2.1 + 1) < 3 from nI_nlt (b := 3) (by omega) (by omega)), show (2 : Int32) = nI 2 from rfl, show (3 : Int32) = nI 3 from rfl, pk_sub (by omega), pk_sub (by omega), cl_peak_t hq hd (by omega), pq_sb, cl_peak_t hq hd (by omega), pq_sb, decide_eq_true (by omega), show pa_tim q.1 q.2.2.2.2.1 + 1 - 2 = pa_tim q.1 q.2.2.2.2.1 - 1 by omega, show pa_tim q.1 q.2.2.2.2.1 + 1 - 3 = pa_tim q.1 q.2.2.2.2.1 - 2 by omega]
    by_cases h3 : pa_pk q.1 q.2.2.2.2.1 (pa_tim q.1 q.2.2.2.2.1 - 2) < pa_pk q.1 q.2.2.2.2.1 (pa_tim q.1 q.2.2.2.2.1 - 1)
    · rw [if_pos h3, decide_eq_true h3]
      rfl
    · rw [if_neg h3, decide_eq_false h3]
      rfl
/-- the first and the last second of which P -/
def pf_first (P : Nat → Bool) : Nat → Int32
  | 0 => -1
  | n + 1 => if P (n + 1) = true then (if pf_first P n = -1 then nI (n + 1) else pf_first P n) else pf_first P n
def pf_last (P : Nat → Bool) : Nat → Int32
  | 0 => 0
  | n + 1 => if P (n + 1) = true then nI (n + 1) else pf_last P n
theorem nI_m1 {n : Nat} (h : n < 2 ^ 31) : nI n ≠ -1 := by
  intro e
  have := congrArg Int32.toInt e
  rw [nI_toInt h, show ((-1 : Int32)).toInt = -1 from rfl] at this
  omega
theorem pf_first_s {P : Nat → Bool} {k : Nat} : ∀ n, pf_first P k ≠ -1 → pf_first P (k + n) = pf_first P k
  | 0, _ => rfl
  | n + 1, h => by
    have := pf_first_s n h
    rw [show k + (n + 1) = k + n + 1 by omega, pf_first, this, if_neg h]
    split <;> rfl
theorem cl_early_l {m : ev_m} {q : pu_Q} {w : Int32} (hq : cc_q m q) (hd : q.2.2.2.2.1 ≤ 400) : ∀ n f k, k + n = q.2.2.2.2.1 → n < f → pf_first (fun t => decide (w < pu_pl (q.1 t))) k = -1 → lp_X8_earliestBeyond_2 m 0 w f (nI (k + 1)) (fun _ => some (-1)) = some (pf_first (fun t => decide (w < pu_pl (q.1 t))) q.2.2.2.2.1) := by
  intro n
  induction n with
  | zero =>
    intro f k hk hf h1
    obtain ⟨e, rfl⟩ : ∃ e, f = e + 1 := ⟨f - 1, by omega⟩
    rw [lp_X8_earliestBeyond_2, hq.2.2.2.1, if_pos (nI_lt (by omega) (by omega)), show q.2.2.2.2.1 = k by omega, h1]
  | succ n ih =>
    intro f k hk hf h1
    obtain ⟨e, rfl⟩ : ∃ e, f = e + 1 := ⟨f - 1, by omega⟩
    rw [lp_X8_earliestBeyond_2, hq.2.2.2.1, if_neg (nI_nlt (by omega) (by omega)), cl_off1 hq (by omega) hd]
    by_cases hw : w < pu_pl (q.1 (k + 1))
    · have e1 : pf_first (fun t => decide (w < pu_pl (q.1 t))) (k + 1) = nI (k + 1) := by rw [pf_first, if_pos (decide_eq_true hw), if_pos h1]
      rw [if_pos hw, show q.2.2.2.2.1 = (k + 1) + n by omega, pf_first_s n (by rw [e1]; exact nI_m1 (by omega)), e1]
    · rw [if_neg hw, nI_1]
      exact ih e (k + 1) (by omega) (by omega) (by rw [pf_first, if_neg (by rw [decide_eq_false hw]; decide)]; exact h1)
theorem cl_early {m : ev_m} {q : pu_Q} {w : Int32} (hq : cc_q m q) (hd : q.2.2.2.2.1 ≤ 400) : f_X8_earliestBeyond m 0 w = some (pf_first (fun t => decide (w < pu_pl (q.1 t))) q.2.2.2.2.1) := by
  unfold f_X8_earliestBeyond
  exact cl_early_l hq hd q.2.2.2.2.1 4000 0 (by omega) (by omega) rfl
theorem cl_late_l {m : ev_m} {q : pu_Q} {w : Int32} (hq : cc_q m q) (hd : q.2.2.2.2.1 ≤ 400) : ∀ n f, n ≤ q.2.2.2.2.1 → n < f → lp_X8_latestBeyond_5 m 0 w f (nI n) (fun _ => some 0) = some (pf_last (fun t => decide (w < pu_pl (q.1 t))) n) := by
  intro n
  induction n with
  | zero =>
    intro f _ hf
    obtain ⟨e, rfl⟩ : ∃ e, f = e + 1 := ⟨f - 1, by omega⟩
    rw [lp_X8_latestBeyond_5, if_pos (by decide)]
    rfl
  | succ n ih =>
    intro f hn hf
    obtain ⟨e, rfl⟩ : ∃ e, f = e + 1 := ⟨f - 1, by omega⟩
    rw [lp_X8_latestBeyond_5, if_neg (show ¬ nI (n + 1) < 1 from nI_nlt (b := 1) (by omega) (by omega)), cl_off1 hq hn hd, pf_last, pk_m1]
    by_cases hw : w < pu_pl (q.1 (n + 1))
    · rw [if_pos hw, if_pos (decide_eq_true hw)]
    · rw [if_neg hw, if_neg (by rw [decide_eq_false hw]; decide)]
      exact ih e (by omega) (by omega)
theorem cl_late {m : ev_m} {q : pu_Q} {w : Int32} (hq : cc_q m q) (hd : q.2.2.2.2.1 ≤ 400) : f_X8_latestBeyond m 0 w = some (pf_last (fun t => decide (w < pu_pl (q.1 t))) q.2.2.2.2.1) := by
  unfold f_X8_latestBeyond
  rw [hq.2.2.2.1, pq_let]
  exact cl_late_l hq hd q.2.2.2.2.1 4000 (by omega) (by omega)
/-- the dearest second -/
def pd_best (S : Nat → Int32) (q : pu_Q) : Nat → Nat
  | 0 => 1
  | n + 1 => if pc_at S q (pd_best S q n) < pc_at S q (n + 1) then n + 1 else pd_best S q n
theorem pd_best_b (S : Nat → Int32) (q : pu_Q) : ∀ n, 1 ≤ pd_best S q n ∧ pd_best S q n ≤ n + 1 ∧ (1 ≤ n → pd_best S q n ≤ n)
  | 0 => by unfold pd_best; omega
  | n + 1 => by
    have := pd_best_b S q n
    rw [pd_best]
    split
    · omega
    · rcases Nat.eq_zero_or_pos n with e | e
      · subst e
        rw [pd_best]
        omega
      · omega
theorem cl_dear {m : ev_m} {i : Nat} {S : Nat → Int32} {q : pu_Q} (hq : cc_q m q) (hH : pb_H q) (hR : pb_R q) (hS : pu_okS S) (h5 : m.1 3 i 5 = S 5) (hs : m.2.2 8 0 0 = some i) (hd : q.2.2.2.2.1 ≤ 400) (h1 : 1 ≤ q.2.2.2.2.1) : f_X8_dearest m 0 = some (nI (pd_best S q q.2.2.2.2.1)) := by
  have hb := fun n => pd_best_b S q n
  have := cl_loop (L := fun f y x => lp_X8_dearest_4 m 0 f y x (fun y6 => some y6)) (g := fun k => if k = 0 then -1 else nI (pd_best S q k)) (d := q.2.2.2.2.1) (kx := fun y => some y) (by omega) ?_ ?_ q.2.2.2.2.1 4000 0 (by omega) (by omega)
  · rw [if_pos rfl, if_neg (by omega)] at this
    exact this
  · intro f y
    rw [lp_X8_dearest_4, hq.2.2.2.1, if_pos (nI_lt (by omega) (by omega))]
  · intro f k hk
    rw [lp_X8_dearest_4, hq.2.2.2.1, if_neg (nI_nlt (by omega) (by omega)), if_neg (show ¬ k + 1 = 0 by omega)]
    by_cases e : k = 0
    · subst e
      rw [if_pos rfl, if_pos rfl]
      unfold jn_X8_dearest_31_4 jn_X8_dearest_33_4
      have e1 : pd_best S q 1 = 1 := by rw [pd_best, pd_best]; split <;> rfl
      rw [e1]
    · have hk1 := hb k
      rw [if_neg e, if_neg (nI_m1 (by omega)), cl_costAt hq hH hR hS h5 hs hk hd, pq_sb]
      obtain ⟨b, eb⟩ : ∃ b, pd_best S q k = b + 1 := ⟨pd_best S q k - 1, by omega⟩
      rw [pd_best, eb, cl_costAt hq hH hR hS h5 hs (by omega) hd, pq_sb, pq_let]
      split <;> rfl
theorem cl_half_l {m : ev_m} {i : Nat} {S : Nat → Int32} {q : pu_Q} {all : Int64} (hq : cc_q m q) (hH : pb_H q) (hR : pb_R q) (hS : pu_okS S) (h5 : m.1 3 i 5 = S 5) (hs : m.2.2 8 0 0 = some i) (hd : q.2.2.2.2.1 ≤ 400) : ∀ n f k, k + n = q.2.2.2.2.1 → n < f → pf_first (fun t => !decide (2 * pc_cu S q t < all)) k = -1 → lp_X8_halfway_10 m 0 all f (pc_cu S q k) (nI (k + 1)) (fun _ => some (-1)) = some (pf_first (fun t => !decide (2 * pc_cu S q t < all)) q.2.2.2.2.1) := by
  intro n
  induction n with
  | zero =>
    intro f k hk hf h1
    obtain ⟨e, rfl⟩ : ∃ e, f = e + 1 := ⟨f - 1, by omega⟩
    rw [lp_X8_halfway_10, hq.2.2.2.1, if_pos (nI_lt (by omega) (by omega)), show q.2.2.2.2.1 = k by omega, h1]
  | succ n ih =>
    intro f k hk hf h1
    obtain ⟨e, rfl⟩ : ∃ e, f = e + 1 := ⟨f - 1, by omega⟩
    rw [lp_X8_halfway_10, hq.2.2.2.1, if_neg (nI_nlt (by omega) (by omega)), cl_costAt hq hH hR hS h5 hs (by omega) hd, pq_sb, pq_let, ← pc_cu_s hR (by omega) hd]
    by_cases hw : 2 * pc_cu S q (k + 1) < all
    · rw [if_pos hw, nI_1]
      exact ih e (k + 1) (by omega) (by omega) (by rw [pf_first, if_neg (by rw [decide_eq_true hw]; decide)]; exact h1)
    · have e1 : pf_first (fun t => !decide (2 * pc_cu S q t < all)) (k + 1) = nI (k + 1) := by rw [pf_first, if_pos (by rw [decide_eq_false hw]; rfl), if_pos h1]
      rw [if_neg hw, show q.2.2.2.2.1 = (k + 1) + n by omega, pf_first_s n (by rw [e1]; exact nI_m1 (by omega)), e1]
theorem cl_half {m : ev_m} {i : Nat} {S : Nat → Int32} {q : pu_Q} (hq : cc_q m q) (hH : pb_H q) (hR : pb_R q) (hS : pu_okS S) (h5 : m.1 3 i 5 = S 5) (hs : m.2.2 8 0 0 = some i) (hd : q.2.2.2.2.1 ≤ 400) : f_X8_halfway m 0 = some (pf_first (fun t => !decide (2 * pc_cu S q t < pc_cost S q)) q.2.2.2.2.1) := by
  have h0 : pc_cu S q 0 = 0 := by
    show (0 : Int64) + (S 5).toInt64 * (0 : Int32).toInt64 = 0
    rw [show (0 : Int32).toInt64 = 0 from rfl, Int64.mul_zero]
    rfl
  unfold f_X8_halfway
  rw [cl_cost hq hH hR hS h5 hs hd, pq_sb]
  have := cl_half_l (all := pc_cost S q) hq hH hR hS h5 hs hd q.2.2.2.2.1 4000 0 (by omega) (by omega) rfl
  rw [h0] at this
  exact this
/-- the bounds of the runs -/
theorem pb_R_ps {S : Nat → Int32} {q : pu_Q} {want saw seed : Int32} (hS : pu_okS S) (h : pb_R q) : pb_R (pu_ps S q want saw seed) := by
  intro k hk
  have hk : k < q.2.2.2.2.1 + 1 := hk
  show 0 ≤ (pa_tu (upd q.2.2.1 (q.2.2.2.2.1 + 1) (pu_nr S q want)) k).toInt ∧ (pa_tu (upd q.2.2.1 (q.2.2.2.2.1 + 1) (pu_nr S q want)) k).toInt ≤ 35
  by_cases e : k = q.2.2.2.2.1
  · have e1 : pa_tu (upd q.2.2.1 (q.2.2.2.2.1 + 1) (pu_nr S q want)) k = pu_pl (pu_wi (want - q.2.2.1 q.2.2.2.2.1) (S 4)) := by
      unfold pa_tu
      rw [e, pk_us, pk_un (by omega)]
      unfold pu_nr
      rw [Int32.add_comm, Int32.add_sub_cancel]
    have hb := pu_wi_b (x := want - q.2.2.1 q.2.2.2.2.1) hS.2.2.1.1
    have h4 := hS.2.2.1.2
    rw [e1]
    exact pu_pl_b (n := 35) (by omega) (by omega) (by decide)
  · have : pa_tu (upd q.2.2.1 (q.2.2.2.2.1 + 1) (pu_nr S q want)) k = pa_tu q.2.2.1 k := by
      unfold pa_tu
      rw [pk_un (by omega), pk_un (by omega)]
    rw [this]
    exact h k (by omega)
theorem pb_R_go {S D : Nat → Int32} (hS : pu_okS S) : ∀ n s, pb_R s.1 → pb_R (pu_go S D n s).1
  | 0, _, h => h
  | n + 1, s, h => pb_R_go hS n (pu_1 S D s) (pb_R_ps hS h)
theorem pb_R_q0 (S : Nat → Int32) (seed : Int32) : pb_R (pu_q0 S seed) := fun k hk => absurd hk (Nat.not_lt_zero _)
theorem pb_R_run {S D : Nat → Int32} (hS : pu_okS S) (seed : Int32) (n : Nat) : pb_R (pu_run S D seed n) := pb_R_go hS n _ (pb_R_q0 S seed)
theorem pb_R_free {S : Nat → Int32} (hS : pu_okS S) : ∀ n q, pb_R q → pb_R (pu_free S n q)
  | 0, _, h => h
  | n + 1, _, h => pb_R_free hS n _ (pb_R_ps hS h)
theorem pb_R_run0 {S : Nat → Int32} (hS : pu_okS S) (seed : Int32) (n : Nat) : pb_R (pu_run0 S seed n) := pb_R_free hS n _ (pb_R_q0 S seed)
