/-! pure: what the class tells of a run -/
def pb_R (q : pu_Q) : Prop := ∀ k, k < q.2.2.2.2.1 → 0 ≤ (pa_tu q.2.2.1 k).toInt ∧ (pa_tu q.2.2.1 k).toInt ≤ 35
theorem pu_pl_c (v : Int32) : (if 0 ≤ v then v else 0 - v) = pu_pl v := by
  unfold pu_pl
  by_cases h : v < 0
  · rw [if_pos h, if_neg (by rw [fa_le]; rw [fa_lt] at h; omega), Int32.zero_sub]
  · rw [if_neg h, if_pos (by rw [fa_le]; rw [fa_lt] at h; omega)]
theorem pu_sg_c (m : ev_m) (v : Int32) : s_J6_compare_7cf53 m v 0 = pu_sg v := by
  unfold s_J6_compare_7cf53 pu_sg
  simp only [i0_lt, lt_i0, eq_i0]
  by_cases h : v.toInt < 0
  · rw [if_pos h, if_neg (by omega), if_pos h]
  · rw [if_neg h]
    by_cases h2 : v.toInt = 0
    · rw [if_pos h2, if_neg (by omega), if_neg h]
    · rw [if_neg h2, if_pos (by omega)]
theorem cl_off1 {m : ev_m} {q : pu_Q} {k : Nat} (hq : cc_q m q) (hk : k ≤ q.2.2.2.2.1) (hd : q.2.2.2.2.1 ≤ 400) : s_X8_offAt m 0 (nI k) = pu_pl (q.1 k) := by
  unfold s_X8_offAt
  rw [pq_at (by omega) (by decide), hq.1 k hk, pu_pl_c]
theorem cl_sig1 {m : ev_m} {q : pu_Q} {k : Nat} (hq : cc_q m q) (hk : k ≤ q.2.2.2.2.1) (hd : q.2.2.2.2.1 ≤ 400) : s_X8_signAt m 0 (nI k) = pu_sg (q.1 k) := by
  unfold s_X8_signAt
  rw [pq_at (by omega) (by decide), hq.1 k hk, pu_sg_c]
theorem cl_tu1 {m : ev_m} {q : pu_Q} {k : Nat} (hq : cc_q m q) (hk : k + 1 ≤ q.2.2.2.2.1) (hd : q.2.2.2.2.1 ≤ 400) : s_X8_turnedAt m 0 (nI (k + 1)) = pa_tu q.2.2.1 k := by
  unfold s_X8_turnedAt pa_tu
  rw [nI_pred, pq_at (by omega) (by decide), pq_at (by omega) (by decide), hq.2.2.1 _ hk, hq.2.2.1 k (by omega), pu_pl_c]
/-- a loop over the seconds -/
theorem cl_loop {α β : Type} {d : Nat} {L : Nat → α → Int32 → Option β} {g : Nat → α} {kx : α → Option β} (hd : d < 2 ^ 30)
    (h0 : ∀ f y, L (f + 1) y (nI (d + 1)) = kx y) (hs : ∀ f k, k < d → L (f + 1) (g k) (nI (k + 1)) = L f (g (k + 1)) (nI (k + 1) + 1)) : ∀ n f k, k + n = d → n < f → L f (g k) (nI (k + 1)) = kx (g d) := by
  intro n
  induction n with
  | zero =>
    intro f k hk hf
    obtain ⟨e, rfl⟩ : ∃ e, f = e + 1 := ⟨f - 1, by omega⟩
    rw [show k = d by omega]
    exact h0 e _
  | succ n ih =>
    intro f k hk hf
    obtain ⟨e, rfl⟩ : ∃ e, f = e + 1 := ⟨f - 1, by omega⟩
    rw [hs e k (by omega), nI_1]
    exact ih e (k + 1) (by omega) (by omega)
theorem cl_off {m : ev_m} {q : pu_Q} (hq : cc_q m q) (hd : q.2.2.2.2.1 ≤ 400) : f_X8_off m 0 = some (pa_off q.1 q.2.2.2.2.1) := by
  refine cl_loop (L := fun f y x => lp_X8_off_4 m 0 f y x (fun y6 => some y6)) (g := pa_off q.1) (d := q.2.2.2.2.1) (by omega) ?_ ?_ q.2.2.2.2.1 4000 0 (by omega) (by omega)
  · intro f y
    try dsimp only
    rw [lp_X8_off_4, hq.2.2.2.1, if_pos (nI_lt (by omega) (by omega))]
  · intro f k hk
    try dsimp only
    rw [lp_X8_off_4, hq.2.2.2.1, if_neg (nI_nlt (by omega) (by omega)), cl_off1 hq (by omega) hd]
    rfl
theorem cl_drift {m : ev_m} {q : pu_Q} (hq : cc_q m q) (hd : q.2.2.2.2.1 ≤ 400) : f_X8_drift m 0 = some (pa_dri q.1 q.2.2.2.2.1) := by
  refine cl_loop (L := fun f y x => lp_X8_drift_4 m 0 f y x (fun y6 => some y6)) (g := pa_dri q.1) (d := q.2.2.2.2.1) (by omega) ?_ ?_ q.2.2.2.2.1 4000 0 (by omega) (by omega)
  · intro f y
    try dsimp only
    rw [lp_X8_drift_4, hq.2.2.2.1, if_pos (nI_lt (by omega) (by omega))]
  · intro f k hk
    try dsimp only
    rw [lp_X8_drift_4, hq.2.2.2.1, if_neg (nI_nlt (by omega) (by omega)), pq_at (by omega) (by decide), hq.1 _ (by omega)]
    rfl
theorem cl_widest {m : ev_m} {q : pu_Q} (hq : cc_q m q) (hd : q.2.2.2.2.1 ≤ 400) : f_X8_widest m 0 = some (pa_wid q.1 q.2.2.2.2.1).toInt64 := by
  refine cl_loop (L := fun f y x => lp_X8_widest_4 m 0 f y x (fun x6 => some (x6.toInt64))) (g := pa_wid q.1) (d := q.2.2.2.2.1) (kx := fun x6 => some (x6.toInt64)) (by omega) ?_ ?_ q.2.2.2.2.1 4000 0 (by omega) (by omega)
  · intro f y
    try dsimp only
    rw [lp_X8_widest_4, hq.2.2.2.1, if_pos (nI_lt (by omega) (by omega))]
  · intro f k hk
    try dsimp only
    rw [lp_X8_widest_4, hq.2.2.2.1, if_neg (nI_nlt (by omega) (by omega)), cl_off1 hq (by omega) hd]
    rfl
/-- int and long sums -/
theorem pl_add {x y : Int32} (h1 : -2147483648 ≤ x.toInt + y.toInt) (h2 : x.toInt + y.toInt < 2147483648) : (x + y).toInt64 = x.toInt64 + y.toInt64 := by
  have a := fb_rng x
  have b := fb_rng y
  rw [fa_eq64, Int32.toInt_toInt64, fb_addI h1 h2, fb_addL (by rw [Int32.toInt_toInt64, Int32.toInt_toInt64]; omega) (by rw [Int32.toInt_toInt64, Int32.toInt_toInt64]; omega), Int32.toInt_toInt64, Int32.toInt_toInt64]
theorem pl_mul {x y : Int32} (h1 : -2147483648 ≤ x.toInt * y.toInt) (h2 : x.toInt * y.toInt < 2147483648) : (x * y).toInt64 = x.toInt64 * y.toInt64 := by
  rw [fa_eq64, Int32.toInt_toInt64, fb_mulI h1 h2, fb_mulL (by rw [Int32.toInt_toInt64, Int32.toInt_toInt64]; omega) (by rw [Int32.toInt_toInt64, Int32.toInt_toInt64]; omega), Int32.toInt_toInt64, Int32.toInt_toInt64]
theorem pa_wea_b {q : pu_Q} (hR : pb_R q) : ∀ k, k ≤ q.2.2.2.2.1 → k ≤ 1000 → 0 ≤ (pa_wea q.2.2.1 k).toInt ∧ (pa_wea q.2.2.1 k).toInt ≤ 35 * k
  | 0, _, _ => by
    show 0 ≤ (0 : Int32).toInt ∧ (0 : Int32).toInt ≤ _
    rw [show (0 : Int32).toInt = 0 from rfl]
    omega
  | k + 1, h, h2 => by
    have a := pa_wea_b hR k (by omega) (by omega)
    have b := hR k (by omega)
    rw [pa_wea, fb_addI (by omega) (by omega)]
    omega
theorem pa_wea_l {q : pu_Q} (hR : pb_R q) {k : Nat} (hk : k < q.2.2.2.2.1) (h2 : k < 1000) : (pa_wea q.2.2.1 (k + 1)).toInt64 = (pa_wea q.2.2.1 k).toInt64 + (pa_tu q.2.2.1 k).toInt64 := by
  have a := pa_wea_b hR k (by omega) (by omega)
  have b := hR k (by omega)
  rw [pa_wea, pl_add (by omega) (by omega)]
theorem cl_wear {m : ev_m} {q : pu_Q} (hq : cc_q m q) (hR : pb_R q) (hd : q.2.2.2.2.1 ≤ 400) : f_X8_wear m 0 = some (pa_wea q.2.2.1 q.2.2.2.2.1).toInt64 := by
  refine cl_loop (L := fun f y x => lp_X8_wear_4 m 0 f y x (fun y6 => some y6)) (g := fun k => (pa_wea q.2.2.1 k).toInt64) (d := q.2.2.2.2.1) (by omega) ?_ ?_ q.2.2.2.2.1 4000 0 (by omega) (by omega)
  · intro f y
    try dsimp only
    rw [lp_X8_wear_4, hq.2.2.2.1, if_pos (nI_lt (by omega) (by omega))]
  · intro f k hk
    try dsimp only
    rw [lp_X8_wear_4, hq.2.2.2.1, if_neg (nI_nlt (by omega) (by omega)), cl_tu1 hq (by omega) hd, pa_wea_l hR hk (by omega), pq_let]
/-- the cost of a second -/
def pc_at (S : Nat → Int32) (q : pu_Q) (t : Nat) : Int64 := (pu_pl (q.1 t)).toInt64 + (S 5).toInt64 * (pu_pl (q.2.2.1 t - q.2.2.1 (t - 1))).toInt64
theorem pu_pl_b {x : Int32} {n : Int} (h1 : -n ≤ x.toInt) (h2 : x.toInt ≤ n) (hn : n < 2147483648) : 0 ≤ (pu_pl x).toInt ∧ (pu_pl x).toInt ≤ n := by
  rw [pu_pl_i (by omega)]
  split <;> omega
theorem cl_costAt {m : ev_m} {i k : Nat} {S : Nat → Int32} {q : pu_Q} (hq : cc_q m q) (hH : pb_H q) (hR : pb_R q) (hS : pu_okS S) (h5 : m.1 3 i 5 = S 5) (hs : m.2.2 8 0 0 = some i) (hk : k < q.2.2.2.2.1) (hd : q.2.2.2.2.1 ≤ 400) : f_X8_costAt m 0 (nI (k + 1)) = some (pc_at S q (k + 1)) := by
  have b1 := hH (k + 1) (by omega)
  have b2 := pu_pl_b (n := 18000) b1.1 b1.2 (by decide)
  have b3 := hR k hk
  have b4 := hS.2.2.2.1
  have hm : 0 ≤ (S 5).toInt * (pa_tu q.2.2.1 k).toInt ∧ (S 5).toInt * (pa_tu q.2.2.1 k).toInt ≤ 99 * 35 := ⟨Int.mul_nonneg b4.1 b3.1, Int.mul_le_mul b4.2 b3.2 b3.1 (by decide)⟩
  unfold f_X8_costAt
  rw [pq_let, hs, pq_on1, pq_let, pq_on1, cl_off1 hq (by omega) hd, cl_tu1 hq (by omega) hd, h5, pl_add (by rw [fb_mulI (by omega) (by omega)]; omega) (by rw [fb_mulI (by omega) (by omega)]; omega), pl_mul (by omega) (by omega)]
  rfl
/-- the cost so far, as the reference reckons it -/
def pc_cu (S : Nat → Int32) (q : pu_Q) (k : Nat) : Int64 := pa_off q.1 k + (S 5).toInt64 * (pa_wea q.2.2.1 k).toInt64
theorem pc_cu_s {S : Nat → Int32} {q : pu_Q} (hR : pb_R q) {k : Nat} (hk : k < q.2.2.2.2.1) (hd : q.2.2.2.2.1 ≤ 400) : pc_cu S q (k + 1) = pc_cu S q k + pc_at S q (k + 1) := by
  unfold pc_cu pc_at
  rw [pa_off, pa_wea_l hR hk (by omega), Int64.mul_add, show k + 1 - 1 = k from rfl]
  show _ = _ + ((pu_pl (q.1 (k + 1))).toInt64 + (S 5).toInt64 * (pa_tu q.2.2.1 k).toInt64)
  ac_rfl
theorem cl_cost {m : ev_m} {i : Nat} {S : Nat → Int32} {q : pu_Q} (hq : cc_q m q) (hH : pb_H q) (hR : pb_R q) (hS : pu_okS S) (h5 : m.1 3 i 5 = S 5) (hs : m.2.2 8 0 0 = some i) (hd : q.2.2.2.2.1 ≤ 400) : f_X8_cost m 0 = some (pc_cost S q) := by
  have h0 : pc_cu S q 0 = 0 := by
    show (0 : Int64) + (S 5).toInt64 * (0 : Int32).toInt64 = 0
    rw [show (0 : Int32).toInt64 = 0 from rfl, Int64.mul_zero]
    rfl
  have := cl_loop (L := fun f y x => lp_X8_cost_4 m 0 f y x (fun y6 => some y6)) (g := pc_cu S q) (d := q.2.2.2.2.1) (kx := fun y => some y) (by omega) ?_ ?_ q.2.2.2.2.1 4000 0 (by omega) (by omega)
  · try dsimp only at this
    rw [h0] at this
    exact this
  · intro f y
    try dsimp only
    rw [lp_X8_cost_4, hq.2.2.2.1, if_pos (nI_lt (by omega) (by omega))]
  · intro f k hk
    try dsimp only
    rw [lp_X8_cost_4, hq.2.2.2.1, if_neg (nI_nlt (by omega) (by omega)), cl_costAt hq hH hR hS h5 hs hk hd, pq_sb, pq_let, pc_cu_s hR hk hd]
theorem pl_lost {h : Int32} (h1 : -18000 ≤ h.toInt) (h2 : h.toInt ≤ 18000) : ((pu_pl h * pu_pl h) / 1000).toInt64 = (h.toInt64 * h.toInt64) / 1000 := by
  have b := pu_pl_b (n := 18000) h1 h2 (by decide)
  obtain ⟨n, hn, e⟩ := pu_nI (x := pu_pl h) (n := 18000) b.1 (by omega) (by decide)
  have hsq : n * n ≤ 18000 * 18000 := Nat.mul_le_mul hn hn
  have hi : h.toInt = n ∨ h.toInt = -n := by
    have := pu_pl_i (x := h) (by omega)
    rw [e, nI_toInt (by omega)] at this
    split at this <;> omega
  have hm : h.toInt * h.toInt = ((n * n : Nat) : Int) := by
    rw [Int.natCast_mul]
    rcases hi with q | q
    · rw [q]
    · rw [q, Int.neg_mul_neg]
  have e2 : h.toInt64 * h.toInt64 = lN (n * n) := by
    rw [fa_eq64, fb_mulL (by rw [Int32.toInt_toInt64, hm]; omega) (by rw [Int32.toInt_toInt64, hm]; omega), Int32.toInt_toInt64, hm, pk_lT (by omega)]
  rw [e, e2, pk_mul, show (1000 : Int32) = nI 1000 from rfl, show (1000 : Int64) = lN 1000 from rfl, pk_div (by omega) (by decide) (by decide), pk_lDiv (by omega) (by decide) (by decide), nI_l (by omega)]
theorem cl_lost {m : ev_m} {q : pu_Q} (hq : cc_q m q) (hH : pb_H q) (hd : q.2.2.2.2.1 ≤ 400) : f_X8_lost m 0 = some (pa_los q.1 q.2.2.2.2.1) := by
  refine cl_loop (L := fun f y x => lp_X8_lost_4 m 0 f y x (fun y6 => some y6)) (g := pa_los q.1) (d := q.2.2.2.2.1) (by omega) ?_ ?_ q.2.2.2.2.1 4000 0 (by omega) (by omega)
  · intro f y
    try dsimp only
    rw [lp_X8_lost_4, hq.2.2.2.1, if_pos (nI_lt (by omega) (by omega))]
  · intro f k hk
    try dsimp only
    have b := hH (k + 1) (by omega)
    rw [lp_X8_lost_4, hq.2.2.2.1, if_neg (nI_nlt (by omega) (by omega)), cl_off1 hq (by omega) hd, pl_lost b.1 b.2]
    rfl
theorem cl_spokes {m : ev_m} {q : pu_Q} (hq : cc_q m q) (hR : pb_R q) (hd : q.2.2.2.2.1 ≤ 400) : f_X8_spokes m 0 = some (pa_spk q.2.2.1 q.2.2.2.2.1).toInt64 := by
  refine cl_loop (L := fun f y x => lp_X8_spokes_4 m 0 f y x (fun x8 => some (x8.toInt64))) (g := pa_spk q.2.2.1) (d := q.2.2.2.2.1) (kx := fun x8 => some (x8.toInt64)) (by omega) ?_ ?_ q.2.2.2.2.1 4000 0 (by omega) (by omega)
  · intro f y
    try dsimp only
    rw [lp_X8_spokes_4, hq.2.2.2.1, if_pos (nI_lt (by omega) (by omega))]
  · intro f k hk
    try dsimp only
    have b := hR k hk
    rw [lp_X8_spokes_4, hq.2.2.2.1, if_neg (nI_nlt (by omega) (by omega)), cl_tu1 hq (by omega) hd, pq_let, pq_let, pa_spk]
    by_cases e : pa_tu q.2.2.1 k = 0
    · rw [if_pos e, if_neg (by rw [i0_lt]; rw [eq_i0] at e; omega)]
    · rw [if_neg e, if_pos (by rw [i0_lt]; rw [eq_i0] at e; omega)]
theorem cl_waits {m : ev_m} {q : pu_Q} (hq : cc_q m q) (hR : pb_R q) (hd : q.2.2.2.2.1 ≤ 400) : f_X8_waits m 0 = some (pa_lng q.2.2.1 q.2.2.2.2.1).toInt64 := by
  refine cl_loop (L := fun f (y : Int32 × Int32) x => lp_X8_waits_6 m 0 f y.1 y.2 x (fun x9 => some (x9.toInt64))) (g := fun k => (pa_lng q.2.2.1 k, pa_sti q.2.2.1 k)) (d := q.2.2.2.2.1) (kx := fun y => some (y.1.toInt64)) (by omega) ?_ ?_ q.2.2.2.2.1 4000 0 (by omega) (by omega)
  · intro f y
    try dsimp only
    rw [lp_X8_waits_6, hq.2.2.2.1, if_pos (nI_lt (by omega) (by omega))]
  · intro f k hk
    try dsimp only
    have b := hR k hk
    rw [lp_X8_waits_6, hq.2.2.2.1, if_neg (nI_nlt (by omega) (by omega)), cl_tu1 hq (by omega) hd, pq_let, pq_let, pa_lng, pa_sti]
    by_cases e : pa_tu q.2.2.1 k = 0
    · have hn : ¬ 0 < pa_tu q.2.2.1 k := by rw [i0_lt]; rw [eq_i0] at e; omega
      rw [if_pos e]
      simp only [if_neg hn]
    · have hn : 0 < pa_tu q.2.2.1 k := by rw [i0_lt]; rw [eq_i0] at e; omega
      rw [if_neg e]
      simp only [if_pos hn]
theorem cl_cross {m : ev_m} {q : pu_Q} (hq : cc_q m q) (hd : q.2.2.2.2.1 ≤ 400) : f_X8_crossings m 0 = some (nI (pa_tim q.1 q.2.2.2.2.1)).toInt64 := by
  have e0 : s_X8_signAt m 0 0 = pu_sg (q.1 0) := cl_sig1 (k := 0) hq (by omega) hd
  unfold f_X8_crossings
  rw [e0, pq_let]
  refine cl_loop (L := fun f (y : Int32 × Int32) x => lp_X8_crossings_10 m 0 f y.1 y.2 x (fun x9 => some (x9.toInt64))) (g := fun k => (pa_sig q.1 k, nI (pa_tim q.1 k))) (d := q.2.2.2.2.1) (kx := fun y => some (y.2.toInt64)) (by omega) ?_ ?_ q.2.2.2.2.1 4000 0 (by omega) (by omega)
  · intro f y
    try dsimp only
    rw [lp_X8_crossings_10, hq.2.2.2.1, if_pos (nI_lt (by omega) (by omega))]
  · intro f k hk
    try dsimp only
    rw [lp_X8_crossings_10, hq.2.2.2.1, if_neg (nI_nlt (by omega) (by omega)), cl_sig1 hq (by omega) hd, pq_let, pq_let, pa_sig, pa_tim]
    by_cases e : pu_sg (q.1 (k + 1)) * pa_sig q.1 k < 0
    · rw [if_pos e, if_pos e, nI_1]
    · rw [if_neg e, if_neg e]
