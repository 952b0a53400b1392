/-! pure: hands in turns, the reference, the call -/
theorem io_hi {x2 : Int32} {u : Int32} {men i r f : Nat} {m : ev_m} {kx : Int32 → ev_m → Option (Bool × ev_m)} (hi : men ≤ i) (h3 : i < 4) (hr : r < 2 ^ 20) : lp_X10_isOrder_9 0 x2 (nI men) (f + 1) u (nI r) (nI i) m kx = if 0 < r % 4 then some (false, m) else lp_X10_isOrder_9 0 x2 (nI men) f u (nI (r / 4)) (nI i + (-1)) m kx := by
  rw [lp_X10_isOrder_9, if_neg (nI_pos (by omega)), show (4 : Int32) = nI 4 from rfl, pk_rem (by omega) (by omega) (by omega), pk_div (by omega) (by omega) (by omega), pq_let, pq_let, if_neg (nI_nlt hi (by omega))]
  unfold jn_X10_isOrder_57_9
  by_cases h : 0 < r % 4
  · rw [if_pos (show 0 < nI (r % 4) from nI_lt (a := 0) h (by omega)), if_pos h]
  · rw [if_neg (show ¬ 0 < nI (r % 4) from nI_nlt (a := 0) (by omega) (by omega)), if_neg h]
theorem io_lo {x2 : Int32} {u men i r f : Nat} {m : ev_m} {kx : Int32 → ev_m → Option (Bool × ev_m)} (hi : i < men) (h4 : men ≤ 4) (hr : r < 2 ^ 20) : lp_X10_isOrder_9 0 x2 (nI men) (f + 1) (nI u) (nI r) (nI i) m kx = lp_X10_isOrder_9 0 x2 (nI men) f (nI (u ||| 2 ^ (r % 4))) (nI (r / 4)) (nI i + (-1)) (ev_pim m 50 0 i (nI (r % 4))) kx := by
  rw [lp_X10_isOrder_9, if_neg (nI_pos (by omega)), show (4 : Int32) = nI 4 from rfl, pk_rem (by omega) (by omega) (by omega), pk_div (by omega) (by omega) (by omega), pq_let, pq_let, if_pos (nI_lt hi (by omega)), pq_ast (by omega) (by decide), pq_sb, sh1 (Nat.mod_lt _ (by decide)), fa_or, pq_let]
  rfl
theorem io_end {x2 x3 u r : Int32} {f : Nat} {m : ev_m} {kx : Int32 → ev_m → Option (Bool × ev_m)} : lp_X10_isOrder_9 0 x2 x3 (f + 1) u r (-1) m kx = kx u m := by
  rw [lp_X10_isOrder_9, if_pos (by decide)]
theorem nI_m0 : nI 0 + (-1) = -1 := by decide
def pi_ok (men H c : Nat) : Bool := decide (c % 4 ^ (4 - men) = 0) && decide (ho_ (c / 4 ^ (4 - men)) men men = H)
def pi_re (men : Nat) (m m' : ev_m) (c : Nat) : Prop := (∀ r i k, r ≠ 50 → m'.1 r i k = m.1 r i k) ∧ m'.2 = m.2 ∧ (c % 4 ^ (4 - men) = 0 → ∀ i, i < men → m'.1 50 0 i = nI (hd_ (c / 4 ^ (4 - men)) men i))
theorem ho_lt (row men : Nat) : ∀ k, ho_ row men k < 2 ^ 4
  | 0 => by show 0 < 16; omega
  | k + 1 => by
    rw [ho_]
    refine Nat.or_lt_two_pow (ho_lt row men k) ?_
    have h := hd_lt row men k
    generalize hd_ row men k = d at h
    rcases (show d = 0 ∨ d = 1 ∨ d = 2 ∨ d = 3 by omega) with rfl | rfl | rfl | rfl <;> decide
theorem io_eq {a H : Nat} {men row : Nat} (h : a = ho_ row men men) (hH : H < 16) {α : Type} (x y : α) : (if nI a = nI H then x else y) = if decide (ho_ row men men = H) = true then x else y := by
  have h1 := ho_lt row men men
  rw [← h] at h1 ⊢
  by_cases e : a = H
  · rw [if_pos (by rw [e]), if_pos (by rw [e]; exact decide_eq_true rfl)]
  · rw [if_neg (fun q => e ((nI_eq (by omega) (by omega)).mp q)), if_neg (by rw [decide_eq_true_eq]; exact e)]
theorem io_b {b : Bool} {m : ev_m} : (if b = true then some (true, m) else some (false, m)) = some (b, m) := by
  cases b <;> rfl
theorem rf_io1 {m : ev_m} {H c : Nat} (hH : H < 16) (hc : c < 256) : ∃ m', f_X10_isOrder m 0 (nI c) (nI H) (nI 1) = some (pi_ok 1 H c, m') ∧ pi_re 1 m m' c := by
  have e : (0 ||| 2 ^ ((c / 4 / 4 / 4) % 4)) = ho_ (c / 4 ^ (4 - 1)) 1 1 := by
    simp only [ho_, hd_, Nat.reduceSub, Nat.reducePow, Nat.div_one, Nat.div_div_eq_div_mul, Nat.reduceMul, Nat.zero_or]
  unfold f_X10_isOrder
  rw [show (3 : Int32) = nI 3 from rfl, io_hi (men := 1) (i := 3) (r := c) (by decide) (by decide) (by omega)]
  by_cases h3 : 0 < c % 4
  · rw [if_pos h3]
    have hp : pi_ok 1 H c = false := by
      unfold pi_ok
      rw [decide_eq_false (show ¬ c % 4 ^ (4 - 1) = 0 by show ¬ c % 64 = 0; omega)]
      rfl
    rw [hp]
    exact ⟨m, rfl, fun _ _ _ _ => rfl, rfl, fun q => absurd q (show ¬ c % 64 = 0 by omega)⟩
  · rw [if_neg h3, pk_m1, io_hi (men := 1) (i := 2) (r := (c / 4)) (by decide) (by decide) (by omega)]
    by_cases h2 : 0 < (c / 4) % 4
    · rw [if_pos h2]
      have hp : pi_ok 1 H c = false := by
        unfold pi_ok
        rw [decide_eq_false (show ¬ c % 4 ^ (4 - 1) = 0 by show ¬ c % 64 = 0; omega)]
        rfl
      rw [hp]
      exact ⟨m, rfl, fun _ _ _ _ => rfl, rfl, fun q => absurd q (show ¬ c % 64 = 0 by omega)⟩
    · rw [if_neg h2, pk_m1, io_hi (men := 1) (i := 1) (r := (c / 4 / 4)) (by decide) (by decide) (by omega)]
      by_cases h1 : 0 < (c / 4 / 4) % 4
      · rw [if_pos h1]
        have hp : pi_ok 1 H c = false := by
          unfold pi_ok
          rw [decide_eq_false (show ¬ c % 4 ^ (4 - 1) = 0 by show ¬ c % 64 = 0; omega)]
          rfl
        rw [hp]
        exact ⟨m, rfl, fun _ _ _ _ => rfl, rfl, fun q => absurd q (show ¬ c % 64 = 0 by omega)⟩
      · rw [if_neg h1, pk_m1, show (0 : Int32) = nI 0 from rfl, io_lo (men := 1) (i := 0) (r := (c / 4 / 4 / 4)) (by decide) (by decide) (by omega), nI_m0, io_end]
        rw [io_eq e hH, io_b]
        have hc0 : c % 4 ^ (4 - 1) = 0 := by
          show c % 64 = 0
          omega
        have hp : pi_ok 1 H c = decide (ho_ (c / 4 ^ (4 - 1)) 1 1 = H) := by
          unfold pi_ok
          rw [decide_eq_true hc0]
          rfl
        rw [hp]
        refine ⟨_, rfl, fun r i k hr => ?_, rfl, fun _ i hi => ?_⟩
        · rw [pq_pim, if_neg (fun e => hr e.1)]
        · rcases (show i = 0 by omega) with rfl
          · rw [pq_pim, if_pos ⟨rfl, rfl, rfl⟩]
            simp only [hd_, Nat.reduceSub, Nat.reducePow, Nat.div_one, Nat.div_div_eq_div_mul, Nat.reduceMul]
theorem rf_io2 {m : ev_m} {H c : Nat} (hH : H < 16) (hc : c < 256) : ∃ m', f_X10_isOrder m 0 (nI c) (nI H) (nI 2) = some (pi_ok 2 H c, m') ∧ pi_re 2 m m' c := by
  have e : ((0 ||| 2 ^ ((c / 4 / 4) % 4)) ||| 2 ^ ((c / 4 / 4 / 4) % 4)) = ho_ (c / 4 ^ (4 - 2)) 2 2 := by
    simp only [ho_, hd_, Nat.reduceSub, Nat.reducePow, Nat.div_one, Nat.div_div_eq_div_mul, Nat.reduceMul, Nat.zero_or]
    ac_rfl
  unfold f_X10_isOrder
  rw [show (3 : Int32) = nI 3 from rfl, io_hi (men := 2) (i := 3) (r := c) (by decide) (by decide) (by omega)]
  by_cases h3 : 0 < c % 4
  · rw [if_pos h3]
    have hp : pi_ok 2 H c = false := by
      unfold pi_ok
      rw [decide_eq_false (show ¬ c % 4 ^ (4 - 2) = 0 by show ¬ c % 16 = 0; omega)]
      rfl
    rw [hp]
    exact ⟨m, rfl, fun _ _ _ _ => rfl, rfl, fun q => absurd q (show ¬ c % 16 = 0 by omega)⟩
  · rw [if_neg h3, pk_m1, io_hi (men := 2) (i := 2) (r := (c / 4)) (by decide) (by decide) (by omega)]
    by_cases h2 : 0 < (c / 4) % 4
    · rw [if_pos h2]
      have hp : pi_ok 2 H c = false := by
        unfold pi_ok
        rw [decide_eq_false (show ¬ c % 4 ^ (4 - 2) = 0 by show ¬ c % 16 = 0; omega)]
        rfl
      rw [hp]
      exact ⟨m, rfl, fun _ _ _ _ => rfl, rfl, fun q => absurd q (show ¬ c % 16 = 0 by omega)⟩
    · rw [if_neg h2, pk_m1, show (0 : Int32) = nI 0 from rfl, io_lo (men := 2) (i := 1) (r := (c / 4 / 4)) (by decide) (by decide) (by omega), pk_m1, io_lo (men := 2) (i := 0) (r := (c / 4 / 4 / 4)) (by decide) (by decide) (by omega), nI_m0, io_end]
      rw [io_eq e hH, io_b]
      have hc0 : c % 4 ^ (4 - 2) = 0 := by
        show c % 16 = 0
        omega
      have hp : pi_ok 2 H c = decide (ho_ (c / 4 ^ (4 - 2)) 2 2 = H) := by
        unfold pi_ok
        rw [decide_eq_true hc0]
        rfl
      rw [hp]
      refine ⟨_, rfl, fun r i k hr => ?_, rfl, fun _ i hi => ?_⟩
      · rw [pq_pim, if_neg (fun e => hr e.1), pq_pim, if_neg (fun e => hr e.1)]
      · rcases (show i = 0 ∨ i = 1 by omega) with rfl | rfl
        · rw [pq_pim, if_pos ⟨rfl, rfl, rfl⟩]
          simp only [hd_, Nat.reduceSub, Nat.reducePow, Nat.div_one, Nat.div_div_eq_div_mul, Nat.reduceMul]
        · rw [pq_pim, if_neg (by omega), pq_pim, if_pos ⟨rfl, rfl, rfl⟩]
          simp only [hd_, Nat.reduceSub, Nat.reducePow, Nat.div_one, Nat.div_div_eq_div_mul, Nat.reduceMul]
theorem rf_io3 {m : ev_m} {H c : Nat} (hH : H < 16) (hc : c < 256) : ∃ m', f_X10_isOrder m 0 (nI c) (nI H) (nI 3) = some (pi_ok 3 H c, m') ∧ pi_re 3 m m' c := by
  have e : (((0 ||| 2 ^ ((c / 4) % 4)) ||| 2 ^ ((c / 4 / 4) % 4)) ||| 2 ^ ((c / 4 / 4 / 4) % 4)) = ho_ (c / 4 ^ (4 - 3)) 3 3 := by
    simp only [ho_, hd_, Nat.reduceSub, Nat.reducePow, Nat.div_one, Nat.div_div_eq_div_mul, Nat.reduceMul, Nat.zero_or]
    ac_rfl
  unfold f_X10_isOrder
  rw [show (3 : Int32) = nI 3 from rfl, io_hi (men := 3) (i := 3) (r := c) (by decide) (by decide) (by omega)]
  by_cases h3 : 0 < c % 4
  · rw [if_pos h3]
    have hp : pi_ok 3 H c = false := by
      unfold pi_ok
      rw [decide_eq_false (show ¬ c % 4 ^ (4 - 3) = 0 by show ¬ c % 4 = 0; omega)]
      rfl
    rw [hp]
    exact ⟨m, rfl, fun _ _ _ _ => rfl, rfl, fun q => absurd q (show ¬ c % 4 = 0 by omega)⟩
  · rw [if_neg h3, pk_m1, show (0 : Int32) = nI 0 from rfl, io_lo (men := 3) (i := 2) (r := (c / 4)) (by decide) (by decide) (by omega), pk_m1, io_lo (men := 3) (i := 1) (r := (c / 4 / 4)) (by decide) (by decide) (by omega), pk_m1, io_lo (men := 3) (i := 0) (r := (c / 4 / 4 / 4)) (by decide) (by decide) (by omega), nI_m0, io_end]
    rw [io_eq e hH, io_b]
    have hc0 : c % 4 ^ (4 - 3) = 0 := by
      show c % 4 = 0
      omega
    have hp : pi_ok 3 H c = decide (ho_ (c / 4 ^ (4 - 3)) 3 3 = H) := by
      unfold pi_ok
      rw [decide_eq_true hc0]
      rfl
    rw [hp]
    refine ⟨_, rfl, fun r i k hr => ?_, rfl, fun _ i hi => ?_⟩
    · rw [pq_pim, if_neg (fun e => hr e.1), pq_pim, if_neg (fun e => hr e.1), pq_pim, if_neg (fun e => hr e.1)]
    · rcases (show i = 0 ∨ i = 1 ∨ i = 2 by omega) with rfl | rfl | rfl
      · rw [pq_pim, if_pos ⟨rfl, rfl, rfl⟩]
        simp only [hd_, Nat.reduceSub, Nat.reducePow, Nat.div_one, Nat.div_div_eq_div_mul, Nat.reduceMul]
      · rw [pq_pim, if_neg (by omega), pq_pim, if_pos ⟨rfl, rfl, rfl⟩]
        simp only [hd_, Nat.reduceSub, Nat.reducePow, Nat.div_one, Nat.div_div_eq_div_mul, Nat.reduceMul]
      · rw [pq_pim, if_neg (by omega), pq_pim, if_neg (by omega), pq_pim, if_pos ⟨rfl, rfl, rfl⟩]
        simp only [hd_, Nat.reduceSub, Nat.reducePow, Nat.div_one, Nat.div_div_eq_div_mul, Nat.reduceMul]
theorem rf_io4 {m : ev_m} {H c : Nat} (hH : H < 16) (hc : c < 256) : ∃ m', f_X10_isOrder m 0 (nI c) (nI H) (nI 4) = some (pi_ok 4 H c, m') ∧ pi_re 4 m m' c := by
  have e : ((((0 ||| 2 ^ (c % 4)) ||| 2 ^ ((c / 4) % 4)) ||| 2 ^ ((c / 4 / 4) % 4)) ||| 2 ^ ((c / 4 / 4 / 4) % 4)) = ho_ (c / 4 ^ (4 - 4)) 4 4 := by
    simp only [ho_, hd_, Nat.reduceSub, Nat.reducePow, Nat.div_one, Nat.div_div_eq_div_mul, Nat.reduceMul, Nat.zero_or]
    ac_rfl
  unfold f_X10_isOrder
  rw [show (3 : Int32) = nI 3 from rfl, show (0 : Int32) = nI 0 from rfl, io_lo (men := 4) (i := 3) (r := c) (by decide) (by decide) (by omega), pk_m1, io_lo (men := 4) (i := 2) (r := (c / 4)) (by decide) (by decide) (by omega), pk_m1, io_lo (men := 4) (i := 1) (r := (c / 4 / 4)) (by decide) (by decide) (by omega), pk_m1, io_lo (men := 4) (i := 0) (r := (c / 4 / 4 / 4)) (by decide) (by decide) (by omega), nI_m0, io_end]
  rw [io_eq e hH, io_b]
  have hc0 : c % 4 ^ (4 - 4) = 0 := by
    show c % 1 = 0
    omega
  have hp : pi_ok 4 H c = decide (ho_ (c / 4 ^ (4 - 4)) 4 4 = H) := by
    unfold pi_ok
    rw [decide_eq_true hc0]
    rfl
  rw [hp]
  refine ⟨_, rfl, fun r i k hr => ?_, rfl, fun _ i hi => ?_⟩
  · rw [pq_pim, if_neg (fun e => hr e.1), pq_pim, if_neg (fun e => hr e.1), pq_pim, if_neg (fun e => hr e.1), pq_pim, if_neg (fun e => hr e.1)]
  · rcases (show i = 0 ∨ i = 1 ∨ i = 2 ∨ i = 3 by omega) with rfl | rfl | rfl | rfl
    · rw [pq_pim, if_pos ⟨rfl, rfl, rfl⟩]
      simp only [hd_, Nat.reduceSub, Nat.reducePow, Nat.div_one, Nat.div_div_eq_div_mul, Nat.reduceMul]
    · rw [pq_pim, if_neg (by omega), pq_pim, if_pos ⟨rfl, rfl, rfl⟩]
      simp only [hd_, Nat.reduceSub, Nat.reducePow, Nat.div_one, Nat.div_div_eq_div_mul, Nat.reduceMul]
    · rw [pq_pim, if_neg (by omega), pq_pim, if_neg (by omega), pq_pim, if_pos ⟨rfl, rfl, rfl⟩]
      simp only [hd_, Nat.reduceSub, Nat.reducePow, Nat.div_one, Nat.div_div_eq_div_mul, Nat.reduceMul]
    · rw [pq_pim, if_neg (by omega), pq_pim, if_neg (by omega), pq_pim, if_neg (by omega), pq_pim, if_pos ⟨rfl, rfl, rfl⟩]
      simp only [hd_, Nat.reduceSub, Nat.reducePow, Nat.div_one, Nat.div_div_eq_div_mul, Nat.reduceMul]
theorem rf_io {m : ev_m} {H c men : Nat} (hH : H < 16) (hc : c < 256) (h1 : 1 ≤ men) (h4 : men ≤ 4) : ∃ m', f_X10_isOrder m 0 (nI c) (nI H) (nI men) = some (pi_ok men H c, m') ∧ pi_re men m m' c := by
  rcases (show men = 1 ∨ men = 2 ∨ men = 3 ∨ men = 4 by omega) with rfl | rfl | rfl | rfl
  · exact rf_io1 hH hc
  · exact rf_io2 hH hc
  · exact rf_io3 hH hc
  · exact rf_io4 hH hc
