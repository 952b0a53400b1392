/-! pure: calls that try a few runs -/
theorem in_n1 {m : ev_m} {x a b : Int32} (h : x < a) : ¬ s_X10_in m x a b = true := by
  unfold s_X10_in
  rw [if_pos h]
  exact Bool.false_ne_true
theorem in_n2 {m : ev_m} {x a b : Int32} (h : b < x) : ¬ s_X10_in m x a b = true := by
  unfold s_X10_in
  by_cases h1 : x < a
  · rw [if_pos h1]
    exact Bool.false_ne_true
  · rw [if_neg h1, if_pos h]
    exact Bool.false_ne_true
theorem in_y {m : ev_m} {x a b : Int32} (h : ¬ x < a) (h2 : ¬ b < x) : s_X10_in m x a b = true := by
  unfold s_X10_in
  rw [if_neg h, if_neg h2]
theorem rf_trial {m0 m : ev_m} {S D : Nat → Int32} {n : Nat} {seed : Int32} (h : tr_ m0 m S D) (hS : pu_okS S) (hD : pu_okD D) (hn : n ≤ 400) : ∃ m', f_X10_runBy m 0 1 seed (nI n) = some m' ∧ rr_R m' (pu_run S D seed n) ∧ tr_ m0 m' S D := by
  obtain ⟨m', e, r, F⟩ := rf_run (seed := seed) hD hS hn h.2.1 h.1
  exact ⟨m', e, r, h.fr F⟩
theorem cl_costWith8 {m0 m : ev_m} {S D : Nat → Int32} {n : Nat} {v : Int32} (h : tc_ m0 m S D) (hS : pu_okS S) (hD : pu_okD (upd D 8 v)) (hn : n ≤ 400) : ∃ m', f_X9_costWith m 0 8 v (nI n) = some (px_C S (upd D 8 v) n, m') ∧ tc_ m0 m' S (upd D 8 v) := by
  have hv : (if v = 0 then (0 : Int32) else 1) = v := by
    rcases hD.2.2.2.1 with e | e <;> rw [pk_us] at e <;> rw [e] <;> rfl
  obtain ⟨m', e, -, -, -, -, ht, hc⟩ := cl_trial (seed := 0) (h.putD (k := 8) (v := v) (by decide)) hS hD hn
  unfold f_X9_costWith
  rw [pq_let, show (8 : Int32) = nI 8 from rfl, cl_writeH8, hv, e, pq_sb, hc, pq_sb]
  exact ⟨m', rfl, ht⟩
theorem tc_.no9 {m0 m : ev_m} {S D : Nat → Int32} (h : tc_ m0 m S D) : tc_ m0 (ev_pim m 4 16 9 0) S (upd D 9 0) := by
  refine ⟨⟨fun c hc => ?_, fun c hc => ?_⟩, ⟨fun c hc => ?_, fun c hc => ?_⟩, h.2.2.pim rfl⟩
  · rw [pq_pim, if_neg (by omega)]; exact h.1.1 c hc
  · rw [pq_pim, if_neg (by omega)]; exact h.1.2 c hc
  · rw [pq_pim]
    by_cases e : c = 9
    · rw [if_pos ⟨rfl, rfl, e⟩, e, pk_us]
    · rw [if_neg (fun q => e q.2.2), pk_un e]; exact h.2.1.1 c hc
  · rw [pk_us] at hc
    exact absurd (show c < 0 from hc) (Nat.not_lt_zero _)
theorem pu_okD.no9 {D : Nat → Int32} (h : pu_okD D) : pu_okD (upd D 9 0) := by
  unfold pu_okD
  rw [pk_un (by omega), pk_un (by omega), pk_un (by omega), pk_un (by omega), pk_us]
  exact ⟨h.1, h.2.1, h.2.2.1, h.2.2.2.1, 0, by omega, rfl⟩
theorem pu_okD.put8 {D : Nat → Int32} {v : Int32} (h : pu_okD D) (hv : v = 0 ∨ v = 1) : pu_okD (upd D 8 v) := by
  unfold pu_okD
  rw [pk_un (by omega), pk_un (by omega), pk_un (by omega), pk_us, pk_un (by omega)]
  exact ⟨h.1, h.2.1, h.2.2.1, hv, h.2.2.2.2⟩
theorem pu_okD.put4 {D : Nat → Int32} {v : Int32} (h : pu_okD D) (h1 : 1 ≤ v.toInt) (h2 : v.toInt ≤ 999) : pu_okD (upd D 4 v) := by
  unfold pu_okD
  rw [pk_un (by omega), pk_us, pk_un (by omega), pk_un (by omega), pk_un (by omega)]
  exact ⟨h.1, ⟨h1, h2⟩, h.2.2.1, h.2.2.2.1, h.2.2.2.2⟩
theorem pu_okD.put3 {D : Nat → Int32} {v : Int32} (h : pu_okD D) (h1 : 0 ≤ v.toInt) (h2 : v.toInt ≤ 999) : pu_okD (upd D 3 v) := by
  unfold pu_okD
  rw [pk_us, pk_un (by omega), pk_un (by omega), pk_un (by omega), pk_un (by omega)]
  exact ⟨⟨h1, h2⟩, h.2.1, h.2.2.1, h.2.2.2.1, h.2.2.2.2⟩
/-- NIGHT -/
theorem k_night {m : ev_m} {c0 c1 c2 c3 : Nat} (hI : iv_B m 0 c0 c1 c2 c3) (x y z w : Int32) : kc_ m (fun m => f_X9_night m 0 x y z w) (fun m => f_X10_night m 0 x y z w) := by
  refine k_ready (bad := -9223372036854775808) (A := fun m => (if w < 0 then (some (((-9223372036854775808), m))) else (if 999 < w then (some (((-9223372036854775808), m))) else (f_X9_costWith m 0 5 w z).bind (fun p5 => (f_X9_costWith p5.2 0 5 0 z).bind (fun p6 => (some ((p5.1 - p6.1, p6.2)))))))) (B := fun m => (if (s_X10_in m w 0 999) = true then (f_X10_costWith m 0 5 w z).bind (fun p5 => (f_X10_costWith p5.2 0 5 0 z).bind (fun p6 => (some ((p5.1 - p6.1, p6.2))))) else (some (((-9223372036854775808), m))))) hI (fun n S D hz hn1 hn2 hS hD _ => ?_)
  subst hz
  by_cases h1 : w < 0
  · refine ⟨-9223372036854775808, fun m1 t1 => ⟨m1, ?_, t1.2.2⟩, fun m' m3 hF t3 => ⟨m3, ?_, t3.2.2⟩⟩
    · try dsimp only
      rw [if_pos h1]
    · try dsimp only
      rw [if_neg (in_n1 h1)]
  · by_cases h2 : 999 < w
    · refine ⟨-9223372036854775808, fun m1 t1 => ⟨m1, ?_, t1.2.2⟩, fun m' m3 hF t3 => ⟨m3, ?_, t3.2.2⟩⟩
      · try dsimp only
        rw [if_neg h1, if_pos h2]
      · try dsimp only
        rw [if_neg (in_n2 h2)]
    · refine ⟨px_C S (upd D 5 w) n - px_C S (upd D 5 0) n, fun m1 t1 => ?_, fun m' m3 hF t3 => ?_⟩
      · obtain ⟨m2, e2, t2⟩ := cl_costWith (k := 5) (v := w) (n := n) t1 hS (hD.put (by omega)) (by omega) (by decide)
        obtain ⟨m4, e4, t4⟩ := cl_costWith (k := 5) (v := 0) (n := n) t2 hS (by rw [upd_twice]; exact hD.put (by omega)) (by omega) (by decide)
        rw [upd_twice] at e4
        refine ⟨m4, ?_, t4.2.2⟩
        try dsimp only
        rw [if_neg h1, if_neg h2, show f_X9_costWith m1 0 5 w (nI n) = _ from e2, pq_sb, show f_X9_costWith m2 0 5 0 (nI n) = _ from e4, pq_sb]
      · obtain ⟨m2, e2, t2⟩ := rf_costWith (k := 5) (v := w) (n := n) t3 hS (hD.put (by omega)) (by omega) (by decide)
        obtain ⟨m4, e4, t4⟩ := rf_costWith (k := 5) (v := 0) (n := n) t2 hS (hD.put (by omega)) (by omega) (by decide)
        refine ⟨m4, ?_, t4.2.2⟩
        try dsimp only
        rw [if_pos (in_y h1 h2), show f_X10_costWith m3 0 5 w (nI n) = _ from e2, pq_sb, show f_X10_costWith m2 0 5 0 (nI n) = _ from e4, pq_sb]
/-- WORTH -/
theorem k_worth {m : ev_m} {c0 c1 c2 c3 : Nat} (hI : iv_B m 0 c0 c1 c2 c3) (x y z w : Int32) : kc_ m (fun m => f_X9_worth m 0 x y z w) (fun m => f_X10_worth m 0 x y z w) := by
  refine k_ready (bad := -9223372036854775808) (A := fun m => (f_X9_trialCost m 0 z).bind (fun p3 => ev_let (p3.1 : Int64) (fun y4 => (if w = 0 then ev_let (ev_pim p3.2 4 16 9 0) (fun m11 => (f_X9_trialCost m11 0 z).bind (fun p12 => (some ((p12.1 - y4, p12.2))))) else if w = 1 then (f_X9_costWith p3.2 0 8 1 z).bind (fun p9 => (f_X9_costWith p9.2 0 8 0 z).bind (fun p10 => (some ((p9.1 - p10.1, p10.2))))) else if w = 2 then (f_X9_costWith p3.2 0 1 0 z).bind (fun p8 => (some ((p8.1 - y4, p8.2)))) else (some (((-9223372036854775808), p3.2))))))) (B := fun m => (if (s_X10_in m w 0 2) = true then (if w = 1 then (f_X10_costWith m 0 8 1 z).bind (fun p10 => (f_X10_costWith p10.2 0 8 0 z).bind (fun p11 => (some ((p10.1 - p11.1, p11.2))))) else ev_let (if w = 0 then 9 else 1 : Int32) (fun x7 => (f_X10_costWith m 0 x7 0 z).bind (fun p8 => (f_X10_costBy p8.2 0 z).bind (fun p9 => (some ((p8.1 - p9.1, p9.2))))))) else (some (((-9223372036854775808), m))))) hI (fun n S D hz hn1 hn2 hS hD _ => ?_)
  subst hz
  by_cases e0 : w = 0
  · subst e0
    refine ⟨px_C S (upd D 9 0) n - px_C S D n, fun m1 t1 => ?_, fun m' m3 hF t3 => ?_⟩
    · obtain ⟨m2, e2, t2⟩ := cl_trialCost (n := n) t1 hS hD (by omega)
      obtain ⟨m4, e4, t4⟩ := cl_trialCost (n := n) t2.no9 hS hD.no9 (by omega)
      refine ⟨m4, ?_, t4.2.2⟩
      try dsimp only
      rw [e2, pq_sb, pq_let, if_pos rfl, pq_let, e4, pq_sb]
    · obtain ⟨m2, e2, t2⟩ := rf_costWith (k := 9) (v := 0) (n := n) t3 hS hD.no9 (by omega) (by decide)
      obtain ⟨m4, e4, t4⟩ := rf_trialCost (n := n) t2 hS hD (by omega)
      refine ⟨m4, ?_, t4.2.2⟩
      try dsimp only
      rw [if_pos (in_y (by decide) (by decide)), if_neg (by decide), if_pos rfl, pq_let, show f_X10_costWith m3 0 9 0 (nI n) = _ from e2, pq_sb, e4, pq_sb]
  · by_cases e1 : w = 1
    · subst e1
      refine ⟨px_C S (upd D 8 1) n - px_C S (upd D 8 0) n, fun m1 t1 => ?_, fun m' m3 hF t3 => ?_⟩
      · obtain ⟨m2, e2, t2⟩ := cl_trialCost (n := n) t1 hS hD (by omega)
        obtain ⟨m4, e4, t4⟩ := cl_costWith8 (v := 1) (n := n) t2 hS (hD.put8 (Or.inr rfl)) (by omega)
        obtain ⟨m5, e5, t5⟩ := cl_costWith8 (v := 0) (n := n) t4 hS (by rw [upd_twice]; exact hD.put8 (Or.inl rfl)) (by omega)
        rw [upd_twice] at e5
        refine ⟨m5, ?_, t5.2.2⟩
        try dsimp only
        rw [e2, pq_sb, pq_let, if_neg (by decide), if_pos rfl, e4, pq_sb, e5, pq_sb]
      · obtain ⟨m2, e2, t2⟩ := rf_costWith (k := 8) (v := 1) (n := n) t3 hS (hD.put8 (Or.inr rfl)) (by omega) (by decide)
        obtain ⟨m4, e4, t4⟩ := rf_costWith (k := 8) (v := 0) (n := n) t2 hS (hD.put8 (Or.inl rfl)) (by omega) (by decide)
        refine ⟨m4, ?_, t4.2.2⟩
        try dsimp only
        rw [if_pos (in_y (by decide) (by decide)), if_pos rfl, show f_X10_costWith m3 0 8 1 (nI n) = _ from e2, pq_sb, show f_X10_costWith m2 0 8 0 (nI n) = _ from e4, pq_sb]
    · by_cases e2 : w = 2
      · subst e2
        refine ⟨px_C S (upd D 1 0) n - px_C S D n, fun m1 t1 => ?_, fun m' m3 hF t3 => ?_⟩
        · obtain ⟨m2, e2, t2⟩ := cl_trialCost (n := n) t1 hS hD (by omega)
          obtain ⟨m4, e4, t4⟩ := cl_costWith (k := 1) (v := 0) (n := n) t2 hS (hD.put (by omega)) (by omega) (by decide)
          refine ⟨m4, ?_, t4.2.2⟩
          try dsimp only
          rw [e2, pq_sb, pq_let, if_neg (by decide), if_neg (by decide), if_pos rfl, show f_X9_costWith m2 0 1 0 (nI n) = _ from e4, pq_sb]
        · obtain ⟨m2, e2, t2⟩ := rf_costWith (k := 1) (v := 0) (n := n) t3 hS (hD.put (by omega)) (by omega) (by decide)
          obtain ⟨m4, e4, t4⟩ := rf_trialCost (n := n) t2 hS hD (by omega)
          refine ⟨m4, ?_, t4.2.2⟩
          try dsimp only
          rw [if_pos (in_y (by decide) (by decide)), if_neg (by decide), if_neg (by decide), pq_let, show f_X10_costWith m3 0 1 0 (nI n) = _ from e2, pq_sb, e4, pq_sb]
      · have hn : ∀ m : ev_m, ¬ s_X10_in m w 0 2 = true := by
          intro m h
          obtain ⟨k, -, h2, h3⟩ := in_F (a := 0) (b := 2) (by decide) (by decide) h
          rcases (show k = 0 ∨ k = 1 ∨ k = 2 by omega) with q | q | q
          · exact e0 (by rw [h3, q]; rfl)
          · exact e1 (by rw [h3, q]; rfl)
          · exact e2 (by rw [h3, q]; rfl)
        refine ⟨-9223372036854775808, fun m1 t1 => ?_, fun m' m3 hF t3 => ⟨m3, ?_, t3.2.2⟩⟩
        · obtain ⟨m2, e2', t2⟩ := cl_trialCost (n := n) t1 hS hD (by omega)
          refine ⟨m2, ?_, t2.2.2⟩
          try dsimp only
          rw [e2', pq_sb, pq_let, if_neg e0, if_neg e1, if_neg e2]
        · try dsimp only
          rw [if_neg (hn m3)]
/-- WEARY -/
theorem rf_weary_l {m : ev_m} {n : Nat} {w x5 : Int32} {q : pu_Q} {kx : Int32 → Int32 → Option (Int32 × ev_m)} (hR : rr_R m q) (hd : q.2.2.2.2.1 = n) (hn : n ≤ 400) : lp_X10_weary_38 m 0 (nI n) w x5 4000 (-1) 0 1 kx = kx (pf_first (fun t => decide (w < pu_pl (q.1 t))) n) (pf_last (fun t => decide (w < pu_pl (q.1 t))) n) := by
  refine cl_loop (L := fun f (a : Int32 × Int32) x => lp_X10_weary_38 m 0 (nI n) w x5 f a.1 a.2 x kx) (g := fun k => (pf_first (fun t => decide (w < pu_pl (q.1 t))) k, pf_last (fun t => decide (w < pu_pl (q.1 t))) k)) (d := n) (kx := fun a => kx a.1 a.2) (by omega) ?_ ?_ n 4000 0 (by omega) (by omega)
  · intro f y
    try dsimp only
    rw [lp_X10_weary_38, if_pos (nI_lt (by omega) (by omega))]
  · intro f k hk
    try dsimp only
    rw [lp_X10_weary_38, if_neg (nI_nlt (by omega) (by omega)), pq_ald (by omega) (by decide), pq_sb, hR.1.1 (k + 1) (by omega), pu_pl_r, pq_let, pq_let, pq_let, pf_first, pf_last]
    by_cases h : w < pu_pl (q.1 (k + 1))
    · simp only [if_pos h, decide_eq_true h, if_neg (show ¬ (1 : Int32) = 0 by decide), if_true]
    · simp only [if_neg h, decide_eq_false h, if_true, if_neg Bool.false_ne_true]
theorem k_weary {m : ev_m} {c0 c1 c2 c3 : Nat} (hI : iv_B m 0 c0 c1 c2 c3) (x y z w b : Int32) : kc_ m (fun m => f_X9_weary m 0 x y z w b) (fun m => f_X10_weary m 0 x y z w b) := by
  refine k_ready (bad := -1) (A := fun m => (if w < 0 then (some (((-1), m))) else (f_X8_sail m 0 (some 8) (some 16) 0 z).bind (fun m4 => (if b = 0 then (f_X8_earliestBeyond m4 0 w).bind (fun x8 => (some ((x8, m4)))) else (f_X8_latestBeyond m4 0 w).bind (fun x6 => (if x6 = z then (some (((-1), m4))) else (some ((x6, m4))))))))) (B := fun m => (if w < 0 then (some (((-1), m))) else (f_X10_runBy m 0 1 0 z).bind (fun m5 => (lp_X10_weary_38 m5 0 z w b 4000 ((-1)) 0 1 (fun x23 x24 => (if b = 0 then (some ((x23, m5))) else (if x24 = z then (some (((-1), m5))) else (some ((x24, m5)))))))))) hI (fun n S D hz hn1 hn2 hS hD _ => ?_)
  subst hz
  by_cases h1 : w < 0
  · refine ⟨-1, fun m1 t1 => ⟨m1, ?_, t1.2.2⟩, fun m' m3 hF t3 => ⟨m3, ?_, t3.2.2⟩⟩
    · try dsimp only
      rw [if_pos h1]
    · try dsimp only
      rw [if_pos h1]
  · refine ⟨if b = 0 then pf_first (fun t => decide (w < pu_pl ((pu_run S D 0 n).1 t))) n else if pf_last (fun t => decide (w < pu_pl ((pu_run S D 0 n).1 t))) n = nI n then -1 else pf_last (fun t => decide (w < pu_pl ((pu_run S D 0 n).1 t))) n, fun m1 t1 => ?_, fun m' m3 hF t3 => ?_⟩
    · obtain ⟨m2, e2, q2, -, -, -, t2, -⟩ := cl_trial (n := n) (seed := 0) t1 hS hD (by omega)
      have hd := pu_run_d S D 0 n
      refine ⟨m2, ?_, t2.2.2⟩
      try dsimp only
      rw [if_neg h1, e2, pq_sb, cl_early q2 (by omega), pq_sb, cl_late q2 (by omega), pq_sb, hd]
      split
      · rfl
      · split <;> rfl
    · obtain ⟨m2, e2, r2, t2⟩ := rf_trial (n := n) (seed := 0) t3 hS hD (by omega)
      refine ⟨m2, ?_, t2.2.2⟩
      try dsimp only
      rw [if_neg h1, e2, pq_sb, rf_weary_l r2 (pu_run_d S D 0 n) (by omega)]
      split
      · rfl
      · split <;> rfl
