/-! pure: first, learning, three tries, bounds, clouds -/
/-- FIRST -/
def pF_0 (q : pu_Q) (t : Nat) : Bool := !decide (pu_pl (q.1 t) < 9000)
def pF_2 (S : Nat → Int32) (q : pu_Q) (t : Nat) : Bool := !decide (2 * pc_cu S q t < pc_cost S q)
theorem pf_first_c {P P' : Nat → Bool} (h : ∀ t, P t = P' t) : ∀ n, pf_first P n = pf_first P' n
  | 0 => rfl
  | n + 1 => by rw [pf_first, pf_first, pf_first_c h n, h]
theorem pF_8999 (x : Int32) : decide (8999 < x) = !decide (x < 9000) := by
  by_cases h : x < 9000
  · rw [decide_eq_true h, decide_eq_false (by rw [fa_lt]; rw [fa_lt] at h; rw [show (8999 : Int32).toInt = 8999 from rfl]; rw [show (9000 : Int32).toInt = 9000 from rfl] at h; omega)]
    rfl
  · rw [decide_eq_false h, decide_eq_true (by rw [fa_lt]; rw [fa_lt] at h; rw [show (8999 : Int32).toInt = 8999 from rfl]; rw [show (9000 : Int32).toInt = 9000 from rfl] at h; omega)]
    rfl
theorem rf_costOf {m : ev_m} {S : Nat → Int32} {q : pu_Q} {t : Nat} (hR : rr_R m q) (hS : rr_S m S) (ht : 1 ≤ t) (ht2 : t ≤ q.2.2.2.2.1) (hd : q.2.2.2.2.1 ≤ 400) : f_X10_costOf m 0 (nI t) = some (pc_at S q t) := by
  obtain ⟨k, rfl⟩ : ∃ k, t = k + 1 := ⟨t - 1, by omega⟩
  unfold f_X10_costOf
  rw [pq_ald (by omega) (by decide), pq_sb, pq_ald (by omega) (by decide), pq_sb, nI_pred, pq_ald (by omega) (by decide), pq_sb, hR.1.1 (k + 1) ht2, hR.1.2.2.1 (k + 1) ht2, hR.1.2.2.1 k (by omega), hS 5 (by decide)]
  rfl
theorem rf_first_l {m : ev_m} {n : Nat} {S : Nat → Int32} {x8 : Int32} {q : pu_Q} {kx : Int32 → Int32 → Int32 → Option (Int32 × ev_m)} (hR : rr_R m q) (hS : rr_S m S) (hB : pb_R q) (hd : q.2.2.2.2.1 = n) (hn : n ≤ 400) : lp_X10_first_49 m 0 (nI n) x8 4000 (-1) 1 (-1) 0 1 kx = kx (pf_first (pF_0 q) n) (nI (pd_best S q n)) (pf_first (pF_2 S q) n) := by
  have h0 : pc_cu S q 0 = 0 := by
    show (0 : Int64) + (S 5).toInt64 * (0 : Int32).toInt64 = 0
    rw [show (0 : Int32).toInt64 = 0 from rfl, Int64.mul_zero]
    rfl
  have hb := fun n => pd_best_b S q n
  have := cl_loop (L := fun f (a : (Int32 × Int32 × Int32) × Int64) x => lp_X10_first_49 m 0 (nI n) x8 f a.1.1 a.1.2.1 a.1.2.2 a.2 x kx) (g := fun k => ((pf_first (pF_0 q) k, nI (pd_best S q k), pf_first (pF_2 S q) k), pc_cu S q k)) (d := n) (kx := fun a => kx a.1.1 a.1.2.1 a.1.2.2) (by omega) ?_ ?_ n 4000 0 (by omega) (by omega)
  · try dsimp only at this
    rw [h0] at this
    exact this
  · intro f y
    try dsimp only
    rw [lp_X10_first_49, if_pos (nI_lt (by omega) (by omega))]
  · intro f k hk
    try dsimp only
    have hcost := rf_cost hR hS
    have hk1 := hb k
    have c1 := rf_costOf (t := k + 1) hR hS (by omega) (by omega) (by omega)
    have c2 : f_X10_costOf m 0 (nI (pd_best S q k)) = some (pc_at S q (pd_best S q k)) := by
      rcases Nat.eq_zero_or_pos k with e | e
      · subst e
        have : pd_best S q 0 = 1 := rfl
        rw [this]
        exact rf_costOf (t := 1) hR hS (by omega) (by omega) (by omega)
      · exact rf_costOf hR hS (by omega) (by omega) (by omega)
    have hcu := pc_cu_s (S := S) (q := q) hB (k := k) (by omega) (by omega)
    have hbb : (if pc_at S q (pd_best S q k) < pc_at S q (k + 1) then nI (k + 1) else nI (pd_best S q k)) = nI (pd_best S q (k + 1)) := by
      rw [pd_best]
      split <;> rfl
    have hhf : (if pf_first (pF_2 S q) k = -1 then (if 2 * pc_cu S q (k + 1) < pc_cost S q then pf_first (pF_2 S q) k else nI (k + 1)) else pf_first (pF_2 S q) k) = pf_first (pF_2 S q) (k + 1) := by
      rw [pf_first]
      unfold pF_2
      by_cases h2 : 2 * pc_cu S q (k + 1) < pc_cost S q
      · simp only [if_pos h2, decide_eq_true h2, Bool.not_true, if_neg Bool.false_ne_true]
        split <;> rfl
      · simp only [if_neg h2, decide_eq_false h2, Bool.not_false, if_true]
    rw [lp_X10_first_49, if_neg (nI_nlt (by omega) (by omega))]
    by_cases e1 : pf_first (pF_0 q) k = -1
    · have hbr : (if pu_pl (q.1 (k + 1)) < 9000 then pf_first (pF_0 q) k else nI (k + 1)) = pf_first (pF_0 q) (k + 1) := by
        rw [pf_first]
        unfold pF_0
        by_cases h2 : pu_pl (q.1 (k + 1)) < 9000
        · simp only [if_pos h2, decide_eq_true h2, Bool.not_true, if_neg Bool.false_ne_true]
        · have e1' : pf_first (fun t => !decide (pu_pl (q.1 t) < 9000)) k = -1 := e1
          simp only [if_neg h2, decide_eq_false h2, Bool.not_false, if_true]
          rw [show pf_first (fun t => !decide (pu_pl (q.1 t) < 9000)) k = -1 from e1', if_pos rfl]
      rw [if_pos e1, pq_ald (by omega) (by decide), pq_sb, hR.1.1 (k + 1) (by omega), pu_pl_r, pq_let, hbr, c1, pq_sb, c2, pq_sb, pq_let, hbb, pq_sb, pq_let, ← hcu, pq_let, hcost, hhf]
    · have hbr : pf_first (pF_0 q) k = pf_first (pF_0 q) (k + 1) := by
        rw [pf_first, if_neg e1]
        split <;> rfl
      rw [if_neg e1]
      unfold jn_X10_first_82_49 jn_X10_first_84_49
      rw [c1, pq_sb, c2, pq_sb, pq_let, hbb, pq_sb, pq_let, ← hcu, pq_let, hcost, hhf, ← hbr]
theorem k_first {m : ev_m} {c0 c1 c2 c3 : Nat} (hI : iv_B m 0 c0 c1 c2 c3) (x y z w : Int32) : kc_ m (fun m => f_X9_first m 0 x y z w) (fun m => f_X10_first m 0 x y z w) := by
  refine k_ready (bad := -1) (A := fun m => (f_X8_sail m 0 (some 8) (some 16) 0 z).bind (fun m3 => (if w = 0 then (f_X8_earliestBeyond m3 0 8999).bind (fun x9 => (some ((x9, m3)))) else if w = 1 then (f_X8_dearest m3 0).bind (fun x8 => (some ((x8, m3)))) else if w = 2 then (f_X8_halfway m3 0).bind (fun x7 => (some ((x7, m3)))) else (some (((-1), m3)))))) (B := fun m => (if (s_X10_in m w 0 2) = true then (f_X10_runBy m 0 1 0 z).bind (fun m5 => (lp_X10_first_49 m5 0 z w 4000 ((-1)) 1 ((-1)) 0 1 (fun x48 x49 x50 => (if w = 0 then (some ((x48, m5))) else (if w = 1 then (some ((x49, m5))) else (some ((x50, m5)))))))) else (some (((-1), m))))) hI (fun n S D hz hn1 hn2 hS hD _ => ?_)
  subst hz
  have hd := pu_run_d S D 0 n
  refine ⟨if w = 0 then pf_first (pF_0 (pu_run S D 0 n)) n else if w = 1 then nI (pd_best S (pu_run S D 0 n) n) else if w = 2 then pf_first (pF_2 S (pu_run S D 0 n)) n else -1, fun m1 t1 => ?_, fun m' m3 hF t3 => ?_⟩
  · obtain ⟨m2, e2, q2, bH, bR, s2, t2, -⟩ := cl_trial (n := n) (seed := 0) t1 hS hD (by omega)
    refine ⟨m2, ?_, t2.2.2⟩
    have a1 := cl_early (w := 8999) q2 (by omega)
    have a2 := cl_dear q2 bH bR hS (t2.1.1 5 (by decide)) s2 (by omega) (by omega)
    have a3 := cl_half q2 bH bR hS (t2.1.1 5 (by decide)) s2 (by omega)
    rw [hd] at a1 a2 a3
    rw [pf_first_c (P' := pF_0 (pu_run S D 0 n)) (fun t => pF_8999 _) n] at a1
    try dsimp only
    rw [e2, pq_sb, a1, pq_sb, a2, pq_sb, a3, pq_sb]
    split
    · rfl
    · split
      · rfl
      · split <;> rfl
  · by_cases hw : s_X10_in m3 w 0 2 = true
    · obtain ⟨m2, e2, r2, t2⟩ := rf_trial (n := n) (seed := 0) t3 hS hD (by omega)
      refine ⟨m2, ?_, t2.2.2⟩
      try dsimp only
      rw [if_pos hw, e2, pq_sb, rf_first_l (S := S) r2 t2.1 (pb_R_run hS 0 n) hd (by omega)]
      obtain ⟨k, -, h2, h3⟩ := in_F (a := 0) (b := 2) (by decide) (by decide) hw
      rcases (show k = 0 ∨ k = 1 ∨ k = 2 by omega) with q | q | q
      · rw [h3, q]; rfl
      · rw [h3, q]; rfl
      · rw [h3, q]; rfl
    · refine ⟨m3, ?_, t3.2.2⟩
      try dsimp only
      rw [if_neg hw, if_neg (fun e => hw (by rw [e]; exact in_y (by decide) (by decide))), if_neg (fun e => hw (by rw [e]; exact in_y (by decide) (by decide))), if_neg (fun e => hw (by rw [e]; exact in_y (by decide) (by decide)))]
/-- LEARNING -/
def pl_1 (c : Int32 → Int64) (far : Int32) : Int32 :=
  if 0 < far then (if far < 99 then (if c (far + 1) < (if c (far - 1) < c far then c (far - 1) else c far) then far + 1 else (if c (far - 1) < c far then far - 1 else far)) else (if c (far - 1) < c far then far - 1 else far)) else (if far < 99 then (if c (far + 1) < c far then far + 1 else far) else far)
def pl_n (c : Int32 → Int64) (far : Int32) : Nat → Int32
  | 0 => far
  | k + 1 => pl_1 c (pl_n c far k)
theorem pL_irr (x : Int64) : ¬ x < x := by rw [fa_lt64]; omega
theorem pl_lt {a b c : Int64} (h : a < b) (h2 : b < c) : a < c := by rw [fa_lt64] at *; omega
theorem k_learning {m : ev_m} {c0 c1 c2 c3 : Nat} (hI : iv_B m 0 c0 c1 c2 c3) (x y z w : Int32) : kc_ m (fun m => f_X9_learning m 0 x y z w) (fun m => f_X10_learning m 0 x y z w) := by
  refine k_ready (bad := -1) (A := fun m => (if w < 0 then (some (((-1), m))) else (if 30 < w then (some (((-1), m))) else ev_let (m.1 4 16 0 : Int32) (fun x5 => (lp_X9_learning_36 0 z w 4000 x5 1 m (fun x15 m16 => (some ((x15, m16))))))))) (B := fun m => (if (s_X10_in m w 0 30) = true then ev_let (m.1 41 0 0 : Int32) (fun x5 => (lp_X10_learning_39 0 z w 4000 x5 0 m (fun x35 m36 => (some ((x35, m36)))))) else (some (((-1), m))))) hI (fun n S D hz hn1 hn2 hS hD _ => ?_)
  subst hz
  by_cases h1 : w < 0
  · refine ⟨-1, fun m1 t1 => ⟨m1, ?_, t1.2.2⟩, fun m' m3 hF t3 => ⟨m3, ?_, t3.2.2⟩⟩
    · try dsimp only
      rw [if_pos h1]
    · try dsimp only
      rw [if_neg (in_n1 h1)]
  · by_cases h2 : 30 < w
    · refine ⟨-1, fun m1 t1 => ⟨m1, ?_, t1.2.2⟩, fun m' m3 hF t3 => ⟨m3, ?_, t3.2.2⟩⟩
      · try dsimp only
        rw [if_neg h1, if_pos h2]
      · try dsimp only
        rw [if_neg (in_n2 h2)]
    · obtain ⟨w0, hw1, hw2, rfl⟩ := in_F (m := m) (a := 0) (b := 30) (by decide) (by decide) (in_y h1 h2)
      obtain ⟨c, hc⟩ : ∃ c : Int32 → Int64, ∀ k, px_C S (upd D 0 k) n = c k := ⟨fun k => px_C S (upd D 0 k) n, fun _ => rfl⟩
      have hok : ∀ v, pu_okD (upd D 0 v) := fun v => hD.put (by omega)
      refine ⟨pl_n c (D 0) w0, fun m1 t1 => ?_, fun m' m3 hF t3 => ?_⟩
      · have hcw : ∀ m' v, (∃ u, tc_ m m' S (upd D 0 u)) → ∃ m'', f_X9_costWith m' 0 0 v (nI n) = some (c v, m'') ∧ ∃ u, tc_ m m'' S (upd D 0 u) := by
          intro m' v ⟨u, hT⟩
          obtain ⟨m'', e, t⟩ := cl_costWith (k := 0) (v := v) (n := n) hT hS (by rw [upd_twice]; exact hok _) (by omega) (by decide)
          rw [upd_twice] at e t
          rw [hc] at e
          exact ⟨m'', e, _, t⟩
        have hl : ∀ m' far, (∃ u, tc_ m m' S (upd D 0 u)) → ∃ m'', f_X9_learnt m' 0 far (nI n) = some (pl_1 c far, m'') ∧ ∃ u, tc_ m m'' S (upd D 0 u) := by
          intro m' far hT
          obtain ⟨ma, ea, ta⟩ := hcw m' far hT
          unfold f_X9_learnt pl_1
          rw [ea, pq_sb, pq_let]
          by_cases g0 : 0 < far
          · obtain ⟨mb, eb, tb⟩ := hcw ma (far - 1) ta
            rw [if_pos g0, if_pos g0, eb, pq_sb, pq_let, pq_let, pq_let]
            by_cases g9 : far < 99
            · obtain ⟨md, ed, td⟩ := hcw mb (far + 1) tb
              rw [if_pos g9, if_pos g9, ed, pq_sb]
              refine ⟨md, ?_, td⟩
              try dsimp only
              by_cases g1 : c (far + 1) < (if c (far - 1) < c far then c (far - 1) else c far)
              · rw [if_pos g1, if_pos g1, pq_let]
              · rw [if_neg g1, if_neg g1]
            · rw [if_neg g9, if_neg g9]
              exact ⟨mb, rfl, tb⟩
          · rw [if_neg g0, if_neg g0]
            unfold jn_X9_learnt_42
            by_cases g9 : far < 99
            · obtain ⟨md, ed, td⟩ := hcw ma (far + 1) ta
              rw [if_pos g9, if_pos g9, ed, pq_sb]
              refine ⟨md, ?_, td⟩
              try dsimp only
              by_cases g1 : c (far + 1) < c far
              · rw [if_pos g1, if_pos g1, pq_let]
              · rw [if_neg g1, if_neg g1]
            · rw [if_neg g9, if_neg g9]
              exact ⟨ma, rfl, ta⟩
        obtain ⟨m4, e4, v4, t4⟩ := lp_mem (L := fun f (a : Int32) i m => lp_X9_learning_36 0 (nI n) (nI w0) f a i m (fun x15 m16 => (some ((x15, m16))))) (kx := fun a m => some (a, m)) (T := fun m' => ∃ v, tc_ m m' S (upd D 0 v)) (N := w0) (g := pl_n c (D 0)) (ix := fun k => nI (k + 1))
          (by
            intro f m'
            rw [lp_X9_learning_36, if_pos (nI_lt (by omega) (by omega))])
          (by
            intro f k m' hk hT
            obtain ⟨m'', e, t⟩ := hl m' (pl_n c (D 0) k) hT
            refine ⟨m'', ?_, t⟩
            rw [lp_X9_learning_36, if_neg (nI_nlt (by omega) (by omega)), e, pq_sb, pq_let, nI_1, pl_n])
          w0 4000 0 m1 (by omega) (by omega) ⟨D 0, by rw [upd_self]; exact t1⟩
        refine ⟨m4, ?_, t4.2.2⟩
        try dsimp only
        rw [if_neg h1, if_neg h2, t1.2.1.1 0 (by decide), pq_let]
        exact e4
      · have hcw : ∀ m4 v, tr_ m' m4 S D → ∃ m'', f_X10_costWith m4 0 0 v (nI n) = some (c v, m'') ∧ tr_ m' m'' S D := by
          intro m4 v hT
          obtain ⟨m'', e, t⟩ := rf_costWith (k := 0) (v := v) (n := n) hT hS (hok _) (by omega) (by decide)
          rw [hc] at e
          exact ⟨m'', e, t⟩
        obtain ⟨m4, e4, t4⟩ := lp_mem (L := fun f (a : Int32) i m => lp_X10_learning_39 0 (nI n) (nI w0) f a i m (fun x15 m16 => (some ((x15, m16))))) (kx := fun a m => some (a, m)) (T := fun m4 => tr_ m' m4 S D) (N := w0) (g := pl_n c (D 0)) (ix := nI)
          (by
            intro f m'
            rw [lp_X10_learning_39, if_neg (nI_nlt (by omega) (by omega))])
          (by
            intro f k m4 hk hT
            obtain ⟨ma, ea, ta⟩ := hcw m4 (pl_n c (D 0) k) hT
            rw [lp_X10_learning_39, if_pos (nI_lt (by omega) (by omega)), ea, pq_sb, pq_let, pl_n]
            generalize pl_n c (D 0) k = far
            unfold pl_1
            by_cases g0 : 0 < far
            · obtain ⟨mb, eb, tb⟩ := hcw ma (far - 1) ta
              rw [if_pos g0, if_pos g0, eb, pq_sb]
              unfold jn_X10_learning_76_39 jn_X10_learning_100_39
              by_cases g9 : far < 99
              · obtain ⟨md, ed, td⟩ := hcw mb (far + 1) tb
                refine ⟨md, ?_, td⟩
                try dsimp only
                rw [if_pos g9, if_pos g9, ed, pq_sb, pq_let, nI_1]
                try dsimp only
                by_cases g1 : c (far - 1) < c far
                · simp only [if_pos g1]
                  by_cases g2 : c (far + 1) < c (far - 1)
                  · simp only [if_pos g2, if_pos (pl_lt g2 g1)]
                  · simp only [if_neg g2]
                · simp only [if_neg g1]
              · refine ⟨mb, ?_, tb⟩
                try dsimp only
                rw [if_neg g9, if_neg g9, pq_let, nI_1]
                by_cases g1 : c (far - 1) < c far
                · simp only [if_pos g1, if_neg (show ¬ c far < c (far - 1) from fun q => pL_irr _ (pl_lt q g1))]
                · simp only [if_neg g1, if_neg (pL_irr (c far))]
            · rw [if_neg g0, if_neg g0]
              unfold jn_X10_learning_76_39 jn_X10_learning_100_39
              by_cases g9 : far < 99
              · obtain ⟨md, ed, td⟩ := hcw ma (far + 1) ta
                refine ⟨md, ?_, td⟩
                try dsimp only
                rw [if_pos g9, if_pos g9, ed, pq_sb, pq_let, nI_1, if_neg (pL_irr (c far))]
              · refine ⟨ma, ?_, ta⟩
                try dsimp only
                rw [if_neg g9, if_neg g9, pq_let, nI_1, if_neg (pL_irr (c far)), if_neg (pL_irr (c far))])
          w0 4000 0 m3 (by omega) (by omega) t3
        refine ⟨m4, ?_, t4.2.2⟩
        try dsimp only
        rw [if_pos (in_y h1 h2), show m3.1 41 0 0 = D 0 from t3.2.1 0 (by decide), pq_let]
        exact e4
