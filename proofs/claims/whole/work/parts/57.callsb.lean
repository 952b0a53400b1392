/-! pure: calls that try many runs -/
theorem pu_okS.put {S : Nat → Int32} {k : Nat} {v : Int32} (h : pu_okS S) (hk : k = 0 ∨ k = 1 ∨ k = 6 ∨ k = 7) : pu_okS (upd S k v) := by
  unfold pu_okS
  rw [pk_un (by omega), pk_un (by omega), pk_un (by omega), pk_un (by omega), pk_un (by omega), pk_un (by omega)]
  exact h
theorem pu_okS.put2 {S : Nat → Int32} {v : Int32} (h : pu_okS S) (h1 : 0 ≤ v.toInt) (h2 : v.toInt ≤ 9) : pu_okS (upd S 2 v) := by
  unfold pu_okS
  rw [pk_us, pk_un (by omega), pk_un (by omega), pk_un (by omega), pk_un (by omega), pk_un (by omega)]
  exact ⟨⟨h1, h2⟩, h.2⟩
theorem pu_okS.put34 {S : Nat → Int32} {k : Nat} {v : Int32} (h : pu_okS S) (hk : k = 3 ∨ k = 4) (h1 : 0 ≤ v.toInt) (h2 : v.toInt ≤ 35) : pu_okS (upd S k v) := by
  unfold pu_okS
  rcases hk with e | e
  · subst e
    rw [pk_un (by omega), pk_us, pk_un (by omega), pk_un (by omega), pk_un (by omega), pk_un (by omega)]
    exact ⟨h.1, ⟨h1, h2⟩, h.2.2⟩
  · subst e
    rw [pk_un (by omega), pk_un (by omega), pk_us, pk_un (by omega), pk_un (by omega), pk_un (by omega)]
    exact ⟨h.1, h.2.1, ⟨h1, h2⟩, h.2.2.2⟩
/-- COARSE -/
def pg_ (c : Nat → Int64) (y : Int64) : Nat → Int32
  | 0 => 1
  | k + 1 => if y < c (k + 2) then pg_ c y k else nI (k + 2)
theorem k_coarse {m : ev_m} {c0 c1 c2 c3 : Nat} (hI : iv_B m 0 c0 c1 c2 c3) (x y z w : Int32) : kc_ m (fun m => f_X9_coarse m 0 x y z w) (fun m => f_X10_coarse m 0 x y z w) := by
  refine k_ready (bad := -1) (A := fun m => (if w < 1 then (some (((-1), m))) else (if 50 < w then (some (((-1), m))) else (f_X9_costWith m 0 4 1 z).bind (fun p5 => ev_let (p5.1 : Int64) (fun y6 => (lp_X9_coarse_40 0 z w y6 4000 1 2 (p5.2) (fun x18 m19 => (some ((x18, m19)))))))))) (B := fun m => (if (s_X10_in m w 1 50) = true then (f_X10_costWith m 0 4 1 z).bind (fun p5 => ev_let (p5.1 : Int64) (fun y6 => (lp_X10_coarse_43 0 z w y6 4000 1 2 (p5.2) (fun x18 m19 => (some ((x18, m19))))))) else (some (((-1), m))))) hI (fun n S D hz hn1 hn2 hS hD _ => ?_)
  subst hz
  by_cases h1 : w < 1
  · refine ⟨-1, fun m1 t1 => ⟨m1, ?_, t1.2.2⟩, fun m' m3 hF t3 => ⟨m3, ?_, t3.2.2⟩⟩
    · try dsimp only
      rw [if_pos h1]
    · try dsimp only
      rw [if_neg (in_n1 h1)]
  · by_cases h2 : 50 < w
    · refine ⟨-1, fun m1 t1 => ⟨m1, ?_, t1.2.2⟩, fun m' m3 hF t3 => ⟨m3, ?_, t3.2.2⟩⟩
      · try dsimp only
        rw [if_neg h1, if_pos h2]
      · try dsimp only
        rw [if_neg (in_n2 h2)]
    · obtain ⟨w0, hw1, hw2, rfl⟩ := in_F (m := m) (a := 1) (b := 50) (by decide) (by decide) (in_y h1 h2)
      have hok : ∀ k, 1 ≤ k → k ≤ 50 → pu_okD (upd D 4 (nI k)) := fun k a b => hD.put4 (by rw [nI_toInt (by omega)]; omega) (by rw [nI_toInt (by omega)]; omega)
      obtain ⟨c, hc⟩ : ∃ c : Nat → Int64, ∀ k, px_C S (upd D 4 (nI k)) n = c k := ⟨fun k => px_C S (upd D 4 (nI k)) n, fun _ => rfl⟩
      refine ⟨pg_ c (c 1) (w0 - 1), fun m1 t1 => ?_, fun m' m3 hF t3 => ?_⟩
      · obtain ⟨m2, e2, t2⟩ := cl_costWith (k := 4) (v := nI 1) (n := n) t1 hS (hok 1 (by decide) (by decide)) (by omega) (by decide)
        rw [hc] at e2
        obtain ⟨m4, e4, v4, t4⟩ := lp_mem (L := fun f (a : Int32) i m => lp_X9_coarse_40 0 (nI n) (nI w0) (c 1) f a i m (fun x18 m19 => (some ((x18, m19))))) (kx := fun a m => some (a, m)) (T := fun m' => ∃ v, tc_ m m' S (upd D 4 v)) (N := w0 - 1) (g := pg_ c (c 1)) (ix := fun k => nI (k + 2))
          (by
            intro f m'
            rw [lp_X9_coarse_40, if_pos (nI_lt (by omega) (by omega))])
          (by
            intro f k m' hk ⟨v, hT⟩
            obtain ⟨m'', e, t⟩ := cl_costWith (k := 4) (v := nI (k + 2)) (n := n) hT hS (by rw [upd_twice]; exact hok _ (by omega) (by omega)) (by omega) (by decide)
            rw [upd_twice] at e t
            rw [hc] at e
            refine ⟨m'', ?_, _, t⟩
            rw [lp_X9_coarse_40, if_neg (nI_nlt (by omega) (by omega)), show (4 : Int32) = nI 4 from rfl, e, pq_sb, pq_let, nI_1, pg_])
          (w0 - 1) 4000 0 m2 (by omega) (by omega) ⟨_, t2⟩
        refine ⟨m4, ?_, t4.2.2⟩
        try dsimp only
        rw [if_neg h1, if_neg h2, show f_X9_costWith m1 0 4 1 (nI n) = _ from e2, pq_sb, pq_let]
        exact e4
      · obtain ⟨m2, e2, t2⟩ := rf_costWith (k := 4) (v := nI 1) (n := n) t3 hS (hok 1 (by decide) (by decide)) (by omega) (by decide)
        rw [hc] at e2
        obtain ⟨m4, e4, t4⟩ := lp_mem (L := fun f (a : Int32) i m => lp_X10_coarse_43 0 (nI n) (nI w0) (c 1) f a i m (fun x18 m19 => (some ((x18, m19))))) (kx := fun a m => some (a, m)) (T := fun m4 => tr_ m' m4 S D) (N := w0 - 1) (g := pg_ c (c 1)) (ix := fun k => nI (k + 2))
          (by
            intro f m'
            rw [lp_X10_coarse_43, if_pos (nI_lt (by omega) (by omega))])
          (by
            intro f k m4 hk hT
            obtain ⟨m'', e, t⟩ := rf_costWith (k := 4) (v := nI (k + 2)) (n := n) hT hS (hok _ (by omega) (by omega)) (by omega) (by decide)
            rw [hc] at e
            refine ⟨m'', ?_, t⟩
            rw [lp_X10_coarse_43, if_neg (nI_nlt (by omega) (by omega)), show (4 : Int32) = nI 4 from rfl, e, pq_sb, pq_let, nI_1, pg_])
          (w0 - 1) 4000 0 m2 (by omega) (by omega) t2
        refine ⟨m4, ?_, t4.2.2⟩
        try dsimp only
        rw [if_pos (in_y h1 h2), show f_X10_costWith m3 0 4 1 (nI n) = _ from e2, pq_sb, pq_let]
        exact e4
/-- SET -/
theorem ix50 (k : Nat) : nI k + (-50) + 1 = nI (k + 1) + (-50) := by
  rw [Int32.add_assoc, Int32.add_comm (-50) 1, ← Int32.add_assoc, nI_1]
theorem ix50_i {k : Nat} (hk : k < 1000) : (nI k + (-50)).toInt = k - 50 := by
  rw [fb_addI (by rw [nI_toInt (by omega), show ((-50 : Int32)).toInt = -50 from rfl]; omega) (by rw [nI_toInt (by omega), show ((-50 : Int32)).toInt = -50 from rfl]; omega), nI_toInt (by omega), show ((-50 : Int32)).toInt = -50 from rfl]
  omega
def px_D (S D : Nat → Int32) (n : Nat) : Int64 := if pa_dri (pu_run S D 0 n).1 n < 0 then -(pa_dri (pu_run S D 0 n).1 n) else pa_dri (pu_run S D 0 n).1 n
theorem pa_dri_b {q : pu_Q} (hH : pb_H q) : ∀ k, k ≤ q.2.2.2.2.1 → k ≤ 1000 → -(18000 * k) ≤ (pa_dri q.1 k).toInt ∧ (pa_dri q.1 k).toInt ≤ 18000 * k
  | 0, _, _ => by
    show -(18000 * ((0 : Nat) : Int)) ≤ (0 : Int64).toInt ∧ (0 : Int64).toInt ≤ _
    rw [show (0 : Int64).toInt = 0 from rfl]
    omega
  | k + 1, h, h2 => by
    have a := pa_dri_b hH k (by omega) (by omega)
    have b := hH (k + 1) (by omega)
    rw [pa_dri, fb_addL (by rw [Int32.toInt_toInt64]; omega) (by rw [Int32.toInt_toInt64]; omega), Int32.toInt_toInt64]
    omega
theorem fb_negL {x : Int64} (h : -9223372036854775808 < x.toInt) : (-x).toInt = -x.toInt := by
  have h2 := fb_rngL x
  rw [← Int64.zero_sub, fb_subL (by rw [show (0 : Int64).toInt = 0 from rfl]; omega) (by rw [show (0 : Int64).toInt = 0 from rfl]; omega), show (0 : Int64).toInt = 0 from rfl]
  omega
theorem px_D_b {S D : Nat → Int32} (hS : pu_okS S) {n : Nat} (hn : n ≤ 400) : 0 ≤ (px_D S D n).toInt ∧ (px_D S D n).toInt ≤ 100000000 := by
  have a := pa_dri_b (pb_H_run (D := D) hS 0 n) n (by rw [pu_run_d]; exact Nat.le_refl _) (by omega)
  unfold px_D
  split
  · next h =>
    rw [fa_lt64, show (0 : Int64).toInt = 0 from rfl] at h
    rw [fb_negL (by omega)]
    omega
  · next h =>
    rw [fa_lt64, show (0 : Int64).toInt = 0 from rfl] at h
    omega
theorem px_D_c (x : Int64) : (if 0 < x then x else -x) = (if x < 0 then -x else x) := by
  by_cases h : x < 0
  · rw [if_pos h, if_neg (by rw [fa_lt64]; rw [fa_lt64] at h; omega)]
  · rw [if_neg h]
    by_cases h2 : 0 < x
    · rw [if_pos h2]
    · have e : x = 0 := by
        rw [fa_lt64] at h h2
        rw [fa_eq64]
        omega
      rw [if_neg h2, e]
      rfl
theorem k_set {m : ev_m} {c0 c1 c2 c3 : Nat} (hI : iv_B m 0 c0 c1 c2 c3) (x y z : Int32) : kc_ m (fun m => f_X9_set m 0 x y z) (fun m => f_X10_set m 0 x y z) := by
  refine k_ready (bad := -100000) (A := fun m => ev_let (m.1 3 8 6 : Int32) (fun x3 => (lp_X9_set_35 0 z x3 4000 ((-100000)) 9223372036854775807 ((-50)) m (fun x19 m20 => (some ((x19, m20))))))) (B := fun m => ev_let (m.1 40 0 6 : Int32) (fun x4 => (lp_X10_set_39 0 z x4 4000 0 ((-1)) ((-50)) m (fun x21 m22 => (some ((x21, m22))))))) hI (fun n S D hz hn1 hn2 hS hD _ => ?_)
  subst hz
  obtain ⟨c, hc⟩ : ∃ c : Nat → Int64, ∀ k, px_D (upd S 6 (S 6 + (nI k + (-50)))) D n = c k := ⟨fun k => px_D (upd S 6 (S 6 + (nI k + (-50)))) D n, fun _ => rfl⟩
  have hok : ∀ v, pu_okS (upd S 6 v) := fun v => hS.put (by omega)
  have hcm : ∀ j, c j < 9223372036854775807 := fun j => by rw [← hc]; exact pL_max (px_D_b (hok _) (by omega)).2
  have hcz : ∀ j, ¬ c j < 0 := fun j => by rw [← hc]; exact pL_min (px_D_b (hok _) (by omega)).1
  have h51 : ∀ k, k < 101 → ¬ 50 < nI k + (-50) := fun k hk => by rw [fa_lt, ix50_i (by omega), show (50 : Int32).toInt = 50 from rfl]; omega
  have h52 : 50 < nI 101 + (-50) := by rw [fa_lt, ix50_i (by omega), show (50 : Int32).toInt = 50 from rfl]; omega
  have e0 : ((-50) : Int32) = nI 0 + (-50) := by rw [nI_0, Int32.zero_add]
  refine ⟨(pm_s c 0 (-1) (fun k => nI k + (-50)) 101).1, fun m1 t1 => ?_, fun m' m3 hF t3 => ?_⟩
  · obtain ⟨m2, e2, v2, t2⟩ := lp_mem (L := fun f (a : Int32 × Int64) i m => lp_X9_set_35 0 (nI n) (S 6) f a.1 a.2 i m (fun x19 m20 => (some ((x19, m20))))) (kx := fun a m => some (a.1, m)) (T := fun m' => ∃ v, tc_ m m' (upd S 6 v) D) (N := 101) (g := pm_s c (-100000) 9223372036854775807 (fun k => nI k + (-50))) (ix := fun k => nI k + (-50))
      (by
        intro f m'
        rw [lp_X9_set_35, if_pos h52])
      (by
        intro f k m' hk ⟨v, hT⟩
        have hT2 := hT.putS (k := 6) (v := S 6 + (nI k + (-50))) (by decide)
        rw [upd_twice] at hT2
        obtain ⟨m'', e, q'', -, -, -, t, -⟩ := cl_trial (n := n) (seed := 0) hT2 (hok _) hD (by omega)
        refine ⟨m'', ?_, _, t⟩
        have hd := pu_run_d (upd S 6 (S 6 + (nI k + (-50)))) D 0 n
        have hdr := cl_drift q'' (by omega)
        rw [hd] at hdr
        have hcv : (if 0 < pa_dri (pu_run (upd S 6 (S 6 + (nI k + (-50)))) D 0 n).1 n then pa_dri (pu_run (upd S 6 (S 6 + (nI k + (-50)))) D 0 n).1 n else -pa_dri (pu_run (upd S 6 (S 6 + (nI k + (-50)))) D 0 n).1 n) = c k := by rw [px_D_c, ← hc]; rfl
        rw [lp_X9_set_35, if_neg (h51 k hk), pq_let, e, pq_sb, hdr, pq_sb, hcv, pq_let, pq_let, pq_let, ix50]
        try dsimp only
        rw [pm_c1 (v := fun k => nI k + (-50)) (hcm k), pm_c2 (v := fun k => nI k + (-50)) (hcm k)])
      101 4000 0 m1 (by decide) (by decide) ⟨S 6, by rw [upd_self]; exact t1⟩
    refine ⟨m2, ?_, t2.2.2⟩
    try dsimp only
    rw [t1.1.1 6 (by decide), pq_let]
    rw [← e0] at e2
    refine Eq.trans e2 ?_
    rw [pm_e (k := 101) (b1 := 0) (y1 := -1) (by decide)]
  · obtain ⟨m2, e2, v2, t2⟩ := lp_mem (L := fun f (a : Int32 × Int64) i m => lp_X10_set_39 0 (nI n) (S 6) f a.1 a.2 i m (fun x19 m20 => (some ((x19, m20))))) (kx := fun a m => some (a.1, m)) (T := fun m4 => ∃ v, tr_ m' m4 (upd S 6 v) D) (N := 101) (g := pm_s c 0 (-1) (fun k => nI k + (-50))) (ix := fun k => nI k + (-50))
      (by
        intro f m'
        rw [lp_X10_set_39, if_pos h52])
      (by
        intro f k m4 hk ⟨v, hT⟩
        have hT2 := hT.putS (k := 6) (v := S 6 + (nI k + (-50)))
        rw [upd_twice] at hT2
        obtain ⟨m'', e, r'', t⟩ := rf_trial (n := n) (seed := 0) hT2 (hok _) hD (by omega)
        refine ⟨m'', ?_, _, t⟩
        have hd := pu_run_d (upd S 6 (S 6 + (nI k + (-50)))) D 0 n
        have hdr := r''.2.1.2.2.2.1
        rw [hd] at hdr
        have hcv : (if pa_dri (pu_run (upd S 6 (S 6 + (nI k + (-50)))) D 0 n).1 n < 0 then -pa_dri (pu_run (upd S 6 (S 6 + (nI k + (-50)))) D 0 n).1 n else pa_dri (pu_run (upd S 6 (S 6 + (nI k + (-50)))) D 0 n).1 n) = c k := hc k
        rw [lp_X10_set_39, if_neg (h51 k hk), pq_let, e, pq_sb, hdr, hcv, pq_let, pq_let, pq_let, ix50]
        try dsimp only
        rw [pm_z1 (v := fun k => nI k + (-50)) hcz, pm_z2 (v := fun k => nI k + (-50)) hcz])
      101 4000 0 m3 (by decide) (by decide) ⟨S 6, by rw [upd_self]; exact t3⟩
    refine ⟨m2, ?_, t2.2.2⟩
    try dsimp only
    rw [t3.1 6 (by decide), pq_let]
    rw [← e0] at e2
    exact e2
/-- SLIPPED -/
def ps_ (c : Nat → Int64) : Nat → Int64
  | 0 => 0
  | k + 1 => ps_ c k + c k
theorem k_slipped {m : ev_m} {c0 c1 c2 c3 : Nat} (hI : iv_B m 0 c0 c1 c2 c3) (x y sd w z b : Int32) : kc_ m (fun m => f_X9_slipped m 0 x y sd w z b) (fun m => f_X10_slipped m 0 x y sd w z b) := by
  refine k_ready (bad := -100000) (A := fun m => (if w < 1 then (some (((-100000), m))) else (if 20 < w then (some (((-100000), m))) else (lp_X9_slipped_42 0 sd w z b 4000 sd 9223372036854775807 0 0 m (fun x22 y23 m24 => (if b = 0 then (some ((y23, m24))) else (some ((x22.toInt64, m24))))))))) (B := fun m => (if (s_X10_in m w 1 20) = true then (lp_X10_slipped_45 0 sd w z b 4000 0 sd ((-1)) 0 m (fun y22 x23 m24 => (if b = 0 then (some ((y22, m24))) else (some ((x23.toInt64, m24)))))) else (some (((-100000), m))))) hI (fun n S D hz hn1 hn2 hS hD _ => ?_)
  subst hz
  by_cases h1 : w < 1
  · refine ⟨-100000, fun m1 t1 => ⟨m1, ?_, t1.2.2⟩, fun m' m3 hF t3 => ⟨m3, ?_, t3.2.2⟩⟩
    · try dsimp only
      rw [if_pos h1]
    · try dsimp only
      rw [if_neg (in_n1 h1)]
  · by_cases h2 : 20 < w
    · refine ⟨-100000, fun m1 t1 => ⟨m1, ?_, t1.2.2⟩, fun m' m3 hF t3 => ⟨m3, ?_, t3.2.2⟩⟩
      · try dsimp only
        rw [if_neg h1, if_pos h2]
      · try dsimp only
        rw [if_neg (in_n2 h2)]
    · obtain ⟨w0, hw1, hw2, rfl⟩ := in_F (m := m) (a := 1) (b := 20) (by decide) (by decide) (in_y h1 h2)
      obtain ⟨c, hc⟩ : ∃ c : Nat → Int64, ∀ k, pc_cost S (pu_run S D (sd + nI k) n) = c k := ⟨fun k => pc_cost S (pu_run S D (sd + nI k) n), fun _ => rfl⟩
      have hcm : ∀ j, c j < 9223372036854775807 := fun j => by rw [← hc]; exact pL_max (pc_run_b hS _ (by omega)).2
      have hcz : ∀ j, ¬ c j < 0 := fun j => by rw [← hc]; exact pL_min (pc_run_b hS _ (by omega)).1
      refine ⟨if b = 0 then ps_ c w0 else (pm_s c sd (-1) (fun k => sd + nI k) w0).1.toInt64, fun m1 t1 => ?_, fun m' m3 hF t3 => ?_⟩
      · obtain ⟨m4, e4, t4⟩ := lp_mem (L := fun f (a : (Int32 × Int64) × Int64) i m => lp_X9_slipped_42 0 sd (nI w0) (nI n) b f a.1.1 a.1.2 a.2 i m (fun x22 y23 m24 => (if b = 0 then (some ((y23, m24))) else (some ((x22.toInt64, m24)))))) (kx := fun a m => if b = 0 then (some ((a.2, m))) else (some ((a.1.1.toInt64, m)))) (T := fun m' => tc_ m m' S D) (N := w0) (g := fun k => (pm_s c sd 9223372036854775807 (fun k => sd + nI k) k, ps_ c k)) (ix := nI)
          (by
            intro f m'
            rw [lp_X9_slipped_42, if_neg (nI_nlt (by omega) (by omega))])
          (by
            intro f k m' hk hT
            obtain ⟨m'', e, -, -, -, -, t, hcs⟩ := cl_trial (n := n) (seed := sd + nI k) hT hS hD (by omega)
            rw [hc] at hcs
            refine ⟨m'', ?_, t⟩
            rw [lp_X9_slipped_42, if_pos (nI_lt (by omega) (by omega)), e, pq_sb, hcs, pq_sb, pq_let, pq_let, pq_let, nI_1]
            try dsimp only
            rw [pm_c1 (v := fun k => sd + nI k) (hcm k), pm_c2 (v := fun k => sd + nI k) (hcm k), ps_])
          w0 4000 0 m1 (by omega) (by omega) t1
        refine ⟨m4, ?_, t4.2.2⟩
        try dsimp only
        rw [if_neg h1, if_neg h2]
        refine Eq.trans e4 ?_
        rw [pm_e (k := w0) (b1 := sd) (y1 := -1) (by omega)]
        split <;> rfl
      · obtain ⟨m4, e4, t4⟩ := lp_mem (L := fun f (a : (Int32 × Int64) × Int64) i m => lp_X10_slipped_45 0 sd (nI w0) (nI n) b f a.2 a.1.1 a.1.2 i m (fun y22 x23 m24 => (if b = 0 then (some ((y22, m24))) else (some ((x23.toInt64, m24)))))) (kx := fun a m => if b = 0 then (some ((a.2, m))) else (some ((a.1.1.toInt64, m)))) (T := fun m4 => tr_ m' m4 S D) (N := w0) (g := fun k => (pm_s c sd (-1) (fun k => sd + nI k) k, ps_ c k)) (ix := nI)
          (by
            intro f m'
            rw [lp_X10_slipped_45, if_neg (nI_nlt (by omega) (by omega))])
          (by
            intro f k m4 hk hT
            obtain ⟨m'', e, r'', t⟩ := rf_trial (n := n) (seed := sd + nI k) hT hS hD (by omega)
            have hcs := rf_cost r'' t.1
            rw [hc] at hcs
            refine ⟨m'', ?_, t⟩
            rw [lp_X10_slipped_45, if_pos (nI_lt (by omega) (by omega)), e, pq_sb, hcs, pq_let, pq_let, pq_let, nI_1]
            try dsimp only
            rw [pm_z1 (v := fun k => sd + nI k) hcz, pm_z2 (v := fun k => sd + nI k) hcz, ps_])
          w0 4000 0 m3 (by omega) (by omega) t3
        refine ⟨m4, ?_, t4.2.2⟩
        try dsimp only
        rw [if_pos (in_y h1 h2)]
        refine Eq.trans e4 ?_
        split <;> rfl
