/-! pure: three tries, bounds, clouds, the line -/
theorem tri_0 (mid st : Int32) : mid + (nI 0 + (-1)) * st = mid - st := by
  rw [nI_0, Int32.zero_add, Int32.neg_mul, Int32.one_mul, ← Int32.sub_eq_add_neg]
/-- THREE TRIES: one of them -/
def pt_3 (c : Int32 → Int64) (mid st : Int32) : Int32 := mid + (nI (pm_ (fun k => c (mid + (nI k + (-1)) * st)) 2) + (-1)) * st
theorem cl_three {m0 m : ev_m} {S D : Nat → Int32} {n : Nat} {c : Int32 → Int64} (hcm : ∀ j, c j < 9223372036854775807) (hcw : ∀ m' v, (∃ u, tc_ m0 m' S (upd D 0 u)) → ∃ m'', f_X9_costWith m' 0 0 v (nI n) = some (c v, m'') ∧ ∃ u, tc_ m0 m'' S (upd D 0 u)) (mid st : Int32) (hT : ∃ u, tc_ m0 m S (upd D 0 u)) : ∃ m', f_X9_leastOfThree m 0 mid st (nI n) = some (pt_3 c mid st, m') ∧ ∃ u, tc_ m0 m' S (upd D 0 u) := by
  obtain ⟨m4, e4, t4⟩ := lp_mem (L := fun f (a : Int32 × Int64) i m => lp_X9_leastOfThree_11 0 mid st (nI n) f a.1 a.2 i m (fun x15 m16 => (some ((x15, m16))))) (kx := fun a m => some (a.1, m)) (T := fun m' => ∃ v, tc_ m0 m' S (upd D 0 v)) (N := 3) (g := pm_s (fun k => c (mid + (nI k + (-1)) * st)) mid 9223372036854775807 (fun k => mid + (nI k + (-1)) * st)) (ix := fun k => nI k + (-1))
    (by
      intro f m'
      rw [lp_X9_leastOfThree_11, if_pos (by decide)])
    (by
      intro f k m' hk hT
      obtain ⟨m'', e, t⟩ := hcw m' (mid + (nI k + (-1)) * st) hT
      refine ⟨m'', ?_, t⟩
      have hix : ¬ 1 < nI k + (-1) := by
        rcases (show k = 0 ∨ k = 1 ∨ k = 2 by omega) with q | q | q <;> subst q <;> decide
      have hnx : nI k + (-1) + 1 = nI (k + 1) + (-1) := by rw [Int32.add_assoc, Int32.add_comm (-1) 1, ← Int32.add_assoc, nI_1]
      rw [lp_X9_leastOfThree_11, if_neg hix, e, pq_sb, pq_let, pq_let, pq_let, hnx]
      try dsimp only
      rw [pm_c1 (c := fun k => c (mid + (nI k + (-1)) * st)) (v := fun k => mid + (nI k + (-1)) * st) (hcm _), pm_c2 (c := fun k => c (mid + (nI k + (-1)) * st)) (v := fun k => mid + (nI k + (-1)) * st) (hcm _)])
    3 4000 0 m (by decide) (by decide) hT
  exact ⟨m4, e4, t4⟩
theorem rf_three {m0 m : ev_m} {S D : Nat → Int32} {n : Nat} {c : Int32 → Int64} (hcm : ∀ j, c j < 9223372036854775807) (hcw : ∀ m4 v, tr_ m0 m4 S D → ∃ m'', f_X10_costWith m4 0 0 v (nI n) = some (c v, m'') ∧ tr_ m0 m'' S D) (mid st : Int32) (hT : tr_ m0 m S D) : ∃ m', f_X10_third m 0 mid st (nI n) = some (pt_3 c mid st, m') ∧ tr_ m0 m' S D := by
  obtain ⟨ma, ea, ta⟩ := hcw m (mid - st) hT
  have e1 : pm_s (fun k => c (mid + (nI k + (-1)) * st)) mid 9223372036854775807 (fun k => mid + (nI k + (-1)) * st) 1 = (mid - st, c (mid - st)) := by
    unfold pm_s
    rw [if_neg (by decide)]
    show (mid + (nI 0 + (-1)) * st, c (mid + (nI 0 + (-1)) * st)) = _
    rw [tri_0]
  obtain ⟨m4, e4, t4⟩ := lp_mem (L := fun f (a : Int32 × Int64) i m => lp_X10_third_18 0 mid st (nI n) f a.1 a.2 i m (fun x15 m16 => (some ((x15, m16))))) (kx := fun a m => some (a.1, m)) (T := fun m' => tr_ m0 m' S D) (N := 2) (g := fun k => pm_s (fun k => c (mid + (nI k + (-1)) * st)) mid 9223372036854775807 (fun k => mid + (nI k + (-1)) * st) (k + 1)) (ix := nI)
    (by
      intro f m'
      rw [lp_X10_third_18, if_pos (by decide)])
    (by
      intro f k m' hk hT
      obtain ⟨m'', e, t⟩ := hcw m' (mid + nI k * st) hT
      refine ⟨m'', ?_, t⟩
      have hix : ¬ 1 < nI k := nI_nlt (b := k) (a := 1) (by omega) (by decide)
      have hv : mid + nI k * st = mid + (nI (k + 1) + (-1)) * st := by rw [pk_m1]
      rw [lp_X10_third_18, if_neg hix, e, pq_sb, pq_let, pq_let, pq_let, nI_1, hv]
      try dsimp only
      rw [pm_c1 (c := fun k => c (mid + (nI k + (-1)) * st)) (v := fun k => mid + (nI k + (-1)) * st) (hcm _), pm_c2 (c := fun k => c (mid + (nI k + (-1)) * st)) (v := fun k => mid + (nI k + (-1)) * st) (hcm _)])
    2 4000 0 ma (by decide) (by decide) ta
  refine ⟨m4, ?_, t4⟩
  unfold f_X10_third
  rw [pq_let, ea, pq_sb, pq_let]
  try dsimp only at e4
  rw [e1] at e4
  exact e4
theorem k_tries {m : ev_m} {c0 c1 c2 c3 : Nat} (hI : iv_B m 0 c0 c1 c2 c3) (x y z b : Int32) : kc_ m (fun m => f_X9_tries m 0 x y z b) (fun m => f_X10_tries m 0 x y z b) := by
  refine k_ready (bad := -1) (A := fun m => (f_X9_leastOfThree m 0 32 16 z).bind (fun p3 => ev_let (p3.1 : Int32) (fun x4 => (f_X9_leastOfThree p3.2 0 x4 8 z).bind (fun p5 => ev_let (p5.1 : Int32) (fun x6 => (f_X9_leastOfThree p5.2 0 x6 4 z).bind (fun p7 => ev_let (p7.1 : Int32) (fun x8 => (if b = 0 then (some ((x8.toInt64, p7.2))) else (lp_X9_tries_63 0 z x8 4000 9223372036854775807 0 (p7.2) (fun y19 m20 => (f_X9_costWith m20 0 0 x8 z).bind (fun p21 => (some ((p21.1 - y19, p21.2)))))))))))))) (B := fun m => (f_X10_third m 0 32 16 z).bind (fun p4 => (f_X10_third p4.2 0 p4.1 8 z).bind (fun p5 => (f_X10_third p5.2 0 p5.1 4 z).bind (fun p6 => ev_let (p6.1 : Int32) (fun x7 => (if b = 0 then (some ((x7.toInt64, p6.2))) else (f_X10_costWith p6.2 0 0 0 z).bind (fun p9 => ev_let (p9.1 : Int64) (fun y10 => (lp_X10_tries_64 0 z x7 4000 y10 1 (p9.2) (fun y22 m23 => (f_X10_costWith m23 0 0 x7 z).bind (fun p24 => (some ((p24.1 - y22, p24.2)))))))))))))) hI (fun n S D hz hn1 hn2 hS hD _ => ?_)
  subst hz
  obtain ⟨c, hc⟩ : ∃ c : Int32 → Int64, ∀ k, px_C S (upd D 0 k) n = c k := ⟨fun k => px_C S (upd D 0 k) n, fun _ => rfl⟩
  have hok : ∀ v, pu_okD (upd D 0 v) := fun v => hD.put (by omega)
  have hcm : ∀ j, c j < 9223372036854775807 := fun j => by rw [← hc]; exact px_C_max hS (by omega)
  refine ⟨if b = 0 then (pt_3 c (pt_3 c (pt_3 c 32 16) 8) 4).toInt64 else c (pt_3 c (pt_3 c (pt_3 c 32 16) 8) 4) - c (nI (pm_ (fun k => c (nI k)) 63)), fun m1 t1 => ?_, fun m' m3 hF t3 => ?_⟩
  · have hcw : ∀ m' v, (∃ u, tc_ m m' S (upd D 0 u)) → ∃ m'', f_X9_costWith m' 0 0 v (nI n) = some (c v, m'') ∧ ∃ u, tc_ m m'' S (upd D 0 u) := by
      intro m' v ⟨u, hT⟩
      obtain ⟨m'', e, t⟩ := cl_costWith (k := 0) (v := v) (n := n) hT hS (by rw [upd_twice]; exact hok _) (by omega) (by decide)
      rw [upd_twice] at e t
      rw [hc] at e
      exact ⟨m'', e, _, t⟩
    obtain ⟨ma, ea, ta⟩ := cl_three hcm hcw 32 16 ⟨D 0, by rw [upd_self]; exact t1⟩
    obtain ⟨mb, eb, tb⟩ := cl_three hcm hcw (pt_3 c 32 16) 8 ta
    obtain ⟨md, ed, td⟩ := cl_three hcm hcw (pt_3 c (pt_3 c 32 16) 8) 4 tb
    by_cases hb : b = 0
    · obtain ⟨u, td⟩ := td
      refine ⟨md, ?_, td.2.2⟩
      try dsimp only
      rw [ea, pq_sb, pq_let, eb, pq_sb, pq_let, ed, pq_sb, pq_let, if_pos hb, if_pos hb]
    · obtain ⟨m4, e4, t4⟩ := lp_mem (L := fun f (a : Int32 × Int64) i m => lp_X9_tries_63 0 (nI n) (pt_3 c (pt_3 c (pt_3 c 32 16) 8) 4) f a.2 i m (fun y19 m20 => (f_X9_costWith m20 0 0 (pt_3 c (pt_3 c (pt_3 c 32 16) 8) 4) (nI n)).bind (fun p21 => (some ((p21.1 - y19, p21.2)))))) (kx := fun a m20 => (f_X9_costWith m20 0 0 (pt_3 c (pt_3 c (pt_3 c 32 16) 8) 4) (nI n)).bind (fun p21 => (some ((p21.1 - a.2, p21.2))))) (T := fun m' => ∃ v, tc_ m m' S (upd D 0 v)) (N := 64) (g := pm_s (fun k => c (nI k)) 0 9223372036854775807 nI) (ix := nI)
        (by
          intro f m'
          rw [lp_X9_tries_63, if_pos (by decide)])
        (by
          intro f k m' hk hT
          obtain ⟨m'', e, t⟩ := hcw m' (nI k) hT
          refine ⟨m'', ?_, t⟩
          rw [lp_X9_tries_63, if_neg (show ¬ 63 < nI k from nI_nlt (a := 63) (by omega) (by decide)), e, pq_sb, pq_let, nI_1]
          try dsimp only
          rw [pm_c2 (c := fun k => c (nI k)) (v := nI) (hcm _)])
        64 4000 0 md (by decide) (by decide) td
      obtain ⟨m5, e5, u, t5⟩ := hcw m4 (pt_3 c (pt_3 c (pt_3 c 32 16) 8) 4) t4
      refine ⟨m5, ?_, t5.2.2⟩
      try dsimp only
      rw [ea, pq_sb, pq_let, eb, pq_sb, pq_let, ed, pq_sb, pq_let, if_neg hb, if_neg hb]
      refine Eq.trans e4 ?_
      try dsimp only
      rw [e5, pq_sb]
      rfl
  · have hcw : ∀ m4 v, tr_ m' m4 S D → ∃ m'', f_X10_costWith m4 0 0 v (nI n) = some (c v, m'') ∧ tr_ m' m'' S D := by
      intro m4 v hT
      obtain ⟨m'', e, t⟩ := rf_costWith (k := 0) (v := v) (n := n) hT hS (hok _) (by omega) (by decide)
      rw [hc] at e
      exact ⟨m'', e, t⟩
    obtain ⟨ma, ea, ta⟩ := rf_three hcm hcw 32 16 t3
    obtain ⟨mb, eb, tb⟩ := rf_three hcm hcw (pt_3 c 32 16) 8 ta
    obtain ⟨md, ed, td⟩ := rf_three hcm hcw (pt_3 c (pt_3 c 32 16) 8) 4 tb
    by_cases hb : b = 0
    · refine ⟨md, ?_, td.2.2⟩
      try dsimp only
      rw [ea, pq_sb, eb, pq_sb, ed, pq_sb, pq_let, if_pos hb, if_pos hb]
    · obtain ⟨me, ee, te⟩ := hcw md 0 td
      obtain ⟨m4, e4, t4⟩ := lp_mem (L := fun f (a : Int32 × Int64) i m => lp_X10_tries_64 0 (nI n) (pt_3 c (pt_3 c (pt_3 c 32 16) 8) 4) f a.2 i m (fun y19 m20 => (f_X10_costWith m20 0 0 (pt_3 c (pt_3 c (pt_3 c 32 16) 8) 4) (nI n)).bind (fun p21 => (some ((p21.1 - y19, p21.2)))))) (kx := fun a m20 => (f_X10_costWith m20 0 0 (pt_3 c (pt_3 c (pt_3 c 32 16) 8) 4) (nI n)).bind (fun p21 => (some ((p21.1 - a.2, p21.2))))) (T := fun m4 => tr_ m' m4 S D) (N := 63) (g := fun k => pm_s (fun k => c (nI k)) 0 9223372036854775807 nI (k + 1)) (ix := fun k => nI (k + 1))
        (by
          intro f m'
          rw [lp_X10_tries_64, if_pos (by decide)])
        (by
          intro f k m' hk hT
          obtain ⟨m'', e, t⟩ := hcw m' (nI (k + 1)) hT
          refine ⟨m'', ?_, t⟩
          rw [lp_X10_tries_64, if_neg (show ¬ 63 < nI (k + 1) from nI_nlt (a := 63) (by omega) (by decide)), e, pq_sb, pq_let, pq_let, nI_1]
          try dsimp only
          rw [pm_c2 (c := fun k => c (nI k)) (v := nI) (hcm _)])
        63 4000 0 me (by decide) (by decide) te
      obtain ⟨m5, e5, t5⟩ := hcw m4 (pt_3 c (pt_3 c (pt_3 c 32 16) 8) 4) t4
      refine ⟨m5, ?_, t5.2.2⟩
      try dsimp only
      rw [ea, pq_sb, eb, pq_sb, ed, pq_sb, pq_let, if_neg hb, if_neg hb, ee, pq_sb, pq_let]
      refine Eq.trans e4 ?_
      try dsimp only
      rw [e5, pq_sb]
      rfl
/-- how wide -/
def px_W (S D : Nat → Int32) (n : Nat) : Int32 := pa_wid (pu_run S D 0 n).1 n
theorem cl_wide {m0 m : ev_m} {S D : Nat → Int32} {n : Nat} (h : tc_ m0 m S D) (hS : pu_okS S) (hD : pu_okD D) (hn : n ≤ 400) : ∃ m', f_X9_trialWidest m 0 (nI n) = some ((px_W S D n).toInt64, m') ∧ tc_ m0 m' S D := by
  obtain ⟨m', e, q, -, -, -, ht, -⟩ := cl_trial (seed := 0) h hS hD hn
  have hd := pu_run_d S D 0 n
  have hw := cl_widest q (by omega)
  rw [hd] at hw
  unfold f_X9_trialWidest
  rw [e, pq_sb, hw, pq_sb]
  exact ⟨m', rfl, ht⟩
theorem rf_wide {m0 m : ev_m} {S D : Nat → Int32} {n : Nat} (h : tr_ m0 m S D) (hS : pu_okS S) (hD : pu_okD D) (hn : n ≤ 400) : ∃ m', f_X10_runBy m 0 1 0 (nI n) = some m' ∧ m'.1 10 0 36 = px_W S D n ∧ tr_ m0 m' S D := by
  obtain ⟨m', e, r, ht⟩ := rf_trial (seed := 0) h hS hD hn
  have hd := pu_run_d S D 0 n
  have hw := r.2.1.2.2.1
  rw [hd] at hw
  exact ⟨m', e, hw, ht⟩
/-- from the lowest on: the last that p takes -/
theorem pz_dn_s (p : Nat → Bool) (k : Nat) : pz_dn p (k + 1) = if p k = true then nI k else pz_dn p k := rfl
/-- BOUND -/
theorem pz_up_s (p : Nat → Bool) (k n : Nat) : pz_up p k (n + 1) = if p k = true then nI k else pz_up p (k + 1) n := rfl
theorem dec_lt {w v : Int32} : (!decide (w < v)) = true ↔ ¬ w < v := by
  by_cases h : w < v
  · rw [decide_eq_true h]
    exact ⟨fun q => Bool.noConfusion q, fun q => absurd h q⟩
  · rw [decide_eq_false h]
    exact ⟨fun _ => h, fun _ => rfl⟩
theorem ite_dec {α : Type} {w v : Int32} (a b : α) : (if (!decide (w < v)) = true then a else b) = (if w < v then b else a) := by
  by_cases h : w < v
  · rw [if_pos h, if_neg (fun q => dec_lt.mp q h)]
  · rw [if_neg h, if_pos (dec_lt.mpr h)]
theorem cl_deadest {m0 m : ev_m} {S D : Nat → Int32} {n : Nat} {w : Int32} (h : tc_ m0 m S D) (hS : pu_okS S) (hD : pu_okD D) (hn : n ≤ 400) : ∃ m', f_X9_deadest m 0 (nI n) w = some (pz_dn (fun k => !decide (w < px_W S (upd D 3 (nI k)) n)) 100, m') ∧ ∃ v, tc_ m0 m' S (upd D 3 v) := by
  have := lp_dn (L := fun f x m => lp_X9_deadest_3 0 (nI n) w f x m (fun m10 => (some (((-1), m10))))) (T := fun m' => ∃ v, tc_ m0 m' S (upd D 3 v)) (p := fun k => !decide (w < px_W S (upd D 3 (nI k)) n)) (N := 100)
    (by
      intro f m' hT
      refine ⟨m', ?_, hT⟩
      rw [lp_X9_deadest_3, if_pos (by decide)])
    (by
      intro f k m' hk ⟨v, hT⟩
      have hT2 := hT.writeD (k := 3) (v := nI k) (by decide)
      rw [upd_twice] at hT2
      obtain ⟨m'', e, t⟩ := cl_wide (n := n) hT2 hS (hD.put3 (by rw [nI_toInt (by omega)]; omega) (by rw [nI_toInt (by omega)]; omega)) hn
      refine ⟨m'', ?_, _, t⟩
      rw [lp_X9_deadest_3, if_neg (nI_pos (by omega)), pq_let, show (3 : Int32) = nI 3 from rfl, e, pq_sb, ite_dec]
      try dsimp only
      by_cases hw : w < px_W S (upd D 3 (nI k)) n
      · rw [if_pos ((fa_wide_lt _ _).mpr hw), if_pos hw]
      · rw [if_neg (fun q => hw ((fa_wide_lt _ _).mp q)), if_neg hw])
    100 4000 m (by decide) (by decide) ⟨D 3, by rw [upd_self]; exact h⟩
  exact this
theorem cl_leastGear {m0 m : ev_m} {S D : Nat → Int32} {n j : Nat} {w : Int32} (h : tc_ m0 m S D) (hS : pu_okS S) (hD : pu_okD D) (hn : n ≤ 400) (hj : j = 3 ∨ j = 4) : ∃ m', f_X9_leastGear m 0 (nI j) (nI n) w = some (pz_up (fun k => !decide (w < px_W (upd S j (nI k)) D n)) 1 35, m') ∧ ∃ v, tc_ m0 m' (upd S j v) D := by
  have := lp_up (L := fun f x m => lp_X9_leastGear_3 0 (nI j) (nI n) w f x m (fun m11 => (some (((-1), m11))))) (T := fun m' => (∃ v, tc_ m0 m' (upd S j v) D)) (p := fun k => !decide (w < px_W (upd S j (nI k)) D n)) (N := 36)
    (by
      intro f m' hT
      refine ⟨m', ?_, hT⟩
      rw [lp_X9_leastGear_3, if_pos (by decide)])
    (by
      intro f k m' hk ⟨v, hT⟩
      have hT2 := hT.writeS (k := j) (v := nI k) (by omega)
      rw [upd_twice] at hT2
      obtain ⟨m'', e, t⟩ := cl_wide (n := n) hT2 (hS.put34 hj (by rw [nI_toInt (by omega)]; omega) (by rw [nI_toInt (by omega)]; omega)) hD hn
      refine ⟨m'', ?_, _, t⟩
      rw [lp_X9_leastGear_3, if_neg (show ¬ 35 < nI k from nI_nlt (a := 35) (by omega) (by decide)), pq_let, e, pq_sb, ite_dec]
      try dsimp only
      by_cases hw : w < px_W (upd S j (nI k)) D n
      · rw [if_pos ((fa_wide_lt _ _).mpr hw), if_pos hw]
      · rw [if_neg (fun q => hw ((fa_wide_lt _ _).mp q)), if_neg hw])
    35 4000 1 m (by decide) (by decide) ⟨S j, by rw [upd_self]; exact h⟩
  exact this
theorem k_bound {m : ev_m} {c0 c1 c2 c3 : Nat} (hI : iv_B m 0 c0 c1 c2 c3) (x y z w b : Int32) : kc_ m (fun m => f_X9_bound m 0 x y z w b) (fun m => f_X10_bound m 0 x y z w b) := by
  refine k_ready (bad := -1) (A := fun m => (if w < 0 then (some (((-1), m))) else (if b = 0 then (f_X9_deadest m 0 z w).bind (fun p9 => (some ((p9.1, p9.2)))) else if b = 1 then (f_X9_leastGear m 0 3 z w).bind (fun p8 => (some ((p8.1, p8.2)))) else if b = 2 then (f_X9_leastGear m 0 4 z w).bind (fun p7 => (some ((p7.1, p7.2)))) else (some (((-1), m)))))) (B := fun m => (if w < 0 then (some (((-1), m))) else (if (s_X10_in m b 0 2) = true then (if b = 0 then (lp_X10_bound_43 0 z w 4000 ((-1)) 0 m (fun x34 m35 => (some ((x34, m35))))) else (lp_X10_bound_95 0 z w b 4000 ((-1)) 35 m (fun x21 m22 => (some ((x21, m22)))))) else (some (((-1), m)))))) hI (fun n S D hz hn1 hn2 hS hD _ => ?_)
  subst hz
  by_cases h1 : w < 0
  · refine ⟨-1, fun m1 t1 => ⟨m1, ?_, t1.2.2⟩, fun m' m3 hF t3 => ⟨m3, ?_, t3.2.2⟩⟩
    · try dsimp only
      rw [if_pos h1]
    · try dsimp only
      rw [if_pos h1]
  · have hg : ∀ j, (j = 3 ∨ j = 4) → ∀ (b' : Int32), (if b' = 1 then (3 : Int32) else 4) = nI j → ∀ m' m3, tr_ m' m3 S D → ∃ m4, lp_X10_bound_95 0 (nI n) w b' 4000 (-1) 35 m3 (fun x21 m22 => (some ((x21, m22)))) = some (pz_up (fun k => !decide (w < px_W (upd S j (nI k)) D n)) 1 35, m4) ∧ ∃ v, tr_ m' m4 (upd S j v) D := by
      intro j hj b' hb' m' m3 t3
      obtain ⟨m4, e4, t4⟩ := lp_mem (L := fun f (a : Int32) i m => lp_X10_bound_95 0 (nI n) w b' f a i m (fun x21 m22 => (some ((x21, m22))))) (kx := fun a m => some (a, m)) (T := fun m4 => ∃ v, tr_ m' m4 (upd S j v) D) (N := 35) (g := fun i => pz_up (fun k => !decide (w < px_W (upd S j (nI k)) D n)) (36 - i) i) (ix := fun i => nI (35 - i))
        (by
          intro f m'
          rw [lp_X10_bound_95, if_pos (by decide)])
        (by
          intro f i m4 hi ⟨v, hT⟩
          have hT2 := hT.putS (k := j) (v := nI (35 - i))
          rw [upd_twice] at hT2
          obtain ⟨m'', e, ew, t⟩ := rf_wide (n := n) hT2 (hS.put34 hj (by rw [nI_toInt (by omega)]; omega) (by rw [nI_toInt (by omega)]; omega)) hD (by omega)
          refine ⟨m'', ?_, _, t⟩
          have hnx : nI (35 - i) + (-1) = nI (35 - (i + 1)) := by rw [show 35 - i = (35 - (i + 1)) + 1 by omega, pk_m1]
          rw [lp_X10_bound_95, if_neg (show ¬ nI (35 - i) < 1 from nI_nlt (b := 1) (by omega) (by omega)), hb', pq_let, pq_ast (by omega) (by decide), pq_sb, e, pq_sb, ew, pq_let, hnx, show 36 - (i + 1) = 35 - i by omega, pz_up_s, ite_dec, show 35 - i + 1 = 36 - i by omega])
        35 4000 0 m3 (by decide) (by decide) ⟨S j, by rw [upd_self]; exact t3⟩
      exact ⟨m4, e4, t4⟩
    by_cases e0 : b = 0
    · subst e0
      refine ⟨pz_dn (fun k => !decide (w < px_W S (upd D 3 (nI k)) n)) 100, fun m1 t1 => ?_, fun m' m3 hF t3 => ?_⟩
      · obtain ⟨m2, e2, v2, t2⟩ := cl_deadest (n := n) (w := w) t1 hS hD (by omega)
        refine ⟨m2, ?_, t2.2.2⟩
        try dsimp only
        rw [if_neg h1, if_pos rfl, e2, pq_sb]
      · obtain ⟨m4, e4, v4, t4⟩ := lp_mem (L := fun f (a : Int32) i m => lp_X10_bound_43 0 (nI n) w f a i m (fun x34 m35 => (some ((x34, m35))))) (kx := fun a m => some (a, m)) (T := fun m4 => ∃ v, tr_ m' m4 S (upd D 3 v)) (N := 100) (g := pz_dn (fun k => !decide (w < px_W S (upd D 3 (nI k)) n))) (ix := nI)
          (by
            intro f m'
            rw [lp_X10_bound_43, if_pos (by decide)])
          (by
            intro f i m4 hi ⟨v, hT⟩
            have hT2 := hT.putD (k := 3) (v := nI i) (by decide)
            rw [upd_twice] at hT2
            obtain ⟨m'', e, ew, t⟩ := rf_wide (n := n) hT2 hS (hD.put3 (by rw [nI_toInt (by omega)]; omega) (by rw [nI_toInt (by omega)]; omega)) (by omega)
            refine ⟨m'', ?_, _, t⟩
            rw [lp_X10_bound_43, if_neg (show ¬ 99 < nI i from nI_nlt (a := 99) (by omega) (by decide)), show (3 : Int32) = nI 3 from rfl, rf_put (by decide), pq_sb, e, pq_sb, ew, pq_let, nI_1, pz_dn_s, ite_dec])
          100 4000 0 m3 (by decide) (by decide) ⟨D 3, by rw [upd_self]; exact t3⟩
        refine ⟨m4, ?_, t4.2.2⟩
        try dsimp only
        rw [if_neg h1, if_pos (in_y (by decide) (by decide)), if_pos rfl]
        exact e4
    · by_cases e1 : b = 1
      · subst e1
        refine ⟨pz_up (fun k => !decide (w < px_W (upd S 3 (nI k)) D n)) 1 35, fun m1 t1 => ?_, fun m' m3 hF t3 => ?_⟩
        · obtain ⟨m2, e2, v2, t2⟩ := cl_leastGear (n := n) (w := w) (j := 3) t1 hS hD (by omega) (Or.inl rfl)
          refine ⟨m2, ?_, t2.2.2⟩
          try dsimp only
          rw [if_neg h1, if_neg (by decide), if_pos rfl, show f_X9_leastGear m1 0 3 (nI n) w = _ from e2, pq_sb]
        · obtain ⟨m4, e4, v4, t4⟩ := hg 3 (Or.inl rfl) 1 rfl m' m3 t3
          refine ⟨m4, ?_, t4.2.2⟩
          try dsimp only
          rw [if_neg h1, if_pos (in_y (by decide) (by decide)), if_neg (by decide)]
          exact e4
      · by_cases e2 : b = 2
        · subst e2
          refine ⟨pz_up (fun k => !decide (w < px_W (upd S 4 (nI k)) D n)) 1 35, fun m1 t1 => ?_, fun m' m3 hF t3 => ?_⟩
          · obtain ⟨m2, e2, v2, t2⟩ := cl_leastGear (n := n) (w := w) (j := 4) t1 hS hD (by omega) (Or.inr rfl)
            refine ⟨m2, ?_, t2.2.2⟩
            try dsimp only
            rw [if_neg h1, if_neg (by decide), if_neg (by decide), if_pos rfl, show f_X9_leastGear m1 0 4 (nI n) w = _ from e2, pq_sb]
          · obtain ⟨m4, e4, v4, t4⟩ := hg 4 (Or.inr rfl) 2 rfl m' m3 t3
            refine ⟨m4, ?_, t4.2.2⟩
            try dsimp only
            rw [if_neg h1, if_pos (in_y (by decide) (by decide)), if_neg (by decide)]
            exact e4
        · have hn : ∀ m : ev_m, ¬ s_X10_in m b 0 2 = true := by
            intro m h
            obtain ⟨k, -, h2, h3⟩ := in_F (a := 0) (b := 2) (by decide) (by decide) h
            rcases (show k = 0 ∨ k = 1 ∨ k = 2 by omega) with q | q | q
            · exact e0 (by rw [h3, q]; rfl)
            · exact e1 (by rw [h3, q]; rfl)
            · exact e2 (by rw [h3, q]; rfl)
          refine ⟨-1, fun m1 t1 => ⟨m1, ?_, t1.2.2⟩, fun m' m3 hF t3 => ⟨m3, ?_, t3.2.2⟩⟩
          · try dsimp only
            rw [if_neg h1, if_neg e0, if_neg e1, if_neg e2]
          · try dsimp only
            rw [if_neg h1, if_neg (hn m3)]
