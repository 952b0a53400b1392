/-! pure: clouds, the line, the lead, seas, alone -/
/-- CLOUD: one star, and what it makes of a hand -/
def pu_c3 (D : Nat → Int32) (x v : Int32) : Nat → Int32 := upd (upd (upd D 9 x) 10 1) 11 v
theorem pu_c3_k (D : Nat → Int32) (x v : Int32) {k : Nat} (h : k ≠ 9) (h2 : k ≠ 10) (h3 : k ≠ 11) : pu_c3 D x v k = D k := by
  unfold pu_c3
  rw [pk_un h3, pk_un h2, pk_un h]
theorem pu_c3_9 (D : Nat → Int32) (x v : Int32) : pu_c3 D x v 9 = x := by
  unfold pu_c3
  rw [pk_un (by decide), pk_un (by decide), pk_us]
theorem pu_c3_10 (D : Nat → Int32) (x v : Int32) : pu_c3 D x v 10 = 1 := by
  unfold pu_c3
  rw [pk_un (by decide), pk_us]
theorem pu_c3_11 (D : Nat → Int32) (x v : Int32) : pu_c3 D x v 11 = v := by
  unfold pu_c3
  rw [pk_us]
theorem pu_c3_t (D : Nat → Int32) (x v x' v' : Int32) : pu_c3 (pu_c3 D x v) x' v' = pu_c3 D x' v' := by
  funext j
  by_cases h1 : j = 9
  · rw [h1, pu_c3_9, pu_c3_9]
  · by_cases h2 : j = 10
    · rw [h2, pu_c3_10, pu_c3_10]
    · by_cases h3 : j = 11
      · rw [h3, pu_c3_11, pu_c3_11]
      · rw [pu_c3_k _ _ _ h1 h2 h3, pu_c3_k _ _ _ h1 h2 h3, pu_c3_k _ _ _ h1 h2 h3]
theorem pu_okD.c3 {D : Nat → Int32} {x v : Int32} (h : pu_okD D) (hx : x = 0 ∨ x = 1) : pu_okD (pu_c3 D x v) := by
  unfold pu_okD
  rw [pu_c3_k _ _ _ (by decide) (by decide) (by decide), pu_c3_k _ _ _ (by decide) (by decide) (by decide), pu_c3_k _ _ _ (by decide) (by decide) (by decide), pu_c3_k _ _ _ (by decide) (by decide) (by decide), pu_c3_9]
  refine ⟨h.1, h.2.1, h.2.2.1, h.2.2.2.1, ?_⟩
  rcases hx with e | e
  · exact ⟨0, by omega, e⟩
  · exact ⟨1, by omega, e⟩
/-- a run hangs on the stars by whether there is one alone -/
theorem pu_1_c {S D E : Nat → Int32} (hk : ∀ k, k < 9 → D k = E k) (hs : ∀ t, pu_st D t 0 (D 9).toNatClampNeg = pu_st E t 0 (E 9).toNatClampNeg) (s : pu_Q × pu_A) : pu_1 S D s = pu_1 S E s := by
  have hb : ∀ t, pu_back S D t = pu_back S E t := by
    intro t
    unfold pu_back pu_slow
    rw [hs, hk 6 (by decide)]
  have hm : pu_ms S D s.1 s.2 = pu_ms S E s.1 s.2 := by
    unfold pu_ms pu_see pu_pt
    rw [hb, hk 4 (by decide)]
  have ht : pu_mt S D s.1 s.2 = pu_mt S E s.1 s.2 := by
    unfold pu_mt
    rw [hm]
  have hg : pu_gs S D s.1 s.2 = pu_gs S E s.1 s.2 := by
    unfold pu_gs
    rw [hm]
  have hw : pu_w0 S D s.1 s.2 = pu_w0 S E s.1 s.2 := by
    unfold pu_w0 pu_wa
    rw [hm, hg, ht, hk 0 (by decide), hk 1 (by decide), hk 2 (by decide), hk 3 (by decide), hk 5 (by decide), hk 8 (by decide)]
  have hd : pu_sd D s.1.2.2.2.2.2 = pu_sd E s.1.2.2.2.2.2 := by
    unfold pu_sd
    rw [hk 7 (by decide)]
  have hwt : pu_wt S D s.1 s.2 = pu_wt S E s.1 s.2 := by
    unfold pu_wt
    rw [hw, hk 7 (by decide)]
  unfold pu_1
  rw [hwt, hm, hd, ht]
theorem pu_run_c {S D E : Nat → Int32} (hk : ∀ k, k < 9 → D k = E k) (hs : ∀ t, pu_st D t 0 (D 9).toNatClampNeg = pu_st E t 0 (E 9).toNatClampNeg) (seed : Int32) (n : Nat) : pu_run S D seed n = pu_run S E seed n := by
  have : ∀ n s, pu_go S D n s = pu_go S E n s := by
    intro n
    induction n with
    | zero => intro s; rfl
    | succ n ih => intro s; rw [pu_go, pu_go, pu_1_c hk hs, ih]
  unfold pu_run pu_steer
  rw [this]
theorem pu_st_0 (D : Nat → Int32) (t : Int32) : pu_st (pu_c3 D 1 0) t 0 1 = false := by
  rw [pu_st]
  show (if t < pu_c3 D 1 0 10 then pu_st (pu_c3 D 1 0) t 1 0 else (if pu_c3 D 1 0 11 < t then pu_st (pu_c3 D 1 0) t 1 0 else true)) = false
  rw [pu_c3_10, pu_c3_11, pu_st]
  by_cases h : t < 1
  · rw [if_pos h]
  · rw [if_neg h, if_pos (by rw [fa_lt, show (1 : Int32).toInt = 1 from rfl] at h; rw [i0_lt]; omega)]
theorem px_W_c3 (S D : Nat → Int32) (n k : Nat) (hk : k < 1000) : px_W S (pu_c3 D (if 0 < nI k then 1 else 0) (nI k)) n = px_W S (pu_c3 D 1 (nI k)) n := by
  by_cases h : k = 0
  · subst h
    rw [if_neg (by decide)]
    unfold px_W
    rw [pu_run_c (D := pu_c3 D 0 (nI 0)) (E := pu_c3 D 1 (nI 0))]
    · intro j hj
      rw [pu_c3_k _ _ _ (by omega) (by omega) (by omega), pu_c3_k _ _ _ (by omega) (by omega) (by omega)]
    · intro t
      rw [pu_c3_9, pu_c3_9]
      show pu_st (pu_c3 D 0 0) t 0 0 = pu_st (pu_c3 D 1 0) t 0 1
      rw [pu_st_0, pu_st]
  · rw [if_pos (by rw [i0_lt, nI_toInt (by omega)]; omega)]
theorem tc_.star {m0 m : ev_m} {S D : Nat → Int32} {v : Int32} (h : tc_ m0 m S D) : ∃ m', s_X1_addStar (ev_pim m 4 16 9 0) 16 1 v = (true, m') ∧ tc_ m0 m' S (pu_c3 D 1 v) := by
  have e9 : (ev_pim m 4 16 9 0).1 4 16 9 = 0 := by simp [pq_pim]
  have e0 : ev_put (ev_pim m 4 16 9 0) 13 16 4 0 1 = ev_pim (ev_pim m 4 16 9 0) 13 16 0 1 := pq_put (k := 0) (by decide) (by decide)
  have e10 : (ev_pim (ev_pim m 4 16 9 0) 13 16 0 1).1 4 16 9 = 0 := by simp [pq_pim]
  have e1 : ev_put (ev_pim (ev_pim m 4 16 9 0) 13 16 0 1) 14 16 4 0 v = ev_pim (ev_pim (ev_pim m 4 16 9 0) 13 16 0 1) 14 16 0 v := pq_put (k := 0) (by decide) (by decide)
  have e11 : (ev_pim (ev_pim (ev_pim m 4 16 9 0) 13 16 0 1) 14 16 0 v).1 4 16 9 = 0 := by simp [pq_pim]
  unfold s_X1_addStar
  rw [e9, if_pos (by decide), e0, pq_let, e10, e1, pq_let, e11, pq_let]
  refine ⟨_, rfl, ⟨fun c hc => ?_, fun c hc => ?_⟩, ⟨fun c hc => ?_, fun c hc => ?_⟩, (((h.2.2.pim rfl).pim rfl).pim rfl).pim rfl⟩
  · rw [← h.1.1 c hc]; simp [pq_pim]
  · rw [← h.1.2 c hc]; simp [pq_pim]
  · by_cases e : c = 9
    · rw [e, pu_c3_9]; simp [pq_pim]
    · rw [pu_c3_k _ _ _ e (by omega) (by omega), ← h.2.1.1 c hc]; simp [pq_pim, e]
  · rw [pu_c3_9] at hc
    have hc : c < 1 := hc
    rw [show c = 0 by omega]
    constructor
    · rw [show 10 + 2 * 0 = 10 from rfl, pu_c3_10]; simp [pq_pim]
    · rw [show 11 + 2 * 0 = 11 from rfl, pu_c3_11]; simp [pq_pim]
theorem k_cloud {m : ev_m} {c0 c1 c2 c3 : Nat} (hI : iv_B m 0 c0 c1 c2 c3) (x y z w : Int32) : kc_ m (fun m => f_X9_cloud m 0 x y z w) (fun m => f_X10_cloud m 0 x y z w) := by
  refine k_ready (bad := -1) (A := fun m => (if w < 0 then (some (((-1), m))) else (lp_X9_cloud_20 0 z w 4000 z m (fun m14 => (some (((-1), m14))))))) (B := fun m => (if w < 0 then (some (((-1), m))) else (lp_X10_cloud_28 0 z w 4000 ((-1)) 0 m (fun x20 m21 => (some ((x20, m21))))))) hI (fun n S D hz hn1 hn2 hS hD _ => ?_)
  subst hz
  by_cases h1 : w < 0
  · refine ⟨-1, fun m1 t1 => ⟨m1, ?_, t1.2.2⟩, fun m' m3 hF t3 => ⟨m3, ?_, t3.2.2⟩⟩
    · try dsimp only
      rw [if_pos h1]
    · try dsimp only
      rw [if_pos h1]
  · refine ⟨pz_dn (fun k => !decide (w < px_W S (pu_c3 D 1 (nI k)) n)) (n + 1), fun m1 t1 => ?_, fun m' m3 hF t3 => ?_⟩
    · have := lp_dn (L := fun f x m => lp_X9_cloud_20 0 (nI n) w f x m (fun m14 => (some (((-1), m14))))) (T := fun m' => ∃ E, tc_ m m' S E ∧ (∀ v, pu_c3 E 1 v = pu_c3 D 1 v)) (p := fun k => !decide (w < px_W S (pu_c3 D 1 (nI k)) n)) (N := n + 1)
        (by
          intro f m' hT
          refine ⟨m', ?_, hT⟩
          rw [lp_X9_cloud_20, if_pos (by decide)])
        (by
          intro f k m' hk ⟨E, hT, hE⟩
          obtain ⟨ma, ea, ta⟩ := hT.star (v := nI k)
          rw [hE] at ta
          obtain ⟨m'', e, t⟩ := cl_wide (n := n) ta hS (hD.c3 (Or.inr rfl)) (by omega)
          refine ⟨m'', ?_, _, t, fun v => pu_c3_t _ _ _ _ _⟩
          rw [lp_X9_cloud_20, if_neg (nI_pos (by omega)), pq_let, ea, pq_let]
          try dsimp only
          rw [e, pq_sb, ite_dec]
          try dsimp only
          by_cases hw : w < px_W S (pu_c3 D 1 (nI k)) n
          · rw [if_pos ((fa_wide_lt _ _).mpr hw), if_pos hw]
          · rw [if_neg (fun q => hw ((fa_wide_lt _ _).mp q)), if_neg hw])
        (n + 1) 4000 m1 (by omega) (by omega) ⟨D, t1, fun _ => rfl⟩
      obtain ⟨m2, e2, E, t2, -⟩ := this
      rw [pk_m1] at e2
      refine ⟨m2, ?_, t2.2.2⟩
      try dsimp only
      rw [if_neg h1]
      exact e2
    · obtain ⟨m4, e4, E, t4, -⟩ := lp_mem (L := fun f (a : Int32) i m => lp_X10_cloud_28 0 (nI n) w f a i m (fun x20 m21 => (some ((x20, m21))))) (kx := fun a m => some (a, m)) (T := fun m4 => ∃ E, tr_ m' m4 S E ∧ (∀ x v, pu_c3 E x v = pu_c3 D x v)) (N := n + 1) (g := pz_dn (fun k => !decide (w < px_W S (pu_c3 D 1 (nI k)) n))) (ix := nI)
        (by
          intro f m'
          rw [lp_X10_cloud_28, if_pos (nI_lt (by omega) (by omega))])
        (by
          intro f k m4 hk ⟨E, hT, hE⟩
          have hT2 := ((hT.putD (k := 9) (v := if 0 < nI k then 1 else 0) (by decide)).putD (k := 10) (v := 1) (by decide)).putD (k := 11) (v := nI k) (by decide)
          have hT3 : tr_ m' (ev_pim (ev_pim (ev_pim m4 41 0 9 (if 0 < nI k then 1 else 0)) 41 0 10 1) 41 0 11 (nI k)) S (pu_c3 D (if 0 < nI k then 1 else 0) (nI k)) := by
            rw [← hE]
            exact hT2
          obtain ⟨m'', e, ew, t⟩ := rf_wide (n := n) hT3 hS (hD.c3 (by split <;> simp)) (by omega)
          refine ⟨m'', ?_, _, t, fun x v => pu_c3_t _ _ _ _ _⟩
          rw [px_W_c3 S D n k (by omega)] at ew
          rw [lp_X10_cloud_28, if_neg (nI_nlt (by omega) (by omega)), pq_let, show (9 : Int32) = nI 9 from rfl, rf_put (by decide), pq_sb, show (10 : Int32) = nI 10 from rfl, rf_put (by decide), pq_sb, show (11 : Int32) = nI 11 from rfl, rf_put (by decide), pq_sb, e, pq_sb, ew, pq_let, nI_1, pz_dn_s, ite_dec])
        (n + 1) 4000 0 m3 (by omega) (by omega) ⟨D, t3, fun _ _ => rfl⟩
      refine ⟨m4, ?_, t4.2.2⟩
      try dsimp only
      rw [if_neg h1]
      exact e4
/-- LINE and LEAD: another LAG -/
def px_G (S D : Nat → Int32) (n : Nat) : Bool := pc_grow (pu_run S D 0 n)
theorem cl_growsWith {m0 m : ev_m} {S D : Nat → Int32} {n k : Nat} {v : Int32} (h : tc_ m0 m S D) (hS : pu_okS S) (hD : pu_okD (upd D k v)) (hn : n ≤ 400) (hk : k < 8) : ∃ m', f_X9_growsWith m 0 (nI k) v (nI n) = some (px_G S (upd D k v) n, m') ∧ tc_ m0 m' S (upd D k v) := by
  obtain ⟨m', e, q, -, -, -, ht, -⟩ := cl_trial (seed := 0) (h.writeD (v := v) hk) hS hD hn
  have hd := pu_run_d S (upd D k v) 0 n
  unfold f_X9_growsWith
  rw [pq_let, e, pq_sb, cl_grows q (by omega), pq_sb]
  exact ⟨m', rfl, ht⟩
theorem rf_growsWith {m0 m : ev_m} {S D : Nat → Int32} {n : Nat} (h : tr_ m0 m S D) (hS : pu_okS S) (hD : pu_okD D) (hn : n ≤ 400) : ∃ m', f_X10_runBy m 0 1 0 (nI n) = some m' ∧ f_X10_grows m' 0 = some (px_G S D n) ∧ tr_ m0 m' S D := by
  obtain ⟨m', e, r, ht⟩ := rf_trial (seed := 0) h hS hD hn
  have hd := pu_run_d S D 0 n
  exact ⟨m', e, rf_grows r (by omega), ht⟩
theorem k_lagged {m : ev_m} {c0 c1 c2 c3 : Nat} {x y z lag : Int32} {A B : ev_m → Option (Int32 × ev_m)} (hI : iv_B m 0 c0 c1 c2 c3)
    (hA : ∀ (n : Nat) (S D : Nat → Int32), z = nI n → 1 ≤ n → n ≤ 200 → pu_okS S → pu_okD D → ∃ a, (∀ m1, tc_ m m1 S D → ∃ m2, A m1 = some (a, m2) ∧ pq_Fr PC_ m m2) ∧ (∀ m' m3, pq_Fr PI_ m m' → tr_ m' m3 S D → ∃ m4, B m3 = some (a, m4) ∧ pq_Fr PR_ m' m4)) :
    kc_ m (fun m => (f_X9_lagged m 0 x y z lag).bind (fun p1 => (if p1.1 = true then A p1.2 else (some ((-1), p1.2))))) (fun m => ev_let (ev_pim m 10 0 0 0) (fun m1 => (f_X10_layFor m1 0 x y z).bind (fun p2 => (if p2.1 = true then (if (s_X10_in p2.2 lag 0 9) = true then ev_let (ev_pim p2.2 40 0 2 lag) B else (some (((-1), p2.2)))) else (some ((-1), p2.2)))))) := by
  by_cases hl : s_X10_in m lag 0 9 = true
  · obtain ⟨l, -, hl2, rfl⟩ := in_F (a := 0) (b := 9) (by decide) (by decide) hl
    have hy : ∀ m : ev_m, s_X10_in m (nI l) 0 9 = true := fun m => in_T (m := m) (a := 0) (b := 9) (by omega) (by omega) (by decide)
    have := k_ready (bad := -1) (x := x) (y := y) (z := z) (A := fun m => ev_let (s_X5_write m 8 2 (nI l)) A) (B := fun m => ev_let (ev_pim m 40 0 2 (nI l)) B) hI (fun n S D hz hn1 hn2 hS hD _ => by
      obtain ⟨a, h1, h2⟩ := hA n (upd S 2 (nI l)) D hz hn1 hn2 (hS.put2 (by rw [nI_toInt (by omega)]; omega) (by rw [nI_toInt (by omega)]; omega)) hD
      refine ⟨a, fun m1 t1 => ?_, fun m' m3 hF t3 => ?_⟩
      · try dsimp only
        rw [pq_let]
        exact h1 _ (t1.writeS (k := 2) (by decide))
      · try dsimp only
        rw [pq_let]
        exact h2 m' _ hF t3.putS)
    obtain ⟨a, m1, m2, e1, e2, F⟩ := this
    refine ⟨a, m1, m2, ?_, ?_, F⟩
    · try dsimp only at e1 ⊢
      unfold f_X9_lagged
      rw [if_neg (nI_pos (by omega)), if_neg (show ¬ 9 < nI l from nI_nlt (a := 9) (by omega) (by decide))]
      cases hr : f_X9_ready m 0 x y z with
      | none => rw [hr] at e1; cases e1
      | some p =>
        rw [hr, pq_sb] at e1
        rw [pq_sb]
        by_cases hp : p.1 = true
        · rw [if_pos hp, pq_let] at e1
          rw [if_pos hp, pq_let, pq_sb, if_pos rfl]
          exact e1
        · rw [if_neg hp] at e1
          rw [if_neg hp, pq_sb, if_neg Bool.false_ne_true]
          exact e1
    · try dsimp only at e2 ⊢
      rw [pq_let] at e2 ⊢
      cases hr : f_X10_layFor (ev_pim m1 10 0 0 0) 0 x y z with
      | none => rw [hr] at e2; cases e2
      | some p =>
        rw [hr, pq_sb] at e2
        rw [pq_sb]
        by_cases hp : p.1 = true
        · rw [if_pos hp] at e2
          rw [if_pos hp, if_pos (hy _)]
          exact e2
        · rw [if_neg hp] at e2
          rw [if_neg hp]
          exact e2
  · have hn : ∀ m : ev_m, ¬ s_X10_in m lag 0 9 = true := fun _ => hl
    have hc : f_X9_lagged m 0 x y z lag = some (false, m) := by
      unfold f_X9_lagged
      by_cases a1 : lag < 0
      · rw [if_pos a1]
      · rw [if_neg a1]
        by_cases a2 : 9 < lag
        · rw [if_pos a2]
        · exact absurd (in_y a1 a2) hl
    by_cases hv : (∃ s, s < c0 ∧ x = nI s) ∧ (∃ h, h < c1 ∧ y = nI h) ∧ ∃ n, 1 ≤ n ∧ n ≤ 200 ∧ z = nI n
    · obtain ⟨⟨s, hs, rfl⟩, ⟨h, hh, rfl⟩, n, hn1, hn2, rfl⟩ := hv
      obtain ⟨m3, e3, t3⟩ := rk_t hI (pq_Fr.refl _ m) hs hh hn1 hn2
      refine ⟨-1, m, m3, ?_, ?_, t3.2.2.sub PI_R⟩
      · try dsimp only
        rw [hc, pq_sb, if_neg Bool.false_ne_true]
      · try dsimp only
        rw [pq_let, e3, pq_sb, if_pos rfl, if_neg (hn _)]
    · refine ⟨-1, m, ev_pim m 10 0 0 0, ?_, ?_, PI_pim⟩
      · try dsimp only
        rw [hc, pq_sb, if_neg Bool.false_ne_true]
      · try dsimp only
        rw [pq_let, rk_f hI (pq_Fr.refl _ m) hv, pq_sb, if_neg Bool.false_ne_true]
theorem ite_not (b : Bool) {α : Type} (u v : α) : (if (!b) = true then u else v) = if b = true then v else u := by
  cases b <;> rfl
theorem k_line {m : ev_m} {c0 c1 c2 c3 : Nat} (hI : iv_B m 0 c0 c1 c2 c3) (x y z w : Int32) : kc_ m (fun m => f_X9_line m 0 x y z w) (fun m => f_X10_line m 0 x y z w) := by
  refine k_lagged (lag := w) (A := fun m => (lp_X9_line_18 0 z 4000 99 m (fun m10 => (some (((-1), m10)))))) (B := fun m => (lp_X10_line_42 0 z 4000 ((-1)) 0 m (fun x17 m18 => (some ((x17, m18)))))) hI (fun n S D hz hn1 hn2 hS hD => ?_)
  subst hz
  have hok : ∀ v, pu_okD (upd D 0 v) := fun v => hD.put (by omega)
  refine ⟨pz_dn (fun k => !px_G S (upd D 0 (nI k)) n) 100, fun m1 t1 => ?_, fun m' m3 hF t3 => ?_⟩
  · have := lp_dn (L := fun f x m => lp_X9_line_18 0 (nI n) f x m (fun m10 => (some (((-1), m10))))) (T := fun m' => ∃ v, tc_ m m' S (upd D 0 v)) (p := fun k => !px_G S (upd D 0 (nI k)) n) (N := 100)
      (by
        intro f m' hT
        refine ⟨m', ?_, hT⟩
        rw [lp_X9_line_18, if_pos (by decide)])
      (by
        intro f k m' hk ⟨v, hT⟩
        obtain ⟨m'', e, t⟩ := cl_growsWith (k := 0) (v := nI k) (n := n) hT hS (by rw [upd_twice]; exact hok _) (by omega) (by decide)
        rw [upd_twice] at e t
        refine ⟨m'', ?_, _, t⟩
        rw [lp_X9_line_18, if_neg (nI_pos (by omega)), show (0 : Int32) = nI 0 from rfl, e, pq_sb, ite_not])
      100 4000 m1 (by decide) (by decide) ⟨D 0, by rw [upd_self]; exact t1⟩
    obtain ⟨m2, e2, v, t2⟩ := this
    exact ⟨m2, e2, t2.2.2⟩
  · obtain ⟨m4, e4, v4, t4⟩ := lp_mem (L := fun f (a : Int32) i m => lp_X10_line_42 0 (nI n) f a i m (fun x17 m18 => (some ((x17, m18))))) (kx := fun a m => some (a, m)) (T := fun m4 => ∃ v, tr_ m' m4 S (upd D 0 v)) (N := 100) (g := pz_dn (fun k => !px_G S (upd D 0 (nI k)) n)) (ix := nI)
      (by
        intro f m'
        rw [lp_X10_line_42, if_pos (by decide)])
      (by
        intro f i m4 hi ⟨v, hT⟩
        have hT2 := hT.putD (k := 0) (v := nI i) (by decide)
        rw [upd_twice] at hT2
        obtain ⟨m'', e, eg, t⟩ := rf_growsWith (n := n) hT2 hS (hok _) (by omega)
        refine ⟨m'', ?_, _, t⟩
        rw [lp_X10_line_42, if_neg (show ¬ 99 < nI i from nI_nlt (a := 99) (by omega) (by decide)), show f_X10_put m4 0 0 (nI i) = _ from rf_put (k := 0) (by decide), pq_sb, e, pq_sb, eg, pq_sb, pq_let, nI_1, pz_dn_s, ite_not])
      100 4000 0 m3 (by decide) (by decide) ⟨D 0, by rw [upd_self]; exact t3⟩
    exact ⟨m4, e4, t4.2.2⟩
theorem k_lead {m : ev_m} {c0 c1 c2 c3 : Nat} (hI : iv_B m 0 c0 c1 c2 c3) (x y z w : Int32) : kc_ m (fun m => f_X9_lead m 0 x y z w) (fun m => f_X10_lead m 0 x y z w) := by
  refine k_lagged (lag := w) (A := fun m => (lp_X9_lead_17 0 z 4000 0 m (fun m10 => (some (((-1), m10)))))) (B := fun m => (lp_X10_lead_39 0 z 4000 0 m (fun m15 => (some (((-1), m15)))))) hI (fun n S D hz hn1 hn2 hS hD => ?_)
  subst hz
  have hok : ∀ v, pu_okD (upd D 1 v) := fun v => hD.put (by omega)
  refine ⟨pz_up (fun k => !px_G S (upd D 1 (nI k)) n) 0 100, fun m1 t1 => ?_, fun m' m3 hF t3 => ?_⟩
  · have := lp_up (L := fun f x m => lp_X9_lead_17 0 (nI n) f x m (fun m10 => (some (((-1), m10))))) (T := fun m' => ∃ v, tc_ m m' S (upd D 1 v)) (p := fun k => !px_G S (upd D 1 (nI k)) n) (N := 100)
      (by
        intro f m' hT
        refine ⟨m', ?_, hT⟩
        rw [lp_X9_lead_17, if_pos (by decide)])
      (by
        intro f k m' hk ⟨v, hT⟩
        obtain ⟨m'', e, t⟩ := cl_growsWith (k := 1) (v := nI k) (n := n) hT hS (by rw [upd_twice]; exact hok _) (by omega) (by decide)
        rw [upd_twice] at e t
        refine ⟨m'', ?_, _, t⟩
        rw [lp_X9_lead_17, if_neg (show ¬ 99 < nI k from nI_nlt (a := 99) (by omega) (by decide)), show f_X9_growsWith m' 0 1 (nI k) (nI n) = _ from e, pq_sb, ite_not])
      100 4000 0 m1 (by decide) (by decide) ⟨D 1, by rw [upd_self]; exact t1⟩
    obtain ⟨m2, e2, v, t2⟩ := this
    exact ⟨m2, e2, t2.2.2⟩
  · have := lp_up (L := fun f x m => lp_X10_lead_39 0 (nI n) f x m (fun m15 => (some (((-1), m15))))) (T := fun m4 => ∃ v, tr_ m' m4 S (upd D 1 v)) (p := fun k => !px_G S (upd D 1 (nI k)) n) (N := 100)
      (by
        intro f m' hT
        refine ⟨m', ?_, hT⟩
        rw [lp_X10_lead_39, if_pos (by decide)])
      (by
        intro f k m4 hk ⟨v, hT⟩
        have hT2 := hT.putD (k := 1) (v := nI k) (by decide)
        rw [upd_twice] at hT2
        obtain ⟨m'', e, eg, t⟩ := rf_growsWith (n := n) hT2 hS (hok _) (by omega)
        refine ⟨m'', ?_, _, t⟩
        rw [lp_X10_lead_39, if_neg (show ¬ 99 < nI k from nI_nlt (a := 99) (by omega) (by decide)), show f_X10_put m4 0 1 (nI k) = _ from rf_put (k := 1) (by decide), pq_sb, e, pq_sb, eg, pq_sb, ite_not])
      100 4000 0 m3 (by decide) (by decide) ⟨D 1, by rw [upd_self]; exact t3⟩
    obtain ⟨m4, e4, v, t4⟩ := this
    exact ⟨m4, e4, t4.2.2⟩
