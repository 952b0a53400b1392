/-! pure: the rule that costs least; runs asked of; two hands' costs; alone -/
theorem ev_dvN {a d : Nat} (ha : a < 2 ^ 31) (h0 : 0 < d) (hd : d < 2 ^ 31) : ev_dv (nI a) (nI d) = some (nI (a / d)) := by
  unfold ev_dv
  rw [if_neg (nI_ne0 h0 hd), pk_div ha h0 hd]
theorem ev_rmN {a d : Nat} (ha : a < 2 ^ 31) (h0 : 0 < d) (hd : d < 2 ^ 31) : ev_rm (nI a) (nI d) = some (nI (a % d)) := by
  unfold ev_rm
  rw [if_neg (nI_ne0 h0 hd), pk_rem ha h0 hd]
/-- FOUND: the loops of the class -/
theorem cl_rule {m0 m : ev_m} {S D : Nat → Int32} {n a b : Nat} {o : Option Nat} {w : Int32} {c : Nat → Int64} (ha : a ≤ 20) (hb : b ≤ 20) (hcm : ∀ j, c j < 9223372036854775807)
    (hc : ∀ far quick m33, far ≤ a → quick ≤ b → tc_ m0 m33 S (upd (upd D 0 (nI far)) 1 (nI quick)) → ∃ m'', (∀ K : Int64 → ev_m → Option (Int64 × ev_m), ev_on o ((f_X9_trialCost m33 0 (nI n)).bind (fun p => K p.1 p.2)) (fun j => (f_X9_trialApart m33 0 (some j)).bind (fun p => K p.1.toInt64 p.2)) = K (c (far * (b + 1) + quick)) m'') ∧ tc_ m0 m'' S (upd (upd D 0 (nI far)) 1 (nI quick))) (h : tc_ m0 m S D) (hw : s_X10_in m w 0 2 = true) :
    ∃ m', f_X9_leastRule m 0 o (nI n) (nI a) (nI b) w = some (if w = 0 then (nI (pm_ c ((a + 1) * (b + 1) - 1) / (b + 1))).toInt64 else if w = 1 then (nI (pm_ c ((a + 1) * (b + 1) - 1) % (b + 1))).toInt64 else c (pm_ c ((a + 1) * (b + 1) - 1)), m') ∧ pq_Fr PC_ m0 m' := by
  obtain ⟨w0, -, hw2, ew⟩ := in_F (a := 0) (b := 2) (by decide) (by decide) hw
  have hN : (a + 1) * (b + 1) ≤ 21 * 21 := Nat.mul_le_mul (by omega) (by omega)
  obtain ⟨m4, e4, ⟨E, t4, -⟩⟩ := lp_mem (L := fun f (s : Int32 × Int32 × Int64) i m => lp_X9_leastRule_51 0 o (nI n) (nI a) (nI b) w f s.1 s.2.1 s.2.2 i m (fun x51 x52 y53 m54 => (if w = 0 then (some ((x51.toInt64, m54))) else (if w = 1 then (some ((x52.toInt64, m54))) else (some ((y53, m54))))))) (kx := fun s m => (if w = 0 then (some ((s.1.toInt64, m))) else (if w = 1 then (some ((s.2.1.toInt64, m))) else (some ((s.2.2, m)))))) (T := fun m' => ∃ E, tc_ m0 m' S E ∧ ∀ u v, upd (upd E 0 u) 1 v = upd (upd D 0 u) 1 v) (N := a + 1) (g := fun i => ((pm_s c 0 9223372036854775807 (fun k => nI (k / (b + 1))) (i * (b + 1))).1, (pm_s c 0 9223372036854775807 (fun k => nI (k % (b + 1))) (i * (b + 1))).1, (pm_s c 0 9223372036854775807 (fun k => nI (k / (b + 1))) (i * (b + 1))).2)) (ix := nI)
    (by
      intro f m'
      rw [lp_X9_leastRule_51, if_pos (nI_lt (by omega) (by omega))])
    (by
      intro f i m1 hi hT
      rw [lp_X9_leastRule_51, if_neg (nI_nlt (by omega) (by omega))]
      obtain ⟨m2, e2, t2⟩ := lp_mem (L := fun f2 (s : Int32 × Int32 × Int64) j m => lp_X9_leastRule_60 0 o (nI n) (nI a) (nI b) w (nI i) f2 s.1 s.2.1 s.2.2 j m (fun x47 x48 y49 m50 => (lp_X9_leastRule_51 0 o (nI n) (nI a) (nI b) w f x47 x48 y49 (nI i + 1) m50 (fun x51 x52 y53 m54 => (if w = 0 then (some ((x51.toInt64, m54))) else (if w = 1 then (some ((x52.toInt64, m54))) else (some ((y53, m54))))))))) (kx := fun s m50 => (lp_X9_leastRule_51 0 o (nI n) (nI a) (nI b) w f s.1 s.2.1 s.2.2 (nI i + 1) m50 (fun x51 x52 y53 m54 => (if w = 0 then (some ((x51.toInt64, m54))) else (if w = 1 then (some ((x52.toInt64, m54))) else (some ((y53, m54)))))))) (T := fun m' => ∃ E, tc_ m0 m' S E ∧ ∀ u v, upd (upd E 0 u) 1 v = upd (upd D 0 u) 1 v) (N := b + 1) (g := fun j => ((pm_s c 0 9223372036854775807 (fun k => nI (k / (b + 1))) (i * (b + 1) + j)).1, (pm_s c 0 9223372036854775807 (fun k => nI (k % (b + 1))) (i * (b + 1) + j)).1, (pm_s c 0 9223372036854775807 (fun k => nI (k / (b + 1))) (i * (b + 1) + j)).2)) (ix := nI)
        (by
          intro f2 m'
          rw [lp_X9_leastRule_60, if_pos (nI_lt (by omega) (by omega))])
        (by
          intro f2 j m' hj ⟨E, hT, hE⟩
          have hT2 := (hT.writeD (k := 0) (v := nI i) (by decide)).writeD (k := 1) (v := nI j) (by decide)
          rw [hE] at hT2
          obtain ⟨m'', e, t⟩ := hc i j _ (by omega) (by omega) hT2
          refine ⟨m'', ?_, _, t, fun u v => ?_⟩
          · have hk1 : (i * (b + 1) + j) / (b + 1) = i := by
              rw [Nat.mul_comm, Nat.mul_add_div (by omega), Nat.div_eq_of_lt hj]
              rfl
            have hk2 : (i * (b + 1) + j) % (b + 1) = j := by
              rw [Nat.mul_comm, Nat.mul_add_mod, Nat.mod_eq_of_lt hj]
            have hs2 : (pm_s c 0 9223372036854775807 (fun k => nI (k % (b + 1))) (i * (b + 1) + j)).2 = (pm_s c 0 9223372036854775807 (fun k => nI (k / (b + 1))) (i * (b + 1) + j)).2 := by
              unfold pm_s
              split <;> rfl
            have p1 := pm_c1 (c := c) (b0 := 0) (y0 := 9223372036854775807) (v := fun k => nI (k / (b + 1))) (k := i * (b + 1) + j) (hcm _)
            have p2 := pm_c1 (c := c) (b0 := 0) (y0 := 9223372036854775807) (v := fun k => nI (k % (b + 1))) (k := i * (b + 1) + j) (hcm _)
            have p3 := pm_c2 (c := c) (b0 := 0) (y0 := 9223372036854775807) (v := fun k => nI (k / (b + 1))) (k := i * (b + 1) + j) (hcm _)
            rw [hs2] at p2
            try dsimp only at p1 p2 p3
            rw [hk1] at p1
            rw [hk2] at p2
            rw [lp_X9_leastRule_60, if_neg (nI_nlt (by omega) (by omega)), pq_let, pq_let]
            have e' := e (fun y m41 => jn_X9_leastRule_105_60 m41 0 none (nI n) (nI a) (nI b) w (pm_s c 0 9223372036854775807 (fun k => nI (k / (b + 1))) (i * (b + 1) + j)).1 (pm_s c 0 9223372036854775807 (fun k => nI (k % (b + 1))) (i * (b + 1) + j)).1 (pm_s c 0 9223372036854775807 (fun k => nI (k / (b + 1))) (i * (b + 1) + j)).2 (nI i) (nI j) y (fun z0 z1 z2 z3 z4 => lp_X9_leastRule_60 0 o (nI n) (nI a) (nI b) w (nI i) f2 z0 z1 z2 z3 z4 (fun x47 x48 y49 m50 => (lp_X9_leastRule_51 0 o (nI n) (nI a) (nI b) w f x47 x48 y49 (nI i + 1) m50 (fun x51 x52 y53 m54 => (if w = 0 then (some ((x51.toInt64, m54))) else (if w = 1 then (some ((x52.toInt64, m54))) else (some ((y53, m54))))))))) (fun x47 x48 y49 m50 => (lp_X9_leastRule_51 0 o (nI n) (nI a) (nI b) w f x47 x48 y49 (nI i + 1) m50 (fun x51 x52 y53 m54 => (if w = 0 then (some ((x51.toInt64, m54))) else (if w = 1 then (some ((x52.toInt64, m54))) else (some ((y53, m54)))))))))
            refine Eq.trans ?_ (e'.trans ?_)
            · cases o <;> rfl
            · unfold jn_X9_leastRule_105_60
              rw [pq_let, pq_let, pq_let, p1, p2, p3, nI_1 i, nI_1 j, show i * (b + 1) + (j + 1) = i * (b + 1) + j + 1 from rfl]
          · funext x
            unfold upd
            split
            · rfl
            · split
              · rfl
              · rfl)
        (b + 1) 4000 0 m1 (by omega) (by omega) hT
      refine ⟨m2, ?_, t2⟩
      rw [nI_1] at e2 ⊢
      rw [show (i + 1) * (b + 1) = i * (b + 1) + (b + 1) from Nat.succ_mul _ _]
      exact e2)
    (a + 1) 4000 0 m (by omega) (by omega) ⟨D, h, fun _ _ => rfl⟩
  refine ⟨m4, ?_, t4.2.2⟩
  unfold f_X9_leastRule
  rw [if_neg (nI_pos (by omega)), if_neg (show ¬ 20 < nI a from nI_nlt (a := 20) (by omega) (by omega)), if_neg (nI_pos (by omega)), if_neg (show ¬ 20 < nI b from nI_nlt (a := 20) (by omega) (by omega)), if_neg (by rw [ew]; exact nI_pos (by omega)), if_neg (show ¬ 2 < w by rw [ew]; exact nI_nlt (a := 2) (by omega) (by omega))]
  have e0 : (pm_s c 0 9223372036854775807 (fun k => nI (k / (b + 1))) (0 * (b + 1))) = (0, 9223372036854775807) := by rw [Nat.zero_mul]; rfl
  have e1 : (pm_s c 0 9223372036854775807 (fun k => nI (k % (b + 1))) (0 * (b + 1))) = (0, 9223372036854775807) := by rw [Nat.zero_mul]; rfl
  have hpos : (a + 1) * (b + 1) ≠ 0 := Nat.ne_of_gt (Nat.mul_pos (by omega) (by omega))
  try dsimp only at e4
  rw [e0, e1] at e4
  refine Eq.trans e4 ?_
  unfold pm_s
  rw [if_neg hpos, if_neg hpos]
  split
  · rfl
  · split <;> rfl
theorem k_found {m : ev_m} {c0 c1 c2 c3 : Nat} (hI : iv_B m 0 c0 c1 c2 c3) (x y z a b w : Int32) : kc_ m (fun m => f_X9_found m 0 x y z a b w) (fun m => f_X10_found m 0 x y z a b w) := by
  refine k_ready (bad := -1) (A := fun m => (f_X9_leastRule m 0 none z a b w).bind (fun p3 => (some ((p3.1, p3.2))))) (B := fun m => (if (s_X10_in m a 0 20) = true then (if (s_X10_in m b 0 20) = true then (if (s_X10_in m w 0 2) = true then (lp_X10_found_60 0 z a b w 4000 ((-1)) 0 0 m (fun x27 y28 m29 => (if w = 0 then (ev_dv x27 (b + 1)).bind (fun x33 => (some ((x33.toInt64, m29)))) else (if w = 1 then (ev_rm x27 (b + 1)).bind (fun x32 => (some ((x32.toInt64, m29)))) else (some ((y28, m29))))))) else (some (((-1), m)))) else (some (((-1), m)))) else (some (((-1), m))))) hI (fun n S D hz hn1 hn2 hS hD _ => ?_)
  subst hz
  by_cases hv : s_X10_in m a 0 20 = true ∧ s_X10_in m b 0 20 = true ∧ s_X10_in m w 0 2 = true
  · obtain ⟨ha, hb, hw⟩ := hv
    obtain ⟨a0, -, ha2, rfl⟩ := in_F (a := 0) (b := 20) (by decide) (by decide) ha
    obtain ⟨b0, -, hb2, rfl⟩ := in_F (a := 0) (b := 20) (by decide) (by decide) hb
    have hok : ∀ u v, pu_okD (upd (upd D 0 u) 1 v) := fun u v => (hD.put (by omega)).put (by omega)
    obtain ⟨c, hc⟩ : ∃ c : Nat → Int64, ∀ k, px_C S (upd (upd D 0 (nI (k / (b0 + 1)))) 1 (nI (k % (b0 + 1)))) n = c k := ⟨fun k => px_C S (upd (upd D 0 (nI (k / (b0 + 1)))) 1 (nI (k % (b0 + 1)))) n, fun _ => rfl⟩
    have hcm : ∀ j, c j < 9223372036854775807 := fun j => by rw [← hc]; exact px_C_max hS (by omega)
    have hN : (a0 + 1) * (b0 + 1) ≤ 21 * 21 := Nat.mul_le_mul (by omega) (by omega)
    have hpos : 0 < (a0 + 1) * (b0 + 1) := Nat.mul_pos (by omega) (by omega)
    refine ⟨if w = 0 then (nI (pm_ c ((a0 + 1) * (b0 + 1) - 1) / (b0 + 1))).toInt64 else if w = 1 then (nI (pm_ c ((a0 + 1) * (b0 + 1) - 1) % (b0 + 1))).toInt64 else c (pm_ c ((a0 + 1) * (b0 + 1) - 1)), fun m1 t1 => ?_, fun m' m3 hF t3 => ?_⟩
    · obtain ⟨m2, e2, F2⟩ := cl_rule (o := none) (n := n) (a := a0) (b := b0) (w := w) (c := c) ha2 hb2 hcm (by
        intro far quick m33 h1 h2 hT
        obtain ⟨m'', e, t⟩ := cl_trialCost (n := n) hT hS (hok _ _) (by omega)
        refine ⟨m'', fun K => ?_, t⟩
        have hk1 : (far * (b0 + 1) + quick) / (b0 + 1) = far := by
          rw [Nat.mul_comm, Nat.mul_add_div (by omega), Nat.div_eq_of_lt (by omega)]
          rfl
        have hk2 : (far * (b0 + 1) + quick) % (b0 + 1) = quick := by
          rw [Nat.mul_comm, Nat.mul_add_mod, Nat.mod_eq_of_lt (by omega)]
        have := hc (far * (b0 + 1) + quick)
        rw [hk1, hk2] at this
        rw [pq_on0, e, pq_sb, this]) t1 hw
      refine ⟨m2, ?_, F2⟩
      try dsimp only
      rw [e2, pq_sb]
    · obtain ⟨m4, e4, ⟨E, t4, -⟩⟩ := lp_mem (L := fun f (s : Int32 × Int64) i m => lp_X10_found_60 0 (nI n) (nI a0) (nI b0) w f s.1 s.2 i m (fun x27 y28 m29 => (if w = 0 then (ev_dv x27 (nI b0 + 1)).bind (fun x33 => (some ((x33.toInt64, m29)))) else (if w = 1 then (ev_rm x27 (nI b0 + 1)).bind (fun x32 => (some ((x32.toInt64, m29)))) else (some ((y28, m29))))))) (kx := fun s m29 => (if w = 0 then (ev_dv s.1 (nI b0 + 1)).bind (fun x33 => (some ((x33.toInt64, m29)))) else (if w = 1 then (ev_rm s.1 (nI b0 + 1)).bind (fun x32 => (some ((x32.toInt64, m29)))) else (some ((s.2, m29)))))) (T := fun m4 => ∃ E, tr_ m' m4 S E ∧ ∀ u v, upd (upd E 0 u) 1 v = upd (upd D 0 u) 1 v) (N := (a0 + 1) * (b0 + 1)) (g := pm_s c (-1) 0 nI) (ix := nI)
        (by
          intro f m'
          rw [lp_X10_found_60, nI_1, nI_1, pk_mul, if_neg (nI_nlt (Nat.le_refl _) (by omega))])
        (by
          intro f k m4 hk ⟨E, hT, hE⟩
          have hT2 := (hT.putD (k := 0) (v := nI (k / (b0 + 1))) (by decide)).putD (k := 1) (v := nI (k % (b0 + 1))) (by decide)
          rw [hE] at hT2
          obtain ⟨m'', e, t⟩ := rf_trialCost (n := n) hT2 hS (hok _ _) (by omega)
          rw [hc] at e
          refine ⟨m'', ?_, _, t, fun u v => ?_⟩
          · rw [lp_X10_found_60, nI_1, nI_1, pk_mul, if_pos (nI_lt hk (by omega))]
            rw [ev_dvN (by omega) (by omega) (by omega), pq_sb, show f_X10_put m4 0 0 _ = _ from rf_put (k := 0) (by decide), pq_sb, ev_rmN (by omega) (by omega) (by omega), pq_sb, show ∀ mm, f_X10_put mm 0 1 (nI (k % (b0 + 1))) = _ from fun mm => rf_put (k := 1) (by decide), pq_sb, e, pq_sb, pq_let, pq_let, pq_let, nI_1]
            try dsimp only
            rw [pm_r1 (fun j hj => nI_m1 (by omega)), pm_r2 (fun j hj => nI_m1 (by omega))]
          · funext x
            unfold upd
            split
            · rfl
            · split
              · rfl
              · rfl)
        ((a0 + 1) * (b0 + 1)) 4000 0 m3 (by omega) (by omega) ⟨D, t3, fun _ _ => rfl⟩
      have hl := pm_le c ((a0 + 1) * (b0 + 1) - 1)
      refine ⟨m4, ?_, t4.2.2⟩
      try dsimp only
      rw [if_pos (show s_X10_in m3 (nI a0) 0 20 = true from ha), if_pos (show s_X10_in m3 (nI b0) 0 20 = true from hb), if_pos (show s_X10_in m3 w 0 2 = true from hw)]
      refine Eq.trans e4 ?_
      unfold pm_s
      rw [if_neg (Nat.ne_of_gt hpos), nI_1]
      try dsimp only
      rw [ev_dvN (by omega) (by omega) (by omega), ev_rmN (by omega) (by omega) (by omega), pq_sb, pq_sb]
      split
      · rfl
      · split <;> rfl
  · refine ⟨-1, fun m1 t1 => ⟨m1, ?_, t1.2.2⟩, fun m' m3 hF t3 => ⟨m3, ?_, t3.2.2⟩⟩
    · try dsimp only
      unfold f_X9_leastRule
      by_cases a1 : a < 0
      · rw [if_pos a1, pq_sb]
      · rw [if_neg a1]
        by_cases a2 : 20 < a
        · rw [if_pos a2, pq_sb]
        · rw [if_neg a2]
          by_cases b1 : b < 0
          · rw [if_pos b1, pq_sb]
          · rw [if_neg b1]
            by_cases b2 : 20 < b
            · rw [if_pos b2, pq_sb]
            · rw [if_neg b2]
              by_cases w1 : w < 0
              · rw [if_pos w1, pq_sb]
              · rw [if_neg w1]
                by_cases w2 : 2 < w
                · rw [if_pos w2, pq_sb]
                · exact absurd ⟨in_y a1 a2, in_y b1 b2, in_y w1 w2⟩ hv
    · try dsimp only
      by_cases ha : s_X10_in m3 a 0 20 = true
      · rw [if_pos ha]
        by_cases hb : s_X10_in m3 b 0 20 = true
        · rw [if_pos hb]
          by_cases hw : s_X10_in m3 w 0 2 = true
          · exact absurd ⟨ha, hb, hw⟩ hv
          · rw [if_neg hw]
        · rw [if_neg hb]
      · rw [if_neg ha]
