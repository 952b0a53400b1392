/-! pure: tells, reads, whose -/
def pm_j (a : Nat → Int32) (v : Nat → Int32) (k : Nat) : Int32 × Int32 := if k = 0 then (-1, 2147483647) else (v (pm_ (fun j => (a j).toInt64) (k - 1)), a (pm_ (fun j => (a j).toInt64) (k - 1)))
theorem pm_j_s {a v : Nat → Int32} {k : Nat} (h : a k < 2147483647) : (if a k < (pm_j a v k).2 then v k else (pm_j a v k).1, if a k < (pm_j a v k).2 then a k else (pm_j a v k).2) = pm_j a v (k + 1) := by
  unfold pm_j
  rcases Nat.eq_zero_or_pos k with e | e
  · subst e
    show (if a 0 < 2147483647 then v 0 else -1, if a 0 < 2147483647 then a 0 else 2147483647) = (v 0, a 0)
    rw [if_pos h, if_pos h]
  · obtain ⟨j, rfl⟩ : ∃ j, k = j + 1 := ⟨k - 1, by omega⟩
    simp only [if_neg (show ¬ j + 1 = 0 by omega), if_neg (show ¬ j + 1 + 1 = 0 by omega), show j + 1 - 1 = j from rfl, show j + 1 + 1 - 1 = j + 1 from rfl]
    rw [pm_]
    simp only [fa_wide_lt]
    split <;> rfl
theorem pm_j1 {a v : Nat → Int32} {k : Nat} (h : a k < 2147483647) : (if a k < (pm_j a v k).2 then v k else (pm_j a v k).1) = (pm_j a v (k + 1)).1 := congrArg Prod.fst (pm_j_s h)
theorem pm_j2 {a v : Nat → Int32} {k : Nat} (h : a k < 2147483647) : (if a k < (pm_j a v k).2 then a k else (pm_j a v k).2) = (pm_j a v (k + 1)).2 := congrArg Prod.snd (pm_j_s h)
theorem pm_j_e {a v : Nat → Int32} {k : Nat} {y0 : Int64} : (pm_j a v k).1 = (pm_s (fun j => (a j).toInt64) (-1) y0 v k).1 := by
  unfold pm_j pm_s
  split <;> rfl
theorem px_A_max {S D B : Nat → Int32} {c : Nat} (hS : pu_okS S) (hB : ∀ k, k < c → -9999 ≤ (B (1 + k)).toInt ∧ (B (1 + k)).toInt ≤ 9999) (hc : c ≤ 60) : px_A S D B c < 2147483647 := by
  have := px_A_b (D := D) hS hB hc
  rw [fa_lt, show (2147483647 : Int32).toInt = 2147483647 from rfl]
  omega
/-- TELLS -/
theorem k_tells {m : ev_m} {c0 c1 c2 c3 : Nat} (hI : iv_B m 0 c0 c1 c2 c3) (x y z : Int32) : kc_ m (fun m => f_X9_tells m 0 x y z) (fun m => f_X10_tells m 0 x y z) := by
  refine k_paper (bad := -1) (A := fun j2 m => (lp_X9_tells_42 0 j2 4000 ((-1)) 2147483647 0 m (fun x18 m19 => (some ((x18, m19)))))) (B := fun m => (lp_X10_tells_35 0 z 4000 ((-1)) 0 0 m (fun x26 m27 => (some ((x26, m27)))))) hI (fun p c S D W hz hp hc1 hc hS hD h0 hB hpm => ?_)
  subst hz
  have hok : ∀ v, pu_okS (upd S 0 v) := fun v => hS.put (by omega)
  obtain ⟨a, ha⟩ : ∃ a : Nat → Int32, ∀ k, px_A (upd S 0 (nI k)) D W c = a k := ⟨fun k => px_A (upd S 0 (nI k)) D W c, fun _ => rfl⟩
  have ham : ∀ j, a j < 2147483647 := fun j => by rw [← ha]; exact px_A_max (hok _) hB hc
  refine ⟨(pm_j a nI 100).1, fun m1 t1 hP => ?_, fun m' m3 hF hpv t3 => ?_⟩
  · obtain ⟨m2, e2, ⟨v2, t2⟩, -⟩ := lp_mem (L := fun f (s : Int32 × Int32) i m => lp_X9_tells_42 0 p f s.1 s.2 i m (fun x18 m19 => (some ((x18, m19))))) (kx := fun s m => some (s.1, m)) (T := fun m' => (∃ v, tc_ m m' (upd S 0 v) D) ∧ cp_P m' p W) (N := 100) (g := pm_j a nI) (ix := nI)
      (by
        intro f m'
        rw [lp_X9_tells_42, if_pos (by decide)])
      (by
        intro f k m' hk ⟨⟨v, hT⟩, hP⟩
        have hT2 := hT.writeS (k := 0) (v := nI k) (by decide)
        rw [upd_twice] at hT2
        have hP2 : cp_P (s_X5_write m' 8 (nI 0) (nI k)) p W := by
          rw [cl_write 0 (by decide)]
          exact hP.fr ((pq_Fr.refl (fun r _ => r != 3) m').pim rfl) rfl rfl
        obtain ⟨m'', e, t, hP3⟩ := cl_trialApart hT2 (hok _) hD hP2 h0 hc
        rw [ha] at e
        refine ⟨m'', ?_, ⟨_, t⟩, hP3⟩
        rw [lp_X9_tells_42, if_neg (show ¬ 99 < nI k from nI_nlt (a := 99) (by omega) (by decide)), pq_let, show (0 : Int32) = nI 0 from rfl, e, pq_sb, pq_let, pq_let, pq_let, nI_1]
        dsimp only
        rw [pm_j1 (ham k), pm_j2 (ham k)])
      100 4000 0 m1 (by decide) (by decide) ⟨⟨S 0, by rw [upd_self]; exact t1⟩, hP⟩
    exact ⟨m2, e2, t2.2.2⟩
  · obtain ⟨m2, e2, v2, t2⟩ := lp_mem (L := fun f (s : Int32 × Int64) i m => lp_X10_tells_35 0 (nI p) f s.1 s.2 i m (fun x26 m27 => (some ((x26, m27))))) (kx := fun s m => some (s.1, m)) (T := fun m4 => ∃ v, tr_ m' m4 (upd S 0 v) D) (N := 100) (g := pm_s (fun j => (a j).toInt64) (-1) 0 nI) (ix := nI)
      (by
        intro f m'
        rw [lp_X10_tells_35, if_pos (by decide)])
      (by
        intro f k m4 hk ⟨v, hT⟩
        have hT2 := hT.putS (k := 0) (v := nI k)
        rw [upd_twice] at hT2
        obtain ⟨m'', e, ea, r, t⟩ := rf_trialApart hT2 (hok _) hD hp hpv h0 hB hc
        rw [ha] at ea
        refine ⟨m'', ?_, _, t⟩
        have key := pm_r (c := fun j => (a j).toInt64) (y0 := 0) (v := nI) (k := k) (fun j hj => nI_m1 (by omega))
        have k1 := congrArg Prod.fst key
        have k2 := congrArg Prod.snd key
        dsimp only at k1 k2
        rw [lp_X10_tells_35, if_neg (show ¬ 99 < nI k from nI_nlt (a := 99) (by omega) (by decide)), pq_let, rf_pn hp ((pv_P.fr hT2.2.2 rfl p).trans hpv) h0, pq_sb, e, pq_sb]
        unfold jn_X10_tells_82_35 jn_X10_tells_93_35
        rw [ea, pq_sb, pq_sb, nI_1]
        by_cases q1 : (pm_s (fun j => (a j).toInt64) (-1) 0 nI k).1 = -1
        · rw [if_pos q1] at k1 k2 ⊢
          rw [← k1, ← k2]
        · rw [if_neg q1] at k1 k2 ⊢
          by_cases q2 : (a k).toInt64 < (pm_s (fun j => (a j).toInt64) (-1) 0 nI k).2
          · rw [if_pos q2] at k1 k2 ⊢
            rw [← k1, ← k2]
          · rw [if_neg q2] at k1 k2 ⊢
            rw [← k1, ← k2])
      100 4000 0 m3 (by decide) (by decide) ⟨S 0, by rw [upd_self]; exact t3⟩
    refine ⟨m2, ?_, t2.2.2⟩
    refine Eq.trans e2 ?_
    rw [pm_j_e (y0 := 0)]
/-- READS -/
theorem k_reads {m : ev_m} {c0 c1 c2 c3 : Nat} (hI : iv_B m 0 c0 c1 c2 c3) (x y z a b w : Int32) : kc_ m (fun m => f_X9_reads m 0 x y z a b w) (fun m => f_X10_reads m 0 x y z a b w) := by
  refine k_paper (bad := -1) (A := fun j2 m => (f_X9_leastRule m 0 (some j2) (m.1 5 j2 1) a b w).bind (fun p5 => (some ((p5.1.toInt32, p5.2))))) (B := fun m => (if (s_X10_in m a 0 20) = true then (if (s_X10_in m b 0 20) = true then (if (s_X10_in m w 0 2) = true then (lp_X10_reads_67 0 z a b w 4000 ((-1)) 0 0 m (fun x35 y36 m37 => (if w = 0 then (ev_dv x35 (b + 1)).bind (fun x41 => (some ((x41, m37)))) else (if w = 1 then (ev_rm x35 (b + 1)).bind (fun x40 => (some ((x40, m37)))) else (some ((y36.toInt32, m37))))))) else (some (((-1), m)))) else (some (((-1), m)))) else (some (((-1), m))))) hI (fun p c S D W hz hp hc1 hc hS hD h0 hB hpm => ?_)
  subst hz
  by_cases hv : s_X10_in m a 0 20 = true ∧ s_X10_in m b 0 20 = true ∧ s_X10_in m w 0 2 = true
  · obtain ⟨ha, hb, hw⟩ := hv
    obtain ⟨a0, -, ha2, rfl⟩ := in_F (a := 0) (b := 20) (by decide) (by decide) ha
    obtain ⟨b0, -, hb2, rfl⟩ := in_F (a := 0) (b := 20) (by decide) (by decide) hb
    have hok : ∀ u v, pu_okD (upd (upd D 0 u) 1 v) := fun u v => (hD.put (by omega)).put (by omega)
    obtain ⟨A, hA⟩ : ∃ A : Nat → Int32, ∀ k, px_A S (upd (upd D 0 (nI (k / (b0 + 1)))) 1 (nI (k % (b0 + 1)))) W c = A k := ⟨fun k => px_A S (upd (upd D 0 (nI (k / (b0 + 1)))) 1 (nI (k % (b0 + 1)))) W c, fun _ => rfl⟩
    have hAb : ∀ j, (A j).toInt64 < 9223372036854775807 := fun j => by
      have := px_A_b (D := upd (upd D 0 (nI (j / (b0 + 1)))) 1 (nI (j % (b0 + 1)))) hS hB hc
      rw [hA] at this
      exact pL_max (by rw [Int32.toInt_toInt64]; omega)
    have hN : (a0 + 1) * (b0 + 1) ≤ 21 * 21 := Nat.mul_le_mul (by omega) (by omega)
    have hpos : 0 < (a0 + 1) * (b0 + 1) := Nat.mul_pos (by omega) (by omega)
    refine ⟨if w = 0 then nI (pm_ (fun j => (A j).toInt64) ((a0 + 1) * (b0 + 1) - 1) / (b0 + 1)) else if w = 1 then nI (pm_ (fun j => (A j).toInt64) ((a0 + 1) * (b0 + 1) - 1) % (b0 + 1)) else A (pm_ (fun j => (A j).toInt64) ((a0 + 1) * (b0 + 1) - 1)), fun m1 t1 hP => ?_, fun m' m3 hF hpv t3 => ?_⟩
    · have t1' : tc_ m1 m1 S D := ⟨t1.1, t1.2.1, pq_Fr.refl _ m1⟩
      obtain ⟨m2, e2, F2⟩ := cl_rule (m0 := m1) (o := some p) (n := c) (a := a0) (b := b0) (w := w) (c := fun j => (A j).toInt64) ha2 hb2 hAb (by
        intro far quick m33 h1 h2 hT
        have hP3 : cp_P m33 p W := hP.fr hT.2.2 (PC_8 (by omega) (by omega) (by omega)) (PC_8 (by omega) (by omega) (by omega))
        obtain ⟨m'', e, t, -⟩ := cl_trialApart hT hS (hok _ _) hP3 h0 hc
        refine ⟨m'', fun K => ?_, t⟩
        have hk1 : (far * (b0 + 1) + quick) / (b0 + 1) = far := by
          rw [Nat.mul_comm, Nat.mul_add_div (by omega), Nat.div_eq_of_lt (by omega)]
          rfl
        have hk2 : (far * (b0 + 1) + quick) % (b0 + 1) = quick := by
          rw [Nat.mul_comm, Nat.mul_add_mod, Nat.mod_eq_of_lt (by omega)]
        have := hA (far * (b0 + 1) + quick)
        rw [hk1, hk2] at this
        rw [pq_on1, e, pq_sb, this]) t1' hw
      refine ⟨m2, ?_, t1.2.2.trans F2⟩
      try dsimp only
      rw [hP.1, h0, e2, pq_sb]
      by_cases w0 : w = 0
      · rw [if_pos w0, if_pos w0, Int32.toInt32_toInt64]
      · rw [if_neg w0, if_neg w0]
        by_cases w1 : w = 1
        · rw [if_pos w1, if_pos w1, Int32.toInt32_toInt64]
        · rw [if_neg w1, if_neg w1, Int32.toInt32_toInt64]
    · obtain ⟨m4, e4, ⟨E, t4, -⟩⟩ := lp_mem (L := fun f (s : Int32 × Int64) i m => lp_X10_reads_67 0 (nI p) (nI a0) (nI b0) w f s.1 s.2 i m (fun x27 y28 m29 => (if w = 0 then (ev_dv x27 (nI b0 + 1)).bind (fun x33 => (some ((x33, m29)))) else (if w = 1 then (ev_rm x27 (nI b0 + 1)).bind (fun x32 => (some ((x32, m29)))) else (some ((y28.toInt32, m29))))))) (kx := fun s m29 => (if w = 0 then (ev_dv s.1 (nI b0 + 1)).bind (fun x33 => (some ((x33, m29)))) else (if w = 1 then (ev_rm s.1 (nI b0 + 1)).bind (fun x32 => (some ((x32, m29)))) else (some ((s.2.toInt32, m29)))))) (T := fun m4 => ∃ E, tr_ m' m4 S E ∧ ∀ u v, upd (upd E 0 u) 1 v = upd (upd D 0 u) 1 v) (N := (a0 + 1) * (b0 + 1)) (g := pm_s (fun j => (A j).toInt64) (-1) 0 nI) (ix := nI)
        (by
          intro f m'
          rw [lp_X10_reads_67, nI_1, nI_1, pk_mul, if_neg (nI_nlt (Nat.le_refl _) (by omega))])
        (by
          intro f k m4 hk ⟨E, hT, hE⟩
          have hT2 := (hT.putD (k := 0) (v := nI (k / (b0 + 1))) (by decide)).putD (k := 1) (v := nI (k % (b0 + 1))) (by decide)
          rw [hE] at hT2
          obtain ⟨m'', e, ea, r, t⟩ := rf_trialApart hT2 hS (hok _ _) hp hpv h0 hB hc
          rw [hA] at ea
          refine ⟨m'', ?_, _, t, fun u v => ?_⟩
          · have key := pm_r (c := fun j => (A j).toInt64) (y0 := 0) (v := nI) (k := k) (fun j hj => nI_m1 (by omega))
            have k1 := congrArg Prod.fst key
            have k2 := congrArg Prod.snd key
            dsimp only at k1 k2
            rw [lp_X10_reads_67, nI_1, nI_1, pk_mul, if_pos (nI_lt hk (by omega))]
            rw [ev_dvN (by omega) (by omega) (by omega), pq_sb, show f_X10_put m4 0 0 _ = _ from rf_put (k := 0) (by decide), pq_sb, ev_rmN (by omega) (by omega) (by omega), pq_sb, show ∀ mm, f_X10_put mm 0 1 (nI (k % (b0 + 1))) = _ from fun mm => rf_put (k := 1) (by decide), pq_sb, rf_pn hp ((pv_P.fr hT2.2.2 rfl p).trans hpv) h0, pq_sb, e, pq_sb]
            unfold jn_X10_reads_137_67 jn_X10_reads_148_67
            rw [ea, pq_sb, pq_sb, nI_1]
            by_cases q1 : (pm_s (fun j => (A j).toInt64) (-1) 0 nI k).1 = -1
            · rw [if_pos q1] at k1 k2 ⊢
              rw [← k1, ← k2]
            · rw [if_neg q1] at k1 k2 ⊢
              by_cases q2 : (A k).toInt64 < (pm_s (fun j => (A j).toInt64) (-1) 0 nI k).2
              · rw [if_pos q2] at k1 k2 ⊢
                rw [← k1, ← k2]
              · rw [if_neg q2] at k1 k2 ⊢
                rw [← k1, ← k2]
          · funext x
            unfold upd
            split
            · rfl
            · split
              · rfl
              · rfl)
        ((a0 + 1) * (b0 + 1)) 4000 0 m3 (by omega) (by omega) ⟨D, t3, fun _ _ => rfl⟩
      have hl := pm_le (fun j => (A j).toInt64) ((a0 + 1) * (b0 + 1) - 1)
      refine ⟨m4, ?_, t4.2.2⟩
      try dsimp only
      rw [if_pos (show s_X10_in m3 (nI a0) 0 20 = true from ha), if_pos (show s_X10_in m3 (nI b0) 0 20 = true from hb), if_pos (show s_X10_in m3 w 0 2 = true from hw)]
      refine Eq.trans e4 ?_
      unfold pm_s
      rw [if_neg (Nat.ne_of_gt hpos), nI_1]
      try dsimp only
      rw [ev_dvN (by omega) (by omega) (by omega), ev_rmN (by omega) (by omega) (by omega), pq_sb, pq_sb, Int32.toInt32_toInt64]
      split
      · rfl
      · split <;> rfl
  · refine ⟨-1, fun m1 t1 _ => ⟨m1, ?_, t1.2.2⟩, fun m' m3 hF _ t3 => ⟨m3, ?_, t3.2.2⟩⟩
    · try dsimp only
      have : f_X9_leastRule m1 0 (some p) (m1.1 5 p 1) a b w = some (-1, m1) := by
        unfold f_X9_leastRule
        by_cases a1 : a < 0
        · rw [if_pos a1]
        · rw [if_neg a1]
          by_cases a2 : 20 < a
          · rw [if_pos a2]
          · rw [if_neg a2]
            by_cases b1 : b < 0
            · rw [if_pos b1]
            · rw [if_neg b1]
              by_cases b2 : 20 < b
              · rw [if_pos b2]
              · rw [if_neg b2]
                by_cases w1 : w < 0
                · rw [if_pos w1]
                · rw [if_neg w1]
                  by_cases w2 : 2 < w
                  · rw [if_pos w2]
                  · exact absurd ⟨in_y a1 a2, in_y b1 b2, in_y w1 w2⟩ hv
      rw [this, pq_sb]
      rfl
    · try dsimp only
      by_cases ha : s_X10_in m3 a 0 20 = true
      · rw [if_pos ha]
        by_cases hb : s_X10_in m3 b 0 20 = true
        · rw [if_pos hb]
          by_cases hw : s_X10_in m3 w 0 2 = true
          · exact absurd ⟨ha, hb, hw⟩ hv
          · rw [if_neg hw]
        · rw [if_neg hb]
      · rw [if_neg ha]
/-- a loop whose end hangs on the memory -/
theorem lp_memT {β σ : Type} {N : Nat} {L : Nat → σ → Int32 → ev_m → Option β} {kx : σ → ev_m → Option β} {T : ev_m → Prop} {g : Nat → σ} {ix : Nat → Int32}
    (h0 : ∀ f m, T m → L (f + 1) (g N) (ix N) m = kx (g N) m) (hs : ∀ f k m, k < N → T m → ∃ m', L (f + 1) (g k) (ix k) m = L f (g (k + 1)) (ix (k + 1)) m' ∧ T m') : ∀ n f k m, k + n = N → n < f → T m → ∃ m', L f (g k) (ix k) m = kx (g N) m' ∧ T m' := by
  intro n
  induction n with
  | zero =>
    intro f k m hk hf hT
    obtain ⟨e, rfl⟩ : ∃ e, f = e + 1 := ⟨f - 1, by omega⟩
    rw [show k = N by omega]
    exact ⟨m, h0 e m hT, hT⟩
  | succ n ih =>
    intro f k m hk hf hT
    obtain ⟨e, rfl⟩ : ∃ e, f = e + 1 := ⟨f - 1, by omega⟩
    obtain ⟨m1, e1, t1⟩ := hs e k m (by omega) hT
    rw [e1]
    exact ih e (k + 1) m1 (by omega) (by omega) t1
/-- WHOSE -/
theorem k_whose {m : ev_m} {c0 c1 c2 c3 : Nat} (hI : iv_B m 0 c0 c1 c2 c3) (x z : Int32) : kc_ m (fun m => f_X9_whose m 0 x z) (fun m => f_X10_whose m 0 x z) := by
  have hb1 : c1 ≤ 4 := hI.1.2.1
  have his0 : ∀ m', pq_Fr PI_ m m' → ∀ x, f_X10_is (ev_pim m' 10 0 0 0) 0 0 x = some (s_X10_in (ev_pim m' 10 0 0 0) x 0 (nI c0 - 1)) := fun m' hF x => rf_is (t := 0) (by decide) (hI.fr (hF.trans PI_pim) (by decide) (m' := ev_pim m' 10 0 0 0)).2.2.1.1
  have his2 : ∀ m', pq_Fr PI_ m m' → ∀ x, f_X10_is (ev_pim m' 10 0 0 0) 0 2 x = some (s_X10_in (ev_pim m' 10 0 0 0) x 0 (nI c2 - 1)) := fun m' hF x => rf_is (t := 2) (by decide) (hI.fr (hF.trans PI_pim) (by decide) (m' := ev_pim m' 10 0 0 0)).2.2.1.2.2.1
  by_cases hz : ∃ p, p < c2 ∧ z = nI p
  · obtain ⟨p, hp, rfl⟩ := hz
    have hp2 : p < 2 := by have := hI.1.2.2.1; omega
    obtain ⟨c, hc1, hc, h0, hB⟩ := iv_okP hI hp
    have hP := iv_cP hI hp
    by_cases hx : ∃ s, s < c0 ∧ x = nI s
    · obtain ⟨s, hs, rfl⟩ := hx
      have hs2 : s < 2 := by have := hI.1.1; omega
      have hS := iv_okS hI hs
      obtain ⟨a, ha⟩ : ∃ a : Nat → Int32, ∀ k, px_A (pv_S m s) (pv_D m k) (pv_P m p) c = a k := ⟨fun k => px_A (pv_S m s) (pv_D m k) (pv_P m p) c, fun _ => rfl⟩
      have ham : ∀ j, a j < 2147483647 := fun j => by rw [← ha]; exact px_A_max hS hB hc
      obtain ⟨m2, e2, t2⟩ := lp_memT (L := fun f (s' : Int32 × Int32) i m => lp_X9_whose_26 0 (nI s) p f s'.1 s'.2 i m (fun x22 m23 => (some ((x22, m23))))) (kx := fun s m => some (s.1, m)) (T := fun m' => pq_Fr PI_ m m') (N := c1) (g := pm_j a nI) (ix := nI)
        (by
          intro f m' hT
          rw [lp_X9_whose_26, (hI.fr hT (by decide)).2.1.2.1, if_neg (nI_nlt (Nat.le_refl _) (by omega))])
        (by
          intro f k m' hk hT
          have hI' := hI.fr hT (by decide)
          obtain ⟨m1, e1, t1⟩ := cl_ready_t (n := c) hI' hs hk hc1 (by omega)
          rw [pv_S.fr hT (PI_k (by decide)), pv_D.fr hT (PI_k (by decide))] at t1
          have hP' : cp_P m' p (pv_P m p) := hP.fr hT (PI_s (by omega)) (PI_s (by omega))
          obtain ⟨m'', e, t, -⟩ := cl_trialApart t1 hS (iv_okD hI hk) (hP'.fr t1.2.2 (PC_8 (by omega) (by omega) (by omega)) (PC_8 (by omega) (by omega) (by omega))) h0 hc
          rw [ha] at e
          refine ⟨m'', ?_, hT.trans (t.2.2.sub PI_C)⟩
          rw [lp_X9_whose_26, hI'.2.1.2.1, if_pos (nI_lt hk (by omega)), hP'.1, h0, e1, pq_sb, if_pos rfl, e, pq_sb, pq_let, pq_let, pq_let, nI_1]
          dsimp only
          rw [pm_j1 (ham k), pm_j2 (ham k)])
        c1 4000 0 m (by omega) (by omega) (pq_Fr.refl _ m)
      obtain ⟨m4, e4, t4⟩ := lp_memT (L := fun f (s' : Int32 × Int64) i m => lp_X10_whose_33 0 (nI s) (nI p) f s'.1 s'.2 i m (fun x28 m29 => (some ((x28, m29))))) (kx := fun s m => some (s.1, m)) (T := fun m4 => pq_Fr PR_ m2 m4) (N := c1) (g := pm_s (fun j => (a j).toInt64) (-1) 0 nI) (ix := nI)
        (by
          intro f m' hT
          rw [lp_X10_whose_33, (hI.fr (t2.trans (hT.sub PI_R)) (by decide)).2.2.1.2.1, if_neg (nI_nlt (Nat.le_refl _) (by omega))])
        (by
          intro f k m' hk hT
          have hF := t2.trans (hT.sub PI_R)
          have hI' := hI.fr hF (by decide)
          obtain ⟨m3, e3, r3, r3b, F3⟩ := rf_lay_t (m := m') (x3 := 0) hI'.2.2.1.1 hI'.2.2.1.2.1 hI'.1.1 hI'.1.2.1 hs hk
          rw [pv_S.fr hF (PI_k (by decide))] at r3
          rw [pv_D.fr hF (PI_k (by decide))] at r3b
          have hT3 : tr_ m' m3 (pv_S m s) (pv_D m k) := ⟨r3, r3b, F3.sub PR_L⟩
          have hpv : pv_P m' p = pv_P m p := pv_P.fr hF (PI_k (by decide)) p
          obtain ⟨m'', e, ea, r, t⟩ := rf_trialApart hT3 hS (iv_okD hI hk) hp2 hpv h0 hB hc
          rw [ha] at ea
          refine ⟨m'', ?_, hT.trans t.2.2⟩
          have key := pm_r (c := fun j => (a j).toInt64) (y0 := 0) (v := nI) (k := k) (fun j hj => nI_m1 (by omega))
          have k1 := congrArg Prod.fst key
          have k2 := congrArg Prod.snd key
          dsimp only at k1 k2
          rw [lp_X10_whose_33, hI'.2.2.1.2.1, if_pos (nI_lt hk (by omega)), e3, pq_sb, pq_let, rf_pn hp2 ((pv_P.fr (F3.sub PR_L) rfl p).trans hpv) h0, pq_sb, show bi true = 1 from rfl, e, pq_sb]
          unfold jn_X10_whose_86_33 jn_X10_whose_96_33
          rw [ea, pq_sb, pq_sb, nI_1]
          by_cases q1 : (pm_s (fun j => (a j).toInt64) (-1) 0 nI k).1 = -1
          · rw [if_pos q1] at k1 k2 ⊢
            rw [← k1, ← k2]
          · rw [if_neg q1] at k1 k2 ⊢
            by_cases q2 : (a k).toInt64 < (pm_s (fun j => (a j).toInt64) (-1) 0 nI k).2
            · rw [if_pos q2] at k1 k2 ⊢
              rw [← k1, ← k2]
            · rw [if_neg q2] at k1 k2 ⊢
              rw [← k1, ← k2])
        c1 4000 0 (ev_pim m2 10 0 0 0) (by omega) (by omega) ((pq_Fr.refl _ m2).pim rfl)
      refine ⟨(pm_j a nI c1).1, m2, m4, ?_, ?_, t2.trans (t4.sub PI_R)⟩
      · try dsimp only
        unfold f_X9_whose
        rw [pat_t hI hp, pq_sb, pq_on1]
        exact e2
      · try dsimp only
        unfold f_X10_whose
        rw [pq_let, his0 m2 t2, pq_sb, is_T hs (by have := hI.1.1; omega), if_pos rfl, his2 m2 t2, pq_sb, is_T hp (by have := hI.1.2.2.1; omega), if_pos rfl]
        refine Eq.trans e4 ?_
        rw [pm_j_e (y0 := 0)]
    · have hno : ¬ ((∃ s, s < c0 ∧ x = nI s)) := hx
      obtain ⟨m2, e2, t2⟩ := lp_memT (L := fun f (s' : Int32 × Int32) i m => lp_X9_whose_26 0 x p f s'.1 s'.2 i m (fun x22 m23 => (some ((x22, m23))))) (kx := fun s m => some (s.1, m)) (T := fun m' => m' = m) (N := c1) (g := fun _ => (-1, 2147483647)) (ix := nI)
        (by
          intro f m' hT
          subst hT
          rw [lp_X9_whose_26, hI.2.1.2.1, if_neg (nI_nlt (Nat.le_refl _) (by omega))])
        (by
          intro f k m' hk hT
          subst hT
          refine ⟨m', ?_, rfl⟩
          rw [lp_X9_whose_26, hI.2.1.2.1, if_pos (nI_lt hk (by omega)), cl_ready_f hI (fun q => hx q.1), pq_sb, if_neg Bool.false_ne_true]
          unfold jn_X9_whose_74_26
          rw [nI_1])
        c1 4000 0 m (by omega) (by omega) rfl
      subst t2
      refine ⟨-1, m2, ev_pim m2 10 0 0 0, ?_, ?_, PI_pim⟩
      · try dsimp only
        unfold f_X9_whose
        rw [pat_t hI hp, pq_sb, pq_on1]
        exact e2
      · try dsimp only
        unfold f_X10_whose
        rw [pq_let, his0 _ (pq_Fr.refl _ _), pq_sb, if_neg (fun q => hx (is_F (by have := hI.1.1; omega) q))]
  · refine ⟨-1, m, ev_pim m 10 0 0 0, ?_, ?_, PI_pim⟩
    · try dsimp only
      unfold f_X9_whose
      rw [pat_f hI hz, pq_sb, pq_on0]
    · try dsimp only
      unfold f_X10_whose
      rw [pq_let, his0 _ (pq_Fr.refl _ _), pq_sb]
      by_cases h1 : s_X10_in (ev_pim m 10 0 0 0) x 0 (nI c0 - 1) = true
      · rw [if_pos h1, his2 _ (pq_Fr.refl _ _), pq_sb, if_neg (fun q => hz (is_F (by have := hI.1.2.2.1; omega) q))]
      · rw [if_neg h1]
