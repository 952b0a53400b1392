/-! pure: harder seas -/
def ps_K (S : Nat → Int32) (v : Int32) : Nat → Int32 := fun c => if 11 ≤ c ∧ c < 11 + (S 10).toNatClampNeg then v * S c else S c
theorem ps_K_lo (S : Nat → Int32) (v : Int32) {c : Nat} (h : c < 11) : ps_K S v c = S c := if_neg (by omega)
theorem pu_okS.K {S : Nat → Int32} (h : pu_okS S) (v : Int32) : pu_okS (ps_K S v) := by
  unfold pu_okS
  rw [ps_K_lo S v (by decide), ps_K_lo S v (by decide), ps_K_lo S v (by decide), ps_K_lo S v (by decide), ps_K_lo S v (by decide), ps_K_lo S v (by decide)]
  exact h
/-- the class's seas taken k times -/
theorem cl_seas_l {s cnt : Nat} {v : Int32} {kx : ev_m → Option ev_m} (hs : s ≠ 8) (h12 : cnt ≤ 12) : ∀ n f k m, k + n = cnt → n < f → m.1 3 8 10 = nI cnt → ∃ m', lp_X5_takeSeas_15 8 s v f (nI k) m kx = kx m' ∧ (∀ c, k ≤ c → c < cnt → m'.1 12 8 c = v * m.1 12 s c) ∧ (∀ r x c, ¬ (r = 12 ∧ x = 8 ∧ k ≤ c) → m'.1 r x c = m.1 r x c) ∧ m'.2 = m.2 := by
  intro n
  induction n with
  | zero =>
    intro f k m hk hf h10
    obtain ⟨g, rfl⟩ : ∃ g, f = g + 1 := ⟨f - 1, by omega⟩
    rw [lp_X5_takeSeas_15, h10, if_neg (nI_nlt (by omega) (by omega))]
    exact ⟨m, rfl, fun c _ _ => by omega, fun _ _ _ _ => rfl, rfl⟩
  | succ n ih =>
    intro f k m hk hf h10
    obtain ⟨g, rfl⟩ : ∃ g, f = g + 1 := ⟨f - 1, by omega⟩
    rw [lp_X5_takeSeas_15, h10, if_pos (nI_lt (by omega) (by omega)), pq_at (by omega) (by decide), pq_put (by omega) (by decide), pq_let, nI_1]
    obtain ⟨m', e, h1, h2, h3⟩ := ih g (k + 1) (ev_pim m 12 8 k (v * m.1 12 s k)) (by omega) (by omega) (by rw [pq_pim, if_neg (by omega)]; exact h10)
    refine ⟨m', e, ?_, ?_, h3⟩
    · intro c a1 a2
      by_cases q : c = k
      · rw [h2 12 8 c (by omega), q]; simp [pq_pim]
      · rw [h1 c (by omega) a2, pq_pim, if_neg (fun e => hs e.2.1)]
    · intro r x c hn
      rw [h2 r x c (by omega), pq_pim, if_neg (by omega)]
theorem tc_.seas {m0 m : ev_m} {S E D : Nat → Int32} {s : Nat} {v : Int32} (h : tc_ m0 m E D) (hS : pu_okS S) (hs : s < 2) (hc : cc_S m0 s S) (hE : ∀ c, c < 11 → E c = S c) : ∃ m', f_X5_takeSeas m 8 (some s) v = some m' ∧ tc_ m0 m' (ps_K S v) D := by
  obtain ⟨-, -, -, -, -, cnt, hc1, hc2, e10⟩ := hS
  have hcl : (S 10).toNatClampNeg = cnt := by rw [e10]; exact nI_clamp (by omega)
  have hp3 : PC_ 3 s = true := PC_8 (by omega) (by omega) (by omega)
  have hp12 : PC_ 12 s = true := PC_8 (by omega) (by omega) (by omega)
  have h10 : (ev_pim m 3 8 10 (m.1 3 s 10)).1 3 8 10 = nI cnt := by
    rw [pq_pim, if_pos ⟨rfl, rfl, rfl⟩, h.2.2 3 s 10 hp3, hc.1 10 (by decide), e10]
  obtain ⟨m', e, h1, h2, h3⟩ := cl_seas_l (kx := fun m10 => some m10) (s := s) (v := v) (by omega) hc2 cnt 4000 0 (ev_pim m 3 8 10 (m.1 3 s 10)) (by omega) (by omega) h10
  unfold f_X5_takeSeas
  rw [pq_on1, pq_let]
  refine ⟨m', e, ⟨fun k hk => ?_, fun k hk => ?_⟩, ⟨fun k hk => ?_, fun k hk => ⟨?_, ?_⟩⟩, fun r i k hp => ?_⟩
  · rw [h2 3 8 k (by omega), ps_K_lo S v hk, pq_pim]
    by_cases q : k = 10
    · rw [if_pos ⟨rfl, rfl, q⟩, h.2.2 3 s 10 hp3, hc.1 10 (by decide), q]
    · rw [if_neg (fun e => q e.2.2), h.1.1 k hk, hE k hk]
  · rw [ps_K_lo S v (by decide), hcl] at hk
    rw [h1 k (by omega) hk, pq_pim, if_neg (by omega), h.2.2 12 s k hp12, hc.2 k (by omega)]
    unfold ps_K
    rw [if_pos (by omega)]
  · rw [h2 4 16 k (by omega), pq_pim, if_neg (by omega)]
    exact h.2.1.1 k hk
  · rw [h2 13 16 k (by omega), pq_pim, if_neg (by omega)]
    exact (h.2.1.2 k hk).1
  · rw [h2 14 16 k (by omega), pq_pim, if_neg (by omega)]
    exact (h.2.1.2 k hk).2
  · have := PC_no hp
    rw [h2 r i k (by omega), pq_pim, if_neg (by omega)]
    exact h.2.2 r i k hp
/-- the reference's -/
theorem rf_seas_l {s cnt : Nat} {v x6 x7 x8 x9 : Int32} {kx : ev_m → Option (Int32 × ev_m)} (hs : s < 2) (h12 : cnt ≤ 12) : ∀ n f k m, k + n = cnt → n < f → m.1 40 0 10 = nI cnt → ∃ m', lp_X10_hard_38 0 (nI s) x7 x8 x9 v f (nI k) m kx = kx m' ∧ (∀ c, k ≤ c → c < cnt → m'.1 40 0 (11 + c) = v * m.1 35 0 (23 * s + (11 + c))) ∧ (∀ r x c, ¬ (r = 40 ∧ x = 0 ∧ 11 + k ≤ c ∧ c < 11 + cnt) → m'.1 r x c = m.1 r x c) := by
  intro n
  induction n with
  | zero =>
    intro f k m hk hf h10
    obtain ⟨g, rfl⟩ : ∃ g, f = g + 1 := ⟨f - 1, by omega⟩
    rw [lp_X10_hard_38, h10, if_neg (nI_nlt (by omega) (by omega))]
    exact ⟨m, rfl, fun c _ _ => by omega, fun _ _ _ _ => rfl⟩
  | succ n ih =>
    intro f k m hk hf h10
    obtain ⟨g, rfl⟩ : ∃ g, f = g + 1 := ⟨f - 1, by omega⟩
    have e1 : (23 : Int32) * nI s + 10 + 1 + nI k = nI (23 * s + (11 + k)) := by
      rw [show (23 : Int32) = nI 23 from rfl, pk_mul, show (10 : Int32) = nI 10 from rfl, nI_add, nI_1, nI_add, show 23 * s + 10 + 1 + k = 23 * s + (11 + k) by omega]
    have e2 : (11 : Int32) + nI k = nI (11 + k) := by rw [show (11 : Int32) = nI 11 from rfl, nI_add]
    rw [lp_X10_hard_38, h10, if_pos (nI_lt (by omega) (by omega)), e1, pq_ald (by omega) (by decide), pq_sb, e2, pq_ast (by omega) (by decide), pq_sb, nI_1]
    obtain ⟨m', e, h1, h2⟩ := ih g (k + 1) (ev_pim m 40 0 (11 + k) (v * m.1 35 0 (23 * s + (11 + k)))) (by omega) (by omega) (by rw [pq_pim, if_neg (by omega)]; exact h10)
    refine ⟨m', e, ?_, ?_⟩
    · intro c a1 a2
      by_cases q : c = k
      · rw [h2 40 0 (11 + c) (by omega), q]; simp [pq_pim]
      · rw [h1 c (by omega) a2, pq_pim, if_neg (by omega)]
    · intro r x c hn
      rw [h2 r x c (by omega), pq_pim, if_neg (by omega)]
theorem tr_.seas {m0 m : ev_m} {S E D : Nat → Int32} {s : Nat} {v x7 x8 x9 : Int32} {kx : ev_m → Option (Int32 × ev_m)} (h : tr_ m0 m E D) (hS : pu_okS S) (hs : s < 2) (hc : ∀ c, m0.1 35 0 (23 * s + c) = S c) (hE : ∀ c, ¬ (11 ≤ c ∧ c < 11 + (S 10).toNatClampNeg) → E c = S c) : ∃ m', lp_X10_hard_38 0 (nI s) x7 x8 x9 v 4000 0 m kx = kx m' ∧ tr_ m0 m' (ps_K S v) D := by
  obtain ⟨-, -, -, -, -, cnt, hc1, hc2, e10⟩ := hS
  have hcl : (S 10).toNatClampNeg = cnt := by rw [e10]; exact nI_clamp (by omega)
  rw [hcl] at hE
  have h10 : m.1 40 0 10 = nI cnt := by rw [h.1 10 (by decide), hE 10 (by omega), e10]
  obtain ⟨m', e, h1, h2⟩ := rf_seas_l (kx := kx) (x6 := 0) (x7 := x7) (x8 := x8) (x9 := x9) (v := v) hs hc2 cnt 4000 0 m (by omega) (by omega) h10
  refine ⟨m', e, fun k hk => ?_, fun k hk => ?_, fun r i k hp => ?_⟩
  · unfold ps_K
    rw [hcl]
    by_cases q : 11 ≤ k ∧ k < 11 + cnt
    · rw [if_pos q, show k = 11 + (k - 11) by omega, h1 (k - 11) (by omega) (by omega), h.2.2 35 0 _ rfl, hc]
    · rw [if_neg q, h2 40 0 k (by omega), h.1 k hk, hE k q]
  · rw [h2 41 0 _ (by omega)]
    exact h.2.1 k hk
  · have hr : r ≠ 40 := by
      intro e
      subst e
      cases hp
    rw [h2 r i k (by omega)]
    exact h.2.2 r i k hp
/-- HARD -/
theorem k_hard {m : ev_m} {c0 c1 c2 c3 : Nat} (hI : iv_B m 0 c0 c1 c2 c3) (x y z w : Int32) : kc_ m (fun m => f_X9_hard m 0 x y z w) (fun m => f_X10_hard m 0 x y z w) := by
  by_cases hx : ∃ s, s < c0 ∧ x = nI s
  · obtain ⟨s, hs, rfl⟩ := hx
    have hs2 : s < 2 := by have := hI.1.1; omega
    have key := k_ready (bad := -1) (x := nI s) (y := y) (z := z) (A := fun m => (if w < 0 then (some (((-1), m))) else (lp_X9_hard_36 0 z w s 4000 9 m (fun m16 => (some (((-1), m16))))))) (B := fun m => (if w < 0 then (some (((-1), m))) else (lp_X10_hard_28 0 (nI s) z w 4000 ((-1)) 0 m (fun x28 m29 => (some ((x28, m29))))))) hI (fun n S D hz hn1 hn2 hS hD ⟨s', hs', es, eS⟩ => by
      subst hz
      have es2 : s = s' := (nI_eq (by omega) (by have := hI.1.1; omega)).mp es
      subst es2
      have hcS : cc_S m s S := by rw [eS]; exact iv_cS hI hs
      have hpS : ∀ c, m.1 35 0 (23 * s + c) = S c := fun c => by rw [eS]; rfl
      by_cases hw : w < 0
      · exact ⟨-1, fun m1 t1 => ⟨m1, if_pos hw, t1.2.2⟩, fun m' m3 hF t3 => ⟨m3, if_pos hw, t3.2.2⟩⟩
      refine ⟨pz_dn (fun k => !decide (w < px_W (ps_K S (nI k)) D n)) 10, fun m1 t1 => ?_, fun m' m3 hF t3 => ?_⟩
      · have := lp_dn (L := fun f x m => lp_X9_hard_36 0 (nI n) w s f x m (fun m16 => (some (((-1), m16))))) (T := fun m' => ∃ E, tc_ m m' E D ∧ ∀ c, c < 11 → E c = S c) (p := fun k => !decide (w < px_W (ps_K S (nI k)) D n)) (N := 10)
          (by
            intro f m' hT
            refine ⟨m', ?_, hT⟩
            rw [lp_X9_hard_36, if_pos (by decide)])
          (by
            intro f k m' hk ⟨E, hT, hE⟩
            obtain ⟨m2, e2, t2⟩ := hT.seas (v := nI k) hS hs2 hcS hE
            obtain ⟨m'', e, t⟩ := cl_wide (n := n) t2 (hS.K _) hD (by omega)
            refine ⟨m'', ?_, _, t, fun c hc => ps_K_lo S _ hc⟩
            rw [lp_X9_hard_36, if_neg (nI_pos (by omega)), e2, pq_sb, e, pq_sb, ite_dec]
            by_cases hw : w < px_W (ps_K S (nI k)) D n
            · rw [if_pos ((fa_wide_lt _ _).mpr hw), if_pos hw]
            · rw [if_neg (fun q => hw ((fa_wide_lt _ _).mp q)), if_neg hw])
          10 4000 m1 (by decide) (by decide) ⟨S, t1, fun _ _ => rfl⟩
        obtain ⟨m2, e2, E, t2, -⟩ := this
        refine ⟨m2, ?_, t2.2.2⟩
        try dsimp only
        rw [if_neg hw]
        exact e2
      · have hpS' : ∀ c, m'.1 35 0 (23 * s + c) = S c := fun c => by rw [hF 35 0 _ (PI_k (by decide))]; exact hpS c
        obtain ⟨m4, e4, E, t4, -⟩ := lp_mem (L := fun f (a : Int32) i m => lp_X10_hard_28 0 (nI s) (nI n) w f a i m (fun x28 m29 => (some ((x28, m29))))) (kx := fun a m => some (a, m)) (T := fun m4 => ∃ E, tr_ m' m4 E D ∧ ∀ c, ¬ (11 ≤ c ∧ c < 11 + (S 10).toNatClampNeg) → E c = S c) (N := 10) (g := pz_dn (fun k => !decide (w < px_W (ps_K S (nI k)) D n))) (ix := nI)
          (by
            intro f m'
            rw [lp_X10_hard_28, if_pos (by decide)])
          (by
            intro f i m4 hi ⟨E, hT, hE⟩
            rw [lp_X10_hard_28, if_neg (show ¬ 9 < nI i from nI_nlt (a := 9) (by omega) (by decide))]
            obtain ⟨m2, e2, t2⟩ := hT.seas (v := nI i) (x7 := nI n) (x8 := w) (x9 := pz_dn (fun k => !decide (w < px_W (ps_K S (nI k)) D n)) i) (kx := fun m24 => (f_X10_runBy m24 0 1 0 (nI n)).bind (fun m25 => ev_let (if w < (m25.1 10 0 36) then pz_dn (fun k => !decide (w < px_W (ps_K S (nI k)) D n)) i else nI i : Int32) (fun x27 => (lp_X10_hard_28 0 (nI s) (nI n) w f x27 (nI i + 1) m25 (fun x28 m29 => (some ((x28, m29)))))))) hS hs2 hpS' hE
            obtain ⟨m'', e, ew, t⟩ := rf_wide (n := n) t2 (hS.K _) hD (by omega)
            refine ⟨m'', ?_, _, t, fun c hc => ?_⟩
            · rw [e2, e, pq_sb, ew, pq_let, nI_1, pz_dn_s, ite_dec]
            · unfold ps_K
              rw [if_neg hc])
          10 4000 0 m3 (by decide) (by decide) ⟨S, t3, fun _ _ => rfl⟩
        refine ⟨m4, ?_, t4.2.2⟩
        try dsimp only
        rw [if_neg hw]
        exact e4)
    obtain ⟨a, m1, m2, e1, e2, F⟩ := key
    refine ⟨a, m1, m2, ?_, e2, F⟩
    try dsimp only
    unfold f_X9_hard
    rw [at_t hI hs, pq_sb, pq_on1]
    exact e1
  · refine ⟨-1, m, ev_pim m 10 0 0 0, ?_, ?_, PI_pim⟩
    · try dsimp only
      unfold f_X9_hard
      rw [at_f hI hx, pq_sb, pq_on0]
    · try dsimp only
      unfold f_X10_hard
      rw [pq_let, rk_f hI (pq_Fr.refl _ m) (fun q => hx q.1), pq_sb, if_neg Bool.false_ne_true]
