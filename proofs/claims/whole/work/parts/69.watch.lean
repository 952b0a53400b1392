/-! pure: watches steered -/
theorem lp_ixE {β : Type} {N : Nat} {L : Nat → Int32 → ev_m → Option β} {kx : ev_m → Option β} {T : Nat → ev_m → Prop}
    (h0 : ∀ f m, T N m → L (f + 1) (nI N) m = kx m) (hs : ∀ f k m, k < N → T k m → (∃ m', L (f + 1) (nI k) m = L f (nI (k + 1)) m' ∧ T (k + 1) m') ∨ (L (f + 1) (nI k) m = kx m ∧ T N m)) : ∀ n f k m, k + n = N → n < f → T k m → ∃ m', L f (nI k) m = kx m' ∧ T N m' := by
  intro n
  induction n with
  | zero =>
    intro f k m hk hf hT
    obtain ⟨e, rfl⟩ : ∃ e, f = e + 1 := ⟨f - 1, by omega⟩
    have ek : k = N := by omega
    subst ek
    exact ⟨m, h0 e m hT, hT⟩
  | succ n ih =>
    intro f k m hk hf hT
    obtain ⟨e, rfl⟩ : ∃ e, f = e + 1 := ⟨f - 1, by omega⟩
    rcases hs e k m (by omega) hT with ⟨m1, e1, t1⟩ | ⟨e1, t1⟩
    · rw [e1]
      exact ih e (k + 1) m1 (by omega) (by omega) t1
    · exact ⟨m, e1, t1⟩
def pu_tn (S : Nat → Int32) (DD : Nat → Nat → Int32) (N : Nat → Nat) : Nat → pu_Q → pu_Q
  | 0, q => q
  | k + 1, q => pu_steer S (DD k) (N k) (pu_tn S DD N k q)
theorem pu_tn_s (S : Nat → Int32) (DD : Nat → Nat → Int32) (N : Nat → Nat) (k : Nat) (q : pu_Q) : pu_tn S DD N (k + 1) q = pu_steer S (DD k) (N k) (pu_tn S DD N k q) := rfl
theorem pu_tn_d (S : Nat → Int32) (DD : Nat → Nat → Int32) (N : Nat → Nat) (q : pu_Q) : ∀ k, (pu_tn S DD N k q).2.2.2.2.1 = q.2.2.2.2.1 + fb_sm N k
  | 0 => rfl
  | k + 1 => by
    rw [pu_tn_s, pu_steer_d, pu_tn_d S DD N q k, fb_sm_succ]
    omega
theorem pb_H_tn {S : Nat → Int32} {DD : Nat → Nat → Int32} {N : Nat → Nat} {q : pu_Q} (h : pb_H q) : ∀ k, pb_H (pu_tn S DD N k q)
  | 0 => h
  | k + 1 => pb_H_steer (pb_H_tn h k)
theorem pb_R_tn {S : Nat → Int32} (hS : pu_okS S) {DD : Nat → Nat → Int32} {N : Nat → Nat} {q : pu_Q} (h : pb_R q) : ∀ k, pb_R (pu_tn S DD N k q)
  | 0 => h
  | k + 1 => pb_R_steer hS (pb_R_tn hS h k)
/-- seconds that are steered, 400 at most -/
def pn_d (nf : Nat → Nat) : Nat → Nat
  | 0 => 0
  | k + 1 => pn_d nf k + min (nf k) (400 - pn_d nf k)
def pn_n (nf : Nat → Nat) (k : Nat) : Nat := min (nf k) (400 - pn_d nf k)
theorem pn_sum (nf : Nat → Nat) : ∀ k, fb_sm (pn_n nf) k = pn_d nf k
  | 0 => rfl
  | k + 1 => by
    rw [fb_sm_succ, pn_sum nf k]
    rfl
theorem pn_d_le (nf : Nat → Nat) : ∀ k, pn_d nf k ≤ 400
  | 0 => by show 0 ≤ 400; omega
  | k + 1 => by
    have := pn_d_le nf k
    rw [pn_d]
    omega
theorem pn_stop {S : Nat → Int32} {DD : Nat → Nat → Int32} {nf : Nat → Nat} {q : pu_Q} {k : Nat} (h : pn_d nf k = 400) : ∀ n, pu_tn S DD (pn_n nf) (k + n) q = pu_tn S DD (pn_n nf) k q ∧ pn_d nf (k + n) = 400
  | 0 => ⟨rfl, h⟩
  | n + 1 => by
    obtain ⟨h1, h2⟩ := pn_stop (S := S) (DD := DD) (q := q) h n
    constructor
    · rw [show k + (n + 1) = k + n + 1 from rfl, pu_tn_s, h1, show pn_n nf (k + n) = 0 by unfold pn_n; omega]
      rfl
    · rw [show k + (n + 1) = k + n + 1 from rfl, pn_d, h2]
      omega
theorem iv_cW {m : ev_m} {c0 c1 c2 c3 p : Nat} (hI : iv_B m 0 c0 c1 c2 c3) (hp : p < c3) : cp_W m p (pv_W m p) := by
  have := (hI.2.2.2.2.2.2 p hp).1
  rw [show 2 * 0 + p = p by omega] at this
  exact this
theorem iv_okW {m : ev_m} {c0 c1 c2 c3 p : Nat} (hI : iv_B m 0 c0 c1 c2 c3) (hp : p < c3) : pu_okW (pv_W m p) := by
  have := (hI.2.2.2.2.2.2 p hp).2
  rw [show 2 * 0 + p = p by omega] at this
  exact this
theorem wat_t {m : ev_m} {c0 c1 c2 c3 p : Nat} (hI : iv_B m 0 c0 c1 c2 c3) (hp : p < c3) : f_X0_watchAt m 0 (nI p) = some (some p) := by
  have := cl_watchAt_t (b := 0) hI.2.1.2.2.2 hI.1.2.2.2 hp
  rw [show 2 * 0 + p = p by omega] at this
  exact this
theorem wat_f {m : ev_m} {c0 c1 c2 c3 : Nat} {x : Int32} (hI : iv_B m 0 c0 c1 c2 c3) (hp : ¬ ∃ p, p < c3 ∧ x = nI p) : f_X0_watchAt m 0 x = some none := cl_watchAt_f (b := 0) hI.2.1.2.2.2 hI.1.2.2.2 (fun s h e => hp ⟨s, h, e⟩)
theorem pv_W.fr {m m' : ev_m} {P : Nat → Nat → Bool} (hF : pq_Fr P m m') (hp : P 38 0 = true) (s : Nat) : pv_W m' s = pv_W m s := by
  funext k
  exact hF 38 0 _ hp
theorem cp_W.fr {m m' : ev_m} {p : Nat} {B : Nat → Int32} {P : Nat → Nat → Bool} (h : cp_W m p B) (hF : pq_Fr P m m') (h6 : P 6 p = true) (h16 : P 16 p = true) (h17 : P 17 p = true) : cp_W m' p B := ⟨(hF 6 p 2 h6).trans h.1, fun k hk => ⟨(hF 16 p k h16).trans (h.2 k hk).1, (hF 17 p k h17).trans (h.2 k hk).2⟩⟩
/-- a watch's numbers -/
theorem okW_n {W : Nat → Int32} (h : pu_okW W) : ∃ (c : Nat) (hf nf : Nat → Nat), c ≤ 8 ∧ W 0 = nI c ∧ ∀ k, k < c → hf k ≤ 3 ∧ W (1 + 2 * k) = nI (hf k) ∧ 1 ≤ nf k ∧ nf k ≤ 200 ∧ W (2 + 2 * k) = nI (nf k) := by
  obtain ⟨c, hc, h0, hk⟩ := h
  refine ⟨c, fun k => (W (1 + 2 * k)).toNatClampNeg, fun k => (W (2 + 2 * k)).toNatClampNeg, hc, h0, fun k hkc => ?_⟩
  obtain ⟨⟨x, hx, ex⟩, n, hn1, hn2, en⟩ := hk k hkc
  dsimp only
  rw [ex, en, nI_clamp (by omega), nI_clamp (by omega)]
  exact ⟨hx, rfl, hn1, hn2, rfl⟩
def pm_all (hf : Nat → Nat) (c1 : Nat) : Nat → Nat → Bool
  | _, 0 => true
  | k, n + 1 => if hf k < c1 then pm_all hf c1 (k + 1) n else false
theorem pm_all_t {hf : Nat → Nat} {c1 : Nat} : ∀ n k, pm_all hf c1 k n = true → ∀ j, k ≤ j → j < k + n → hf j < c1
  | 0, k, _, j, h1, h2 => absurd h2 (by omega)
  | n + 1, k, h, j, h1, h2 => by
    rw [pm_all] at h
    split at h
    · rename_i hk
      by_cases e : j = k
      · rw [e]; exact hk
      · exact pm_all_t n (k + 1) h j (by omega) (by omega)
    · cases h
theorem cl_man_l {m : ev_m} {c0 c1 c2 c3 w c : Nat} {W : Nat → Int32} {hf nf : Nat → Nat} {kx : Unit → Option Bool} (hI : iv_B m 0 c0 c1 c2 c3) (hW : cp_W m w W) (hc : c ≤ 8) (h0 : W 0 = nI c) (hk : ∀ k, k < c → hf k ≤ 3 ∧ W (1 + 2 * k) = nI (hf k) ∧ 1 ≤ nf k ∧ nf k ≤ 200 ∧ W (2 + 2 * k) = nI (nf k)) : ∀ n f k, k + n = c → n < f → lp_X9_isManned_8 m 0 w f (nI k) kx = if pm_all hf c1 k n = true then kx () else some false := by
  intro n
  have hcl : (W 0).toNatClampNeg = c := by rw [h0]; exact nI_clamp (by omega)
  induction n with
  | zero =>
    intro f k hkc hf'
    obtain ⟨g, rfl⟩ : ∃ g, f = g + 1 := ⟨f - 1, by omega⟩
    rw [lp_X9_isManned_8, hW.1, h0, if_neg (nI_nlt (by omega) (by omega)), pm_all, if_pos rfl]
  | succ n ih =>
    intro f k hkc hf'
    obtain ⟨g, rfl⟩ : ∃ g, f = g + 1 := ⟨f - 1, by omega⟩
    obtain ⟨g1, g2, -⟩ := hk k (by omega)
    rw [lp_X9_isManned_8, hW.1, h0, if_pos (nI_lt (by omega) (by omega)), pq_at (by omega) (by decide), (hW.2 k (by omega)).1, g2, pm_all, nI_1]
    by_cases h : hf k < c1
    · rw [ath_t hI h, pq_sb, pq_on1, if_pos h]
      exact ih g (k + 1) (by omega) (by omega)
    · rw [ath_f hI (fun ⟨j, hj, e⟩ => h (by
        have := (nI_eq (by omega) (by have := hI.1.2.1; omega)).mp e
        omega)), pq_sb, pq_on0, if_neg h, if_neg Bool.false_ne_true]
theorem rf_man_l {m : ev_m} {c1 w c : Nat} {W : Nat → Int32} {hf nf : Nat → Nat} {x7 x9 x10 : Int32} {kx : Unit → Option (Int64 × ev_m)} (h1 : m.1 34 0 1 = nI c1) (hb1 : c1 ≤ 4) (hw : w < 2) (hW : pv_W m w = W) (hc : c ≤ 8) (h0 : W 0 = nI c) (hk : ∀ k, k < c → hf k ≤ 3 ∧ W (1 + 2 * k) = nI (hf k) ∧ 1 ≤ nf k ∧ nf k ≤ 200 ∧ W (2 + 2 * k) = nI (nf k)) : ∀ n f k, k + n = c → n < f → lp_X10_steers_30 m 0 x7 (nI w) x9 x10 f (nI k) kx = if pm_all hf c1 k n = true then kx () else some (-100000, m) := by
  intro n
  have e0 : m.1 38 0 (17 * w) = nI c := by rw [← h0, ← hW]; rfl
  induction n with
  | zero =>
    intro f k hkc hf'
    obtain ⟨g, rfl⟩ : ∃ g, f = g + 1 := ⟨f - 1, by omega⟩
    rw [lp_X10_steers_30, show (17 : Int32) = nI 17 from rfl, pk_mul, pq_ald (by omega) (by decide), pq_sb, e0, if_neg (nI_nlt (by omega) (by omega)), pm_all, if_pos rfl]
  | succ n ih =>
    intro f k hkc hf'
    obtain ⟨g, rfl⟩ : ∃ g, f = g + 1 := ⟨f - 1, by omega⟩
    obtain ⟨g1, g2, -⟩ := hk k (by omega)
    have e1 : m.1 38 0 (17 * w + 1 + 2 * k) = nI (hf k) := by rw [← g2, ← hW, Nat.add_assoc]; rfl
    rw [lp_X10_steers_30, show (17 : Int32) = nI 17 from rfl, pk_mul, pq_ald (by omega) (by decide), pq_sb, e0, if_pos (nI_lt (by omega) (by omega)), nI_1, show (2 : Int32) = nI 2 from rfl, pk_mul, nI_add, pq_ald (by omega) (by decide), pq_sb, e1, show f_X10_is m 0 1 (nI (hf k)) = _ from rf_is (t := 1) (by decide) h1, pq_sb, pm_all, nI_1]
    by_cases h : hf k < c1
    · rw [is_T h (by omega), if_pos rfl, if_pos h]
      exact ih g (k + 1) (by omega) (by omega)
    · rw [if_neg (fun q => h (by
        obtain ⟨s, hs, e⟩ := is_F (by omega) q
        have := (nI_eq (by omega) (by omega)).mp e
        omega)), if_neg h, if_neg Bool.false_ne_true]
theorem rf_lh2_l {p h : Nat} {kx : ev_m → Option ev_m} (hp : p < 2) (hh : h < 4) : ∀ n f i m, i + n = 18 → n < f → ∃ m', lp_X10_layHand_2 0 (nI p) (nI h) f (nI i) m kx = kx m' ∧ m'.2 = m.2 := by
  intro n
  induction n with
  | zero =>
    intro f i m hi hf
    obtain ⟨g, rfl⟩ : ∃ g, f = g + 1 := ⟨f - 1, by omega⟩
    rw [lp_X10_layHand_2, if_neg (show ¬ nI i < 18 from nI_nlt (b := 18) (by omega) (by omega))]
    exact ⟨m, rfl, rfl⟩
  | succ n ih =>
    intro f i m hi hf
    obtain ⟨g, rfl⟩ : ∃ g, f = g + 1 := ⟨f - 1, by omega⟩
    rw [lp_X10_layHand_2, if_pos (show nI i < 18 from nI_lt (b := 18) (by omega) (by omega)), show (18 : Int32) = nI 18 from rfl, pk_mul, nI_add, pq_ald (by omega) (by decide), pq_sb, pk_mul, nI_add, pq_ast (by omega) (by decide), pq_sb, nI_1]
    obtain ⟨m', e, h1⟩ := ih g (i + 1) (ev_pim m 41 0 (18 * p + i) (m.1 36 0 (18 * h + i))) (by omega) (by omega)
    exact ⟨m', e, h1⟩
theorem rf_lh2 {m : ev_m} {p h : Nat} (hp : p < 2) (hh : h < 4) : ∃ m', f_X10_layHand m 0 (nI p) (nI h) = some m' ∧ m'.2 = m.2 := rf_lh2_l (kx := fun m => some m) hp hh 18 4000 0 m (by omega) (by omega)
/-- STEERS -/
theorem k_steers {m : ev_m} {c0 c1 c2 c3 : Nat} (hI : iv_B m 0 c0 c1 c2 c3) (x y sd w : Int32) : kc_ m (fun m => f_X9_steers m 0 x y sd w) (fun m => f_X10_steers m 0 x y sd w) := by
  have his0 : ∀ m', pq_Fr PI_ m m' → ∀ x, f_X10_is (ev_pim m' 10 0 0 0) 0 0 x = some (s_X10_in (ev_pim m' 10 0 0 0) x 0 (nI c0 - 1)) := fun m' hF x => rf_is (t := 0) (by decide) (hI.fr (hF.trans PI_pim) (by decide) (m' := ev_pim m' 10 0 0 0)).2.2.1.1
  have his3 : ∀ m', pq_Fr PI_ m m' → ∀ x, f_X10_is (ev_pim m' 10 0 0 0) 0 3 x = some (s_X10_in (ev_pim m' 10 0 0 0) x 0 (nI c3 - 1)) := fun m' hF x => rf_is (t := 3) (by decide) (hI.fr (hF.trans PI_pim) (by decide) (m' := ev_pim m' 10 0 0 0)).2.2.1.2.2.2
  by_cases hx : ∃ s, s < c0 ∧ x = nI s
  · obtain ⟨s, hs, rfl⟩ := hx
    have hs2 : s < 2 := by have := hI.1.1; omega
    by_cases hy : ∃ p, p < c3 ∧ y = nI p
    · obtain ⟨p, hp, rfl⟩ := hy
      have hp2 : p < 2 := by have := hI.1.2.2.2; omega
      have hcW := iv_cW hI hp
      obtain ⟨c, hf, nf, hc, h0, hk⟩ := okW_n (iv_okW hI hp)
      have hcl : (pv_W m p 0).toNatClampNeg = c := by rw [h0]; exact nI_clamp (by omega)
      have hman : f_X9_isManned m 0 (some p) = some (pm_all hf c1 0 c) := by
        unfold f_X9_isManned
        rw [pq_on1, show (0 : Int32) = nI 0 from rfl, cl_man_l (kx := fun _ => some true) hI hcW hc h0 hk c 4000 0 (by omega) (by omega)]
        cases pm_all hf c1 0 c <;> rfl
      have hrm : ∀ m', pq_Fr PI_ m m' → ∀ kx, lp_X10_steers_30 (ev_pim m' 10 0 0 0) 0 (nI s) (nI p) sd w 4000 0 kx = if pm_all hf c1 0 c = true then kx () else some (-100000, ev_pim m' 10 0 0 0) := fun m' hF kx => rf_man_l (x9 := sd) (hI.fr (hF.trans PI_pim) (by decide) (m' := ev_pim m' 10 0 0 0)).2.2.1.2.1 hI.1.2.1 hp2 (pv_W.fr (hF.trans PI_pim) (PI_k (by decide)) p) hc h0 hk c 4000 0 (by omega) (by omega)
      by_cases hall' : pm_all hf c1 0 c = true
      · have hall := hall'
        have hin : ∀ k, k < c → hf k < c1 := fun k hkc => pm_all_t c 0 hall k (by omega) (by omega)
        have hS := iv_okS hI hs
        have hcS := iv_cS hI hs
        obtain ⟨S, eS⟩ : ∃ S, S = pv_S m s := ⟨_, rfl⟩
        obtain ⟨qf, eqf⟩ : ∃ qf : Nat → pu_Q, ∀ k, pu_tn S (fun k => pv_D m (hf k)) (pn_n nf) k (pu_q0 S sd) = qf k := ⟨_, fun _ => rfl⟩
        rw [← eS] at hS hcS
        have hqd : ∀ k, (qf k).2.2.2.2.1 = pn_d nf k := fun k => by
          rw [← eqf, pu_tn_d, pn_sum]
          show 0 + _ = _
          omega
        have hqH : ∀ k, pb_H (qf k) := fun k => by rw [← eqf]; exact pb_H_tn (pb_q0 hS) k
        have hqR : ∀ k, pb_R (qf k) := fun k => by rw [← eqf]; exact pb_R_tn hS (pb_R_q0 S sd) k
        have hqs : ∀ k, qf (k + 1) = pu_steer S (pv_D m (hf k)) (pn_n nf k) (qf k) := fun k => by rw [← eqf, ← eqf]; rfl
        have hdl := pn_d_le nf
        obtain ⟨b1, b2, b3, b4⟩ := cl_begin (seed := sd) hcS
        have hPI : ∀ r i, PI_ r i = true → cc_P r i = true := fun r i h => PC_P r i (PI_C r i h)
        obtain ⟨K, hK⟩ : ∃ K : ev_m → Option (Int64 × ev_m), K = (fun m16 => (if w = 0 then (f_X8_cost m16 0).bind (fun x29 => (some ((x29, m16)))) else if w = 1 then (f_X8_off m16 0).bind (fun x28 => (some ((x28, m16)))) else if w = 2 then (f_X8_wear m16 0).bind (fun x27 => (some ((x27, m16)))) else if w = 3 then (f_X8_widest m16 0).bind (fun x26 => (some ((x26, m16)))) else if w = 4 then (some (((m16.1 8 0 1).toInt64, m16))) else ev_let (if w < 1000 then 0 else (if (m16.1 8 0 1) < (w - 1000) then 0 else 1) : Int32) (fun x24 => (if x24 = 0 then (some (((-100000), m16))) else (some (((ev_at (m16.1 18 0) 401 (w - 1000)).toInt64, m16))))))) := ⟨_, rfl⟩
        obtain ⟨m2, e2, q2, l2, F2⟩ := lp_ixE (L := fun f i m => lp_X9_steers_56 0 w p f i m K) (kx := K) (T := fun k m' => cc_q m' (qf k) ∧ m'.2.2 8 0 0 = some s ∧ pq_Fr cc_P m m') (N := c)
          (by
            intro f m' ⟨t1, t2, t3⟩
            rw [lp_X9_steers_56, (hcW.fr t3 rfl rfl rfl).1, h0, if_neg (nI_nlt (Nat.le_refl _) (by omega))])
          (by
            intro f k m' hkc ⟨t1, t2, t3⟩
            refine Or.inl ?_
            have hI' := hI.fr (t3.sub hPI) (by decide)
            have hW' := hcW.fr t3 rfl rfl rfl
            obtain ⟨g1, g2, g3, g4, g5⟩ := hk k hkc
            have hcD : cc_D m' (hf k) (pv_D m (hf k)) := by rw [← pv_D.fr (t3.sub hPI) (PI_k (by decide))]; exact iv_cD hI' (hin k hkc)
            obtain ⟨m'', e, q, -, l, -, F⟩ := cl_steer (n := nf k) (iv_okD hI (hin k hkc)) hS (by omega) (by rw [hqd]; exact hdl k) hcD (hcS.fr t3 rfl rfl) t2 t1 (hqH k)
            rw [hqd] at q
            refine ⟨m'', ?_, ?_, l, t3.trans F⟩
            · rw [lp_X9_steers_56, hW'.1, h0, if_pos (nI_lt hkc (by omega)), pq_at (by omega) (by decide), (hW'.2 k (by omega)).1, g2, ath_t hI' (hin k hkc), pq_sb, pq_at (by omega) (by decide), (hW'.2 k (by omega)).2, g5, e, pq_sb, nI_1]
            · rw [hqs]
              exact q)
          c 4000 0 (s_X8_begin m 0 (some s) sd) (by omega) (by omega) ⟨by rw [← eqf]; exact b2, b1, b4⟩
        have hF2 : pq_Fr PI_ m m2 := F2.sub hPI
        obtain ⟨m3, e3, r3, F3⟩ := rf_layShip (m := ev_pim m2 10 0 0 0) (s := s) hs2
        have hpS : (fun k => (ev_pim m2 10 0 0 0).1 35 0 (23 * s + k)) = S := by
          rw [eS]
          exact pv_S.fr (hF2.trans PI_pim) (PI_k (by decide)) s
        rw [hpS] at r3
        have F3' : pq_Fr PR_ m2 m3 := ((pq_Fr.refl PR_ m2).pim rfl).trans (F3.sub (fun r i q => pv_L40 r i (PR_L r i q)))
        obtain ⟨r4, F4⟩ := rf_begin (seed := sd) r3
        obtain ⟨m5, e5, r5, s5, F5⟩ := lp_ixE (L := fun f i m => lp_X10_steers_91 0 (nI p) w f i m (fun m34 => (jn_X10_steers_191 m34 0 w))) (kx := fun m34 => (jn_X10_steers_191 m34 0 w)) (T := fun k m' => rr_R m' (qf k) ∧ rr_S m' S ∧ pq_Fr PR_ m2 m') (N := c)
          (by
            intro f m' ⟨t1, t2, t3⟩
            have e0 : m'.1 38 0 (17 * p) = nI c := by rw [t3 38 0 _ rfl, hF2 38 0 _ (PI_k (by decide)), ← h0]; rfl
            rw [lp_X10_steers_91, show (17 : Int32) = nI 17 from rfl, pk_mul, pq_ald (by omega) (by decide), pq_sb, e0, if_neg (nI_nlt (Nat.le_refl _) (by omega))])
          (by
            intro f k m' hkc ⟨t1, t2, t3⟩
            obtain ⟨g1, g2, g3, g4, g5⟩ := hk k hkc
            have e38 : ∀ j, m'.1 38 0 j = m.1 38 0 j := fun j => by rw [t3 38 0 _ rfl, hF2 38 0 _ (PI_k (by decide))]
            have e0 : m'.1 38 0 (17 * p) = nI c := by rw [e38, ← h0]; rfl
            have e1 : m'.1 38 0 (17 * p + 1 + 2 * k) = nI (hf k) := by rw [e38, ← g2, Nat.add_assoc]; rfl
            have e2 : m'.1 38 0 (17 * p + 2 + 2 * k) = nI (nf k) := by rw [e38, ← g5, Nat.add_assoc]; rfl
            have h32 : m'.1 10 0 32 = nI (pn_d nf k) := by rw [← hqd]; exact t1.1.2.2.2.2.1
            have hdk := hdl k
            by_cases hd4 : pn_d nf k < 400
            · refine Or.inl ?_
              obtain ⟨m6, e6, r6, -, F6⟩ := rf_layHand (m := m') (p := 0) (h := hf k) (by decide) (by omega)
              have hpD : (fun j => m'.1 36 0 (18 * hf k + j)) = pv_D m (hf k) := by
                funext j
                rw [t3 36 0 _ rfl, hF2 36 0 _ (PI_k (by decide))]
                rfl
              rw [hpD] at r6
              have r6R : rr_R m6 (qf k) := by
                obtain ⟨⟨q45, q46, q47, q48, q32, q26⟩, ⟨u33, u35, u36, u37, u38, u39, u49⟩, ⟨w34, w40, w41, w42⟩⟩ := t1
                have em2 : m6.2 = m'.2 := by
                  have := rf_lh2 (m := m') (p := 0) (h := hf k) (by decide) (by omega)
                  obtain ⟨mx, ex, exx⟩ := this
                  rw [e6] at ex
                  cases ex
                  exact exx
                refine ⟨⟨?_, ?_, ?_, ?_, ?_, ?_⟩, ⟨?_, ?_, ?_, ?_, ?_, ?_, ?_⟩, ⟨?_, ?_, ?_, ?_⟩⟩
                · intro j hj; rw [F6 45 0 j rfl]; exact q45 j hj
                · intro j hj; rw [F6 46 0 j rfl]; exact q46 j hj
                · intro j hj; rw [F6 47 0 j rfl]; exact q47 j hj
                · intro j hj; rw [F6 48 0 j rfl]; exact q48 j hj
                · rw [F6 10 0 32 rfl]; exact q32
                · rw [F6 10 0 26 rfl]; exact q26
                · rw [em2]; exact u33
                · rw [em2]; exact u35
                · rw [F6 10 0 36 rfl]; exact u36
                · rw [em2]; exact u37
                · rw [F6 10 0 38 rfl]; exact u38
                · rw [F6 10 0 39 rfl]; exact u39
                · intro j hj; rw [F6 49 0 j rfl]; exact u49 j hj
                · rw [F6 10 0 34 rfl]; exact w34
                · rw [F6 10 0 40 rfl]; exact w40
                · rw [F6 10 0 41 rfl]; exact w41
                · rw [F6 10 0 42 rfl]; exact w42
              have s6 : rr_S m6 S := fun j hj => (F6 40 0 j rfl).trans (t2 j hj)
              obtain ⟨m7, e7, r7, F7⟩ := rf_steer (p := 0) (n := pn_n nf k) (by decide) (iv_okD hI (hin k hkc)) hS (by rw [hqd]; unfold pn_n; omega) r6 s6 r6R
              have h326 : m6.1 10 0 32 = nI (pn_d nf k) := by rw [F6 10 0 32 rfl]; exact h32
              have ex : (if m6.1 10 0 32 + nI (nf k) < 400 then nI (nf k) else 400 - m6.1 10 0 32 : Int32) = nI (pn_n nf k) := by
                rw [h326, nI_add, show (400 : Int32) = nI 400 from rfl, pk_sub hdk]
                unfold pn_n
                by_cases hh : pn_d nf k + nf k < 400
                · rw [if_pos (nI_lt hh (by decide)), show min (nf k) (400 - pn_d nf k) = nf k by omega]
                · rw [if_neg (nI_nlt (by omega) (by omega)), show min (nf k) (400 - pn_d nf k) = 400 - pn_d nf k by omega]
              refine ⟨m7, ?_, ?_, s6.fr F7 rfl, (t3.trans (F6.sub (fun r i q => pv_L41 r i (PR_L r i q)))).trans (F7.sub PR_P)⟩
              · rw [lp_X10_steers_91, show (17 : Int32) = nI 17 from rfl, pk_mul, pq_ald (by omega) (by decide), pq_sb, e0, if_pos (nI_lt hkc (by omega)), h32, if_pos (show nI (pn_d nf k) < 400 from nI_lt (b := 400) hd4 (by decide)), show (2 : Int32) = nI 2 from rfl, pk_mul, nI_add, nI_add, pq_ald (by omega) (by decide), pq_sb, e2, nI_1, nI_add, pq_ald (by omega) (by decide), pq_sb, e1, show f_X10_layHand m' 0 0 (nI (hf k)) = _ from e6, pq_sb, pq_let, ex, show f_X10_steer m6 0 0 (nI (pn_n nf k)) = _ from e7, pq_sb, nI_1]
              · rw [hqs]
                exact r7
            · refine Or.inr ⟨?_, ?_, t2, t3⟩
              · rw [lp_X10_steers_91, show (17 : Int32) = nI 17 from rfl, pk_mul, pq_ald (by omega) (by decide), pq_sb, e0, if_pos (nI_lt hkc (by omega)), h32, if_neg (show ¬ nI (pn_d nf k) < 400 from nI_nlt (b := 400) (by omega) (by omega))]
              · have := (pn_stop (S := S) (DD := fun k => pv_D m (hf k)) (nf := nf) (q := pu_q0 S sd) (k := k) (by omega) (c - k)).1
                rw [show k + (c - k) = c by omega, eqf, eqf] at this
                rw [this]
                exact t1)
          c 4000 0 (s_X10_begin m3 0 sd) (by omega) (by omega) ⟨by rw [← eqf]; exact r4, r3.fr F4 rfl, F3'.trans (F4.sub PR_P)⟩
        have hd4 : (qf c).2.2.2.2.1 ≤ 400 := by rw [hqd]; exact hdl c
        have hlast : m2.1 8 0 1 = nI (qf c).2.2.2.2.1 := q2.2.2.2.1
        have hdone : m5.1 10 0 32 = nI (qf c).2.2.2.2.1 := r5.1.2.2.2.2.1
        have hall : ∃ a, K m2 = some (a, m2) ∧ jn_X10_steers_191 m5 0 w = some (a, m5) := by
          rw [hK]
          unfold jn_X10_steers_191
          dsimp only
          by_cases w0 : w = 0
          · refine ⟨pc_cost S (qf c), ?_, ?_⟩
            · rw [if_pos w0, cl_cost q2 (hqH c) (hqR c) hS ((hcS.fr F2 rfl rfl).1 5 (by decide)) l2 hd4, pq_sb]
            · rw [if_pos w0, rf_cost r5 s5]
          rw [if_neg w0, if_neg w0]
          by_cases w1 : w = 1
          · refine ⟨pa_off (qf c).1 (qf c).2.2.2.2.1, ?_, ?_⟩
            · rw [if_pos w1, cl_off q2 hd4, pq_sb]
            · rw [if_pos w1, r5.2.1.1]
          rw [if_neg w1, if_neg w1]
          by_cases w2 : w = 2
          · refine ⟨(pa_wea (qf c).2.2.1 (qf c).2.2.2.2.1).toInt64, ?_, ?_⟩
            · rw [if_pos w2, cl_wear q2 (hqR c) hd4, pq_sb]
            · rw [if_pos w2, r5.2.2.1]
          rw [if_neg w2, if_neg w2]
          by_cases w3 : w = 3
          · refine ⟨(pa_wid (qf c).1 (qf c).2.2.2.2.1).toInt64, ?_, ?_⟩
            · rw [if_pos w3, cl_widest q2 hd4, pq_sb]
            · rw [if_pos w3, r5.2.1.2.2.1]
          rw [if_neg w3, if_neg w3]
          by_cases w4 : w = 4
          · refine ⟨(nI (qf c).2.2.2.2.1).toInt64, ?_, ?_⟩
            · rw [if_pos w4, hlast]
            · rw [if_pos w4, hdone]
          rw [if_neg w4, if_neg w4, hlast, hdone, show (1000 : Int32) = nI 1000 from rfl, nI_add]
          by_cases hw : ∃ t, t ≤ (qf c).2.2.2.2.1 ∧ w = nI (1000 + t)
          · obtain ⟨t, ht, rfl⟩ := hw
            refine ⟨((qf c).1 t).toInt64, ?_, ?_⟩
            · rw [if_neg (nI_nlt (by omega) (by omega)), pk_sub (by omega), show 1000 + t - 1000 = t by omega, if_neg (nI_nlt ht (by omega)), pq_let, if_neg (by decide), pq_at (by omega) (by decide), q2.1 t ht]
            · rw [if_pos (in_T (by omega) (by omega) (by omega)), pk_sub (by omega), show 1000 + t - 1000 = t by omega, pq_ald (by omega) (by decide), pq_sb, r5.1.1 t ht]
          · refine ⟨-100000, ?_, ?_⟩
            · by_cases hlo : w < nI 1000
              · rw [if_pos hlo, pq_let, if_pos rfl]
              · rw [if_neg hlo]
                have hw0 : ¬ w < 0 := fun h => hlo (by rw [fa_lt] at h ⊢; rw [nI_toInt (by decide)]; rw [show (0 : Int32).toInt = 0 from rfl] at h; omega)
                obtain ⟨j, hj, rfl⟩ := nI_of hw0
                rw [nI_ltI hj (by decide)] at hlo
                rw [pk_sub (by omega), if_pos (nI_lt (by
                  apply Nat.lt_of_not_le
                  intro h
                  exact hw ⟨j - 1000, h, by rw [show 1000 + (j - 1000) = j by omega]⟩) (by omega)), pq_let, if_pos rfl]
            · rw [if_neg (fun h => hw (by
                obtain ⟨j, h1, h2, e⟩ := in_F (by omega) (by decide) h
                exact ⟨j - 1000, by omega, by rw [e, show 1000 + (j - 1000) = j by omega]⟩))]
        obtain ⟨a, ha1, ha2⟩ := hall
        refine ⟨a, m2, m5, ?_, ?_, hF2.trans (F5.sub PI_R)⟩
        · try dsimp only
          unfold f_X9_steers
          rw [at_t hI hs, pq_sb, wat_t hI hp, pq_sb, pq_on1, pq_on1, hman, pq_sb, if_pos hall', pq_let, ← hK]
          exact e2.trans ha1
        · try dsimp only
          unfold f_X10_steers
          rw [pq_let, his0 m2 hF2, pq_sb, is_T hs (by have := hI.1.1; omega), if_pos rfl, his3 m2 hF2, pq_sb, is_T hp (by have := hI.1.2.2.2; omega), if_pos rfl, hrm m2 hF2, if_pos hall', e3, pq_sb, pq_let]
          exact e5.trans ha2
      · refine ⟨-100000, m, ev_pim m 10 0 0 0, ?_, ?_, PI_pim⟩
        · try dsimp only
          unfold f_X9_steers
          rw [at_t hI hs, pq_sb, wat_t hI hp, pq_sb, pq_on1, pq_on1, hman, pq_sb, if_neg hall']
        · try dsimp only
          unfold f_X10_steers
          rw [pq_let, his0 m (pq_Fr.refl _ m), pq_sb, is_T hs (by have := hI.1.1; omega), if_pos rfl, his3 m (pq_Fr.refl _ m), pq_sb, is_T hp (by have := hI.1.2.2.2; omega), if_pos rfl, hrm m (pq_Fr.refl _ m), if_neg hall']
    · refine ⟨-100000, m, ev_pim m 10 0 0 0, ?_, ?_, PI_pim⟩
      · try dsimp only
        unfold f_X9_steers
        rw [at_t hI hs, pq_sb, wat_f hI hy, pq_sb, pq_on1, pq_on0]
      · try dsimp only
        unfold f_X10_steers
        rw [pq_let, his0 m (pq_Fr.refl _ m), pq_sb, is_T hs (by have := hI.1.1; omega), if_pos rfl, his3 m (pq_Fr.refl _ m), pq_sb, if_neg (fun q => hy (is_F (by have := hI.1.2.2.2; omega) q))]
  · have hw : ∃ o, f_X0_watchAt m 0 y = some o := by
      by_cases hy : ∃ p, p < c3 ∧ y = nI p
      · obtain ⟨p, hp, rfl⟩ := hy
        exact ⟨_, wat_t hI hp⟩
      · exact ⟨_, wat_f hI hy⟩
    obtain ⟨o, eo⟩ := hw
    refine ⟨-100000, m, ev_pim m 10 0 0 0, ?_, ?_, PI_pim⟩
    · try dsimp only
      unfold f_X9_steers
      rw [at_f hI hx, pq_sb, eo, pq_sb, pq_on0]
    · try dsimp only
      unfold f_X10_steers
      rw [pq_let, his0 m (pq_Fr.refl _ m), pq_sb, if_neg (fun q => hx (is_F (by have := hI.1.1; omega) q))]
