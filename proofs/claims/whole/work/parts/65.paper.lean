/-! pure: papers held against runs -/
theorem iv_cP {m : ev_m} {c0 c1 c2 c3 p : Nat} (hI : iv_B m 0 c0 c1 c2 c3) (hp : p < c2) : cp_P m p (pv_P m p) := by
  have := (hI.2.2.2.2.2.1 p hp).1
  rw [show 2 * 0 + p = p by omega] at this
  exact this
theorem iv_okP {m : ev_m} {c0 c1 c2 c3 p : Nat} (hI : iv_B m 0 c0 c1 c2 c3) (hp : p < c2) : pu_okP (pv_P m p) := by
  have := (hI.2.2.2.2.2.1 p hp).2
  rw [show 2 * 0 + p = p by omega] at this
  exact this
theorem pat_t {m : ev_m} {c0 c1 c2 c3 p : Nat} (hI : iv_B m 0 c0 c1 c2 c3) (hp : p < c2) : f_X0_paperAt m 0 (nI p) = some (some p) := by
  have := cl_paperAt_t (b := 0) hI.2.1.2.2.1 hI.1.2.2.1 hp
  rw [show 2 * 0 + p = p by omega] at this
  exact this
theorem pat_f {m : ev_m} {c0 c1 c2 c3 : Nat} {x : Int32} (hI : iv_B m 0 c0 c1 c2 c3) (hp : ¬ ∃ p, p < c2 ∧ x = nI p) : f_X0_paperAt m 0 x = some none := cl_paperAt_f (b := 0) hI.2.1.2.2.1 hI.1.2.2.1 (fun s h e => hp ⟨s, h, e⟩)
theorem pv_P.fr {m m' : ev_m} {P : Nat → Nat → Bool} (hF : pq_Fr P m m') (hp : P 37 0 = true) (s : Nat) : pv_P m' s = pv_P m s := by
  funext k
  exact hF 37 0 _ hp
theorem cp_P.fr {m m' : ev_m} {p : Nat} {B : Nat → Int32} {P : Nat → Nat → Bool} (h : cp_P m p B) (hF : pq_Fr P m m') (h5 : P 5 p = true) (h15 : P 15 p = true) : cp_P m' p B := ⟨(hF 5 p 1 h5).trans h.1, fun k hk => (hF 15 p k h15).trans (h.2 k hk)⟩
def pp_ap (B H : Nat → Int32) : Nat → Int32
  | 0 => 0
  | n + 1 => pp_ap B H n + pu_pl (B (1 + n) - H (n + 1))
def pp_sm (B H : Nat → Int32) : Nat → Nat → Nat
  | k, 0 => k
  | k, n + 1 => if B (1 + k) = H (k + 1) then pp_sm B H (k + 1) n else k
theorem pl_swap {x y : Int32} (h1 : -100000 ≤ x.toInt) (h2 : x.toInt ≤ 100000) (h3 : -100000 ≤ y.toInt) (h4 : y.toInt ≤ 100000) : pu_pl (x - y) = pu_pl (y - x) := by
  have e1 := fb_subI (x := x) (y := y) (by omega) (by omega)
  have e2 := fb_subI (x := y) (y := x) (by omega) (by omega)
  rw [fa_eq, pu_pl_i (by omega), pu_pl_i (by omega), e1, e2]
  split <;> split <;> omega
theorem pp_ap_b {B : Nat → Int32} {q : pu_Q} {c : Nat} (hB : ∀ k, k < c → -9999 ≤ (B (1 + k)).toInt ∧ (B (1 + k)).toInt ≤ 9999) (hc : c ≤ 60) (hH : pb_H q) (hd : c ≤ q.2.2.2.2.1) : ∀ n, n ≤ c → 0 ≤ (pp_ap B q.1 n).toInt ∧ (pp_ap B q.1 n).toInt ≤ 28000 * n
  | 0, _ => by
    show 0 ≤ (0 : Int32).toInt ∧ (0 : Int32).toInt ≤ _
    rw [show (0 : Int32).toInt = 0 from rfl]
    omega
  | n + 1, h => by
    have a := pp_ap_b hB hc hH hd n (by omega)
    have b := hB n (by omega)
    have d := hH (n + 1) (by omega)
    have e := fb_subI (x := B (1 + n)) (y := q.1 (n + 1)) (by omega) (by omega)
    have g := pu_pl_b (x := B (1 + n) - q.1 (n + 1)) (n := 28000) (by omega) (by omega) (by decide)
    rw [pp_ap, fb_addI (by omega) (by omega)]
    omega
theorem cl_ap_l {m : ev_m} {p c : Nat} {B : Nat → Int32} {q : pu_Q} {kx : Int32 → Option Int32} (hP : cp_P m p B) (hB : B 0 = nI c) (hc : c ≤ 60) (hq : cc_q m q) (hd : c ≤ q.2.2.2.2.1) : ∀ n f k, k + n = c → n < f → lp_X8_apartFrom_4 m 0 (some p) f (pp_ap B q.1 k) (nI k) kx = kx (pp_ap B q.1 c) := by
  intro n
  have hcl : (B 0).toNatClampNeg = c := by rw [hB]; exact nI_clamp (by omega)
  induction n with
  | zero =>
    intro f k hk hf
    obtain ⟨g, rfl⟩ : ∃ g, f = g + 1 := ⟨f - 1, by omega⟩
    rw [lp_X8_apartFrom_4, pq_on1, hP.1, hB, if_neg (nI_nlt (by omega) (by omega)), show k = c by omega]
  | succ n ih =>
    intro f k hk hf
    obtain ⟨g, rfl⟩ : ∃ g, f = g + 1 := ⟨f - 1, by omega⟩
    rw [lp_X8_apartFrom_4, pq_on1, hP.1, hB, if_pos (nI_lt (by omega) (by omega)), nI_1, pq_at (by omega) (by decide), pq_at (by omega) (by decide), hP.2 k (by omega), hq.1 (k + 1) (by omega), pu_pl_c, pq_let]
    exact ih g (k + 1) (by omega) (by omega)
theorem cl_ap {m : ev_m} {p c : Nat} {B : Nat → Int32} {q : pu_Q} (hP : cp_P m p B) (hB : B 0 = nI c) (hc : c ≤ 60) (hq : cc_q m q) (hd : c ≤ q.2.2.2.2.1) : f_X8_apartFrom m 0 (some p) = some (pp_ap B q.1 c) := cl_ap_l (kx := fun x => some x) hP hB hc hq hd c 4000 0 (by omega) (by omega)
theorem cl_sm_l {m : ev_m} {p c : Nat} {B : Nat → Int32} {q : pu_Q} {kx : Int32 → Option Int32} (hP : cp_P m p B) (hB : B 0 = nI c) (hc : c ≤ 60) (hq : cc_q m q) (hd : c ≤ q.2.2.2.2.1) : ∀ n f k, k + n = c → n < f → lp_X8_alikeTo_2 m 0 (some p) f (nI k) kx = kx (nI (pp_sm B q.1 k n)) := by
  intro n
  have hcl : (B 0).toNatClampNeg = c := by rw [hB]; exact nI_clamp (by omega)
  induction n with
  | zero =>
    intro f k hk hf
    obtain ⟨g, rfl⟩ : ∃ g, f = g + 1 := ⟨f - 1, by omega⟩
    rw [lp_X8_alikeTo_2, pq_on1, hP.1, hB, if_neg (nI_nlt (by omega) (by omega)), pp_sm]
  | succ n ih =>
    intro f k hk hf
    obtain ⟨g, rfl⟩ : ∃ g, f = g + 1 := ⟨f - 1, by omega⟩
    rw [lp_X8_alikeTo_2, pq_on1, hP.1, hB, if_pos (nI_lt (by omega) (by omega)), nI_1, pq_at (by omega) (by decide), pq_at (by omega) (by decide), hP.2 k (by omega), hq.1 (k + 1) (by omega), pp_sm]
    by_cases h : B (1 + k) = q.1 (k + 1)
    · rw [if_pos h, if_pos h]
      exact ih g (k + 1) (by omega) (by omega)
    · rw [if_neg h, if_neg h]
theorem rf_ap_l {m : ev_m} {p c : Nat} {B : Nat → Int32} {q : pu_Q} {kx : Int64 → Option Int64} (hp : p < 2) (hpv : pv_P m p = B) (hB : ∀ k, k < c → -9999 ≤ (B (1 + k)).toInt ∧ (B (1 + k)).toInt ≤ 9999) (hc : c ≤ 60) (hq : rr_R m q) (hH : pb_H q) (hd : c ≤ q.2.2.2.2.1) : ∀ n f k, k + n = c → n < f → lp_X10_apartFrom_15 m 0 (nI p) (nI c) f (pp_ap B q.1 k).toInt64 (nI (k + 1)) kx = kx (pp_ap B q.1 c).toInt64 := by
  intro n
  induction n with
  | zero =>
    intro f k hk hf
    obtain ⟨g, rfl⟩ : ∃ g, f = g + 1 := ⟨f - 1, by omega⟩
    rw [lp_X10_apartFrom_15, if_pos (nI_lt (by omega) (by omega)), show k = c by omega]
  | succ n ih =>
    intro f k hk hf
    obtain ⟨g, rfl⟩ : ∃ g, f = g + 1 := ⟨f - 1, by omega⟩
    have hb := hB k (by omega)
    have hh := hH (k + 1) (by omega)
    have ha := pp_ap_b hB hc hH hd k (by omega)
    have e := fb_subI (x := B (1 + k)) (y := q.1 (k + 1)) (by omega) (by omega)
    have g2 := pu_pl_b (x := B (1 + k) - q.1 (k + 1)) (n := 28000) (by omega) (by omega) (by decide)
    have hd4 : q.2.2.2.2.1 = q.2.2.2.2.1 := rfl
    have e37 : m.1 37 0 (61 * p + (k + 1)) = B (1 + k) := by
      rw [← hpv, Nat.add_comm 1 k]
      rfl
    rw [lp_X10_apartFrom_15, if_neg (nI_nlt (by omega) (by omega)), pq_ald (by omega) (by decide), pq_sb, show (61 : Int32) = nI 61 from rfl, pk_mul, nI_add, pq_ald (by omega) (by decide), pq_sb, hq.1.1 (k + 1) (by omega), e37, pu_pl_r, pl_swap (by omega) (by omega) (by omega) (by omega), pq_let, nI_1, ← pl_add (by omega) (by omega)]
    exact ih g (k + 1) (by omega) (by omega)
theorem rf_pn {m : ev_m} {p c : Nat} {B : Nat → Int32} (hp : p < 2) (hpv : pv_P m p = B) (h0 : B 0 = nI c) : ev_ald (m.1 37 0) 488 (61 * nI p) = some (nI c) := by
  rw [show (61 : Int32) = nI 61 from rfl, pk_mul, pq_ald (by omega) (by decide)]
  have : m.1 37 0 (61 * p) = B 0 := by
    rw [← hpv]
    rfl
  rw [this, h0]
theorem rf_ap {m : ev_m} {p c : Nat} {B : Nat → Int32} {q : pu_Q} (hp : p < 2) (hpv : pv_P m p = B) (h0 : B 0 = nI c) (hB : ∀ k, k < c → -9999 ≤ (B (1 + k)).toInt ∧ (B (1 + k)).toInt ≤ 9999) (hc : c ≤ 60) (hq : rr_R m q) (hH : pb_H q) (hd : c ≤ q.2.2.2.2.1) : f_X10_apartFrom m 0 (nI p) = some (pp_ap B q.1 c).toInt64 := by
  unfold f_X10_apartFrom
  rw [rf_pn hp hpv h0, pq_sb]
  exact rf_ap_l (kx := fun y => some y) hp hpv hB hc hq hH hd c 4000 0 (by omega) (by omega)
theorem rf_sm_l {m : ev_m} {p c : Nat} {B : Nat → Int32} {q : pu_Q} {kx : Int32 → Option (Int32 × ev_m)} (hp : p < 2) (hpv : pv_P m p = B) (hc : c ≤ 60) (hq : rr_R m q) (hd : c ≤ q.2.2.2.2.1) : ∀ n f k, k + n = c → n < f → lp_X10_apart_60 m 0 (nI p) (nI c) f (nI k) kx = kx (nI (pp_sm B q.1 k n)) := by
  intro n
  induction n with
  | zero =>
    intro f k hk hf
    obtain ⟨g, rfl⟩ : ∃ g, f = g + 1 := ⟨f - 1, by omega⟩
    rw [lp_X10_apart_60, if_neg (nI_nlt (by omega) (by omega)), pp_sm]
  | succ n ih =>
    intro f k hk hf
    obtain ⟨g, rfl⟩ : ∃ g, f = g + 1 := ⟨f - 1, by omega⟩
    have e37 : m.1 37 0 (61 * p + 1 + k) = B (1 + k) := by
      rw [← hpv, Nat.add_assoc]
      rfl
    rw [lp_X10_apart_60, if_pos (nI_lt (by omega) (by omega)), nI_1, pq_ald (by omega) (by decide), pq_sb, show (61 : Int32) = nI 61 from rfl, pk_mul, nI_1, nI_add, pq_ald (by omega) (by decide), pq_sb, hq.1.1 (k + 1) (by omega), e37, pp_sm]
    by_cases h : B (1 + k) = q.1 (k + 1)
    · rw [if_pos h, if_pos h.symm]
      exact ih g (k + 1) (by omega) (by omega)
    · rw [if_neg h, if_neg (fun e => h e.symm)]
/-- how far apart a trial is -/
def px_A (S D B : Nat → Int32) (c : Nat) : Int32 := pp_ap B (pu_run S D 0 c).1 c
theorem px_A_b {S D B : Nat → Int32} {c : Nat} (hS : pu_okS S) (hB : ∀ k, k < c → -9999 ≤ (B (1 + k)).toInt ∧ (B (1 + k)).toInt ≤ 9999) (hc : c ≤ 60) : 0 ≤ (px_A S D B c).toInt ∧ (px_A S D B c).toInt ≤ 28000 * 60 := by
  have := pp_ap_b (q := pu_run S D 0 c) hB hc (pb_H_run hS 0 c) (by rw [pu_run_d]; exact Nat.le_refl _) c (Nat.le_refl _)
  unfold px_A
  omega
theorem cl_trialApart {m0 m : ev_m} {S D B : Nat → Int32} {p c : Nat} (h : tc_ m0 m S D) (hS : pu_okS S) (hD : pu_okD D) (hP : cp_P m p B) (h0 : B 0 = nI c) (hc : c ≤ 60) : ∃ m', f_X9_trialApart m 0 (some p) = some (px_A S D B c, m') ∧ tc_ m0 m' S D ∧ cp_P m' p B := by
  have h' : tc_ m m S D := ⟨h.1, h.2.1, pq_Fr.refl _ m⟩
  obtain ⟨m', e, q, b, -, -, ht, -⟩ := cl_trial (seed := 0) (n := c) h hS hD (by omega)
  obtain ⟨m'', e2, -, -, -, -, ht2, -⟩ := cl_trial (seed := 0) (n := c) h' hS hD (by omega)
  rw [e] at e2
  cases e2
  have hd := pu_run_d S D 0 c
  have hP' : cp_P m' p B := hP.fr ht2.2.2 (PC_8 (by omega) (by omega) (by omega)) (PC_8 (by omega) (by omega) (by omega))
  unfold f_X9_trialApart
  rw [pq_on1]
  unfold jn_X9_trialApart_25
  rw [hP.1, h0, e, pq_sb, cl_ap hP' h0 hc q (by omega), pq_sb]
  exact ⟨m', rfl, ht, hP'⟩
theorem rf_trialApart {m0 m : ev_m} {S D B : Nat → Int32} {p c : Nat} (h : tr_ m0 m S D) (hS : pu_okS S) (hD : pu_okD D) (hp : p < 2) (hpv : pv_P m0 p = B) (h0 : B 0 = nI c) (hB : ∀ k, k < c → -9999 ≤ (B (1 + k)).toInt ∧ (B (1 + k)).toInt ≤ 9999) (hc : c ≤ 60) : ∃ m', f_X10_runBy m 0 1 0 (nI c) = some m' ∧ f_X10_apartFrom m' 0 (nI p) = some (px_A S D B c).toInt64 ∧ rr_R m' (pu_run S D 0 c) ∧ tr_ m0 m' S D := by
  obtain ⟨m', e, r, t⟩ := rf_trial (seed := 0) (n := c) h hS hD (by omega)
  have hd := pu_run_d S D 0 c
  exact ⟨m', e, rf_ap hp ((pv_P.fr t.2.2 rfl p).trans hpv) h0 hB hc r (pb_H_run hS 0 c) (by omega), r, t⟩
/-- calls that look first for a paper, a ship, a hand -/
theorem k_paper {α : Type} {m : ev_m} {c0 c1 c2 c3 : Nat} {x y z : Int32} {bad : α} {A : Nat → ev_m → Option (α × ev_m)} {B : ev_m → Option (α × ev_m)} (hI : iv_B m 0 c0 c1 c2 c3)
    (hA : ∀ (p c : Nat) (S D W : Nat → Int32), z = nI p → p < 2 → 1 ≤ c → c ≤ 60 → pu_okS S → pu_okD D → W 0 = nI c → (∀ k, k < c → -9999 ≤ (W (1 + k)).toInt ∧ (W (1 + k)).toInt ≤ 9999) → pv_P m p = W → ∃ a, (∀ m1, tc_ m m1 S D → cp_P m1 p W → ∃ m2, A p m1 = some (a, m2) ∧ pq_Fr PC_ m m2) ∧ (∀ m' m3, pq_Fr PI_ m m' → pv_P m' p = W → tr_ m' m3 S D → ∃ m4, B m3 = some (a, m4) ∧ pq_Fr PR_ m' m4)) :
    kc_ m (fun m => (f_X0_paperAt m 0 z).bind (fun x1 => ev_on x1 (some (bad, m)) (fun j2 => (f_X9_ready m 0 x y (m.1 5 j2 1)).bind (fun p3 => if p3.1 = true then A j2 p3.2 else some (bad, p3.2))))) (fun m => ev_let (ev_pim m 10 0 0 0) (fun m1 => (f_X10_is m1 0 2 z).bind (fun x2 => (if x2 = true then (f_X10_lay m1 0 x y 0).bind (fun p4 => (if p4.1 = true then B p4.2 else some (bad, p4.2))) else some (bad, m1))))) := by
  by_cases hz : ∃ p, p < c2 ∧ z = nI p
  · obtain ⟨p, hp, rfl⟩ := hz
    have hp2 : p < 2 := by have := hI.1.2.2.1; omega
    obtain ⟨c, hc1, hc, h0, hB⟩ := iv_okP hI hp
    have hP := iv_cP hI hp
    have his : ∀ m', pq_Fr PI_ m m' → f_X10_is (ev_pim m' 10 0 0 0) 0 2 (nI p) = some true := by
      intro m' hF
      have hI2 := hI.fr (hF.trans PI_pim) (by decide) (m' := ev_pim m' 10 0 0 0)
      rw [show f_X10_is (ev_pim m' 10 0 0 0) 0 2 (nI p) = _ from rf_is (t := 2) (by decide) hI2.2.2.1.2.2.1, is_T hp (by have := hI.1.2.2.1; omega)]
    by_cases hv : (∃ s, s < c0 ∧ x = nI s) ∧ (∃ h, h < c1 ∧ y = nI h)
    · obtain ⟨⟨s, hs, rfl⟩, h, hh, rfl⟩ := hv
      obtain ⟨m1, e1, t1⟩ := cl_ready_t (n := c) hI hs hh hc1 (by omega)
      obtain ⟨a, h1, h2⟩ := hA p c (pv_S m s) (pv_D m h) (pv_P m p) rfl hp2 hc1 hc (iv_okS hI hs) (iv_okD hI hh) h0 hB rfl
      obtain ⟨m2, e2, F2⟩ := h1 m1 t1 (hP.fr t1.2.2 (PC_8 (by omega) (by omega) (by omega)) (PC_8 (by omega) (by omega) (by omega)))
      have hF2 : pq_Fr PI_ m m2 := F2.sub PI_C
      obtain ⟨m3, e3, t3⟩ := ry_t (z := 0) hI hF2 hs hh
      obtain ⟨m4, e4, F4⟩ := h2 m2 m3 hF2 (pv_P.fr hF2 (PI_k (by decide)) p) t3
      refine ⟨a, m2, m4, ?_, ?_, hF2.trans (F4.sub PI_R)⟩
      · dsimp only
        rw [pat_t hI hp, pq_sb, pq_on1, hP.1, h0, e1, pq_sb, if_pos rfl]
        exact e2
      · dsimp only
        rw [pq_let, his m2 hF2, pq_sb, if_pos rfl, e3, pq_sb, if_pos rfl]
        exact e4
    · refine ⟨bad, m, ev_pim m 10 0 0 0, ?_, ?_, PI_pim⟩
      · dsimp only
        rw [pat_t hI hp, pq_sb, pq_on1, cl_ready_f hI (fun q => hv ⟨q.1, q.2.1⟩), pq_sb, if_neg Bool.false_ne_true]
      · dsimp only
        rw [pq_let, his m (pq_Fr.refl _ m), pq_sb, if_pos rfl, ry_f hI (pq_Fr.refl _ m) (fun q => hv ⟨q.1, q.2.elim id (fun r => absurd rfl r.1)⟩), pq_sb, if_neg Bool.false_ne_true]
  · refine ⟨bad, m, ev_pim m 10 0 0 0, ?_, ?_, PI_pim⟩
    · dsimp only
      rw [pat_f hI hz, pq_sb, pq_on0]
    · have hI2 := hI.fr PI_pim (by decide) (m' := ev_pim m 10 0 0 0)
      dsimp only
      rw [pq_let, show f_X10_is (ev_pim m 10 0 0 0) 0 2 z = _ from rf_is (t := 2) (by decide) hI2.2.2.1.2.2.1, pq_sb, if_neg (fun q => hz (is_F (by have := hI.1.2.2.1; omega) q))]
/-- APART -/
theorem k_apart {m : ev_m} {c0 c1 c2 c3 : Nat} (hI : iv_B m 0 c0 c1 c2 c3) (x y z w : Int32) : kc_ m (fun m => f_X9_apart m 0 x y z w) (fun m => f_X10_apart m 0 x y z w) := by
  refine k_paper (bad := -1) (A := fun j2 m => (f_X8_sail m 0 (some 8) (some 16) 0 (m.1 5 j2 1)).bind (fun m5 => (if w = 0 then (f_X8_apartFrom m5 0 (some j2)).bind (fun x7 => (some ((x7, m5)))) else (f_X8_alikeTo m5 0 (some j2)).bind (fun x8 => (some ((x8, m5))))))) (B := fun m => (ev_ald (m.1 37 0) 488 (61 * z)).bind (fun x6 => (f_X10_runBy m 0 1 0 x6).bind (fun m7 => (if w = 0 then (f_X10_apartFrom m7 0 z).bind (fun x19 => (some ((x19.toInt32, m7)))) else (lp_X10_apart_60 m7 0 z x6 4000 0 (fun x18 => (some ((x18, m7))))))))) hI (fun p c S D W hz hp hc1 hc hS hD h0 hB hpm => ?_)
  subst hz
  refine ⟨if w = 0 then px_A S D W c else nI (pp_sm W (pu_run S D 0 c).1 0 c), fun m1 t1 hP => ?_, fun m' m3 hF hpv t3 => ?_⟩
  · obtain ⟨m2, e, q, b, -, -, ht, -⟩ := cl_trial (seed := 0) (n := c) t1 hS hD (by omega)
    have hd := pu_run_d S D 0 c
    have hP2 : cp_P m2 p W := by
      have t1' : tc_ m1 m1 S D := ⟨t1.1, t1.2.1, pq_Fr.refl _ m1⟩
      obtain ⟨m'', e2, -, -, -, -, ht2, -⟩ := cl_trial (seed := 0) (n := c) t1' hS hD (by omega)
      rw [e] at e2
      cases e2
      exact hP.fr ht2.2.2 (PC_8 (by omega) (by omega) (by omega)) (PC_8 (by omega) (by omega) (by omega))
    refine ⟨m2, ?_, ht.2.2⟩
    try dsimp only
    rw [hP.1, h0, e, pq_sb]
    by_cases hw : w = 0
    · rw [if_pos hw, if_pos hw, cl_ap hP2 h0 hc q (by omega), pq_sb]
      rfl
    · rw [if_neg hw, if_neg hw]
      unfold f_X8_alikeTo
      rw [show (0 : Int32) = nI 0 from rfl, cl_sm_l hP2 h0 hc q (by omega) c 4000 0 (by omega) (by omega), pq_sb]
      rfl
  · obtain ⟨m4, e4, a4, r4, t4⟩ := rf_trialApart t3 hS hD hp hpv h0 hB hc
    have hd := pu_run_d S D 0 c
    refine ⟨m4, ?_, t4.2.2⟩
    try dsimp only
    rw [rf_pn hp ((pv_P.fr t3.2.2 rfl p).trans hpv) h0, pq_sb, e4, pq_sb]
    by_cases hw : w = 0
    · rw [if_pos hw, if_pos hw, a4, pq_sb, Int32.toInt32_toInt64]
    · rw [if_neg hw, if_neg hw, show (0 : Int32) = nI 0 from rfl, rf_sm_l (B := W) hp ((pv_P.fr t4.2.2 rfl p).trans hpv) hc r4 (by omega) c 4000 0 (by omega) (by omega)]
      rfl
