/-! pure: searches, and the first of the calls that search -/
theorem upd_self (D : Nat → Int32) (k : Nat) : upd D k (D k) = D := by
  funext j
  unfold upd
  by_cases e : j = k
  · rw [if_pos e, e]
  · rw [if_neg e]
/-- a loop that goes on to its end, with a memory -/
theorem lp_mem {β σ : Type} {N : Nat} {L : Nat → σ → Int32 → ev_m → Option β} {kx : σ → ev_m → Option β} {T : ev_m → Prop} {g : Nat → σ} {ix : Nat → Int32}
    (h0 : ∀ f m, L (f + 1) (g N) (ix N) m = kx (g N) m) (hs : ∀ f k m, k < N → T m → ∃ m', L (f + 1) (g k) (ix k) m = L f (g (k + 1)) (ix (k + 1)) m' ∧ T m') : ∀ n f k m, k + n = N → n < f → T m → ∃ m', L f (g k) (ix k) m = kx (g N) m' ∧ T m' := by
  intro n
  induction n with
  | zero =>
    intro f k m hk hf hT
    obtain ⟨e, rfl⟩ : ∃ e, f = e + 1 := ⟨f - 1, by omega⟩
    rw [show k = N by omega]
    exact ⟨m, h0 e m, hT⟩
  | succ n ih =>
    intro f k m hk hf hT
    obtain ⟨e, rfl⟩ : ∃ e, f = e + 1 := ⟨f - 1, by omega⟩
    obtain ⟨m1, e1, t1⟩ := hs e k m (by omega) hT
    rw [e1]
    exact ih e (k + 1) m1 (by omega) (by omega) t1
/-- from the top down to the first that p takes -/
def pz_dn (p : Nat → Bool) : Nat → Int32
  | 0 => -1
  | k + 1 => if p k = true then nI k else pz_dn p k
/-- from k on, n more -/
def pz_up (p : Nat → Bool) : Nat → Nat → Int32
  | _, 0 => -1
  | k, n + 1 => if p k = true then nI k else pz_up p (k + 1) n
theorem lp_dn {L : Nat → Int32 → ev_m → Option (Int32 × ev_m)} {T : ev_m → Prop} {p : Nat → Bool} {N : Nat}
    (h0 : ∀ f m, T m → ∃ m', L (f + 1) (-1) m = some (-1, m') ∧ T m') (hs : ∀ f k m, k < N → T m → ∃ m', L (f + 1) (nI k) m = (if p k = true then some (nI k, m') else L f (nI k + (-1)) m') ∧ T m') : ∀ j f m, j ≤ N → j < f → T m → ∃ m', L f (nI j + (-1)) m = some (pz_dn p j, m') ∧ T m' := by
  intro j
  induction j with
  | zero =>
    intro f m _ hf hT
    obtain ⟨e, rfl⟩ : ∃ e, f = e + 1 := ⟨f - 1, by omega⟩
    exact h0 e m hT
  | succ j ih =>
    intro f m hj hf hT
    obtain ⟨e, rfl⟩ : ∃ e, f = e + 1 := ⟨f - 1, by omega⟩
    obtain ⟨m1, e1, t1⟩ := hs e j m (by omega) hT
    rw [pk_m1, e1, pz_dn]
    by_cases h : p j = true
    · rw [if_pos h, if_pos h]
      exact ⟨m1, rfl, t1⟩
    · rw [if_neg h, if_neg h]
      exact ih e m1 (by omega) (by omega) t1
theorem lp_up {L : Nat → Int32 → ev_m → Option (Int32 × ev_m)} {T : ev_m → Prop} {p : Nat → Bool} {N : Nat}
    (h0 : ∀ f m, T m → ∃ m', L (f + 1) (nI N) m = some (-1, m') ∧ T m') (hs : ∀ f k m, k < N → T m → ∃ m', L (f + 1) (nI k) m = (if p k = true then some (nI k, m') else L f (nI k + 1) m') ∧ T m') : ∀ n f k m, k + n = N → n < f → T m → ∃ m', L f (nI k) m = some (pz_up p k n, m') ∧ T m' := by
  intro n
  induction n with
  | zero =>
    intro f k m hk hf hT
    obtain ⟨e, rfl⟩ : ∃ e, f = e + 1 := ⟨f - 1, by omega⟩
    rw [show k = N by omega]
    exact h0 e m hT
  | succ n ih =>
    intro f k m hk hf hT
    obtain ⟨e, rfl⟩ : ∃ e, f = e + 1 := ⟨f - 1, by omega⟩
    obtain ⟨m1, e1, t1⟩ := hs e k m (by omega) hT
    rw [e1, pz_up]
    by_cases h : p k = true
    · rw [if_pos h, if_pos h]
      exact ⟨m1, rfl, t1⟩
    · rw [if_neg h, if_neg h, nI_1]
      exact ih e (k + 1) m1 (by omega) (by omega) t1
/-- the least, the first of several -/
def pm_ (c : Nat → Int64) : Nat → Nat
  | 0 => 0
  | n + 1 => if c (n + 1) < c (pm_ c n) then n + 1 else pm_ c n
def pm_s (c : Nat → Int64) (b0 : Int32) (y0 : Int64) (v : Nat → Int32) (k : Nat) : Int32 × Int64 := if k = 0 then (b0, y0) else (v (pm_ c (k - 1)), c (pm_ c (k - 1)))
theorem pm_le (c : Nat → Int64) : ∀ n, pm_ c n ≤ n
  | 0 => Nat.le_refl 0
  | n + 1 => by
    have := pm_le c n
    rw [pm_]
    split <;> omega
theorem pm_c {c : Nat → Int64} {b0 : Int32} {y0 : Int64} {v : Nat → Int32} {k : Nat} (h : c k < y0) : (if c k < (pm_s c b0 y0 v k).2 then v k else (pm_s c b0 y0 v k).1, if c k < (pm_s c b0 y0 v k).2 then c k else (pm_s c b0 y0 v k).2) = pm_s c b0 y0 v (k + 1) := by
  unfold pm_s
  rcases Nat.eq_zero_or_pos k with e | e
  · subst e
    show (if c 0 < y0 then v 0 else b0, if c 0 < y0 then c 0 else y0) = (v 0, c 0)
    rw [if_pos h, if_pos h]
  · obtain ⟨j, rfl⟩ : ∃ j, k = j + 1 := ⟨k - 1, by omega⟩
    simp only [if_neg (show ¬ j + 1 = 0 by omega), if_neg (show ¬ j + 1 + 1 = 0 by omega), show j + 1 - 1 = j from rfl, show j + 1 + 1 - 1 = j + 1 from rfl]
    rw [pm_]
    split <;> rfl
theorem pm_r {c : Nat → Int64} {y0 : Int64} {v : Nat → Int32} {k : Nat} (hv : ∀ j, j ≤ k → v j ≠ -1) : (if (pm_s c (-1) y0 v k).1 = -1 then v k else (if c k < (pm_s c (-1) y0 v k).2 then v k else (pm_s c (-1) y0 v k).1), if (pm_s c (-1) y0 v k).1 = -1 then c k else (if c k < (pm_s c (-1) y0 v k).2 then c k else (pm_s c (-1) y0 v k).2)) = pm_s c (-1) y0 v (k + 1) := by
  unfold pm_s
  rcases Nat.eq_zero_or_pos k with e | e
  · subst e
    simp only [if_pos rfl]
    rfl
  · obtain ⟨j, rfl⟩ : ∃ j, k = j + 1 := ⟨k - 1, by omega⟩
    have hl := pm_le c j
    simp only [if_neg (show ¬ j + 1 = 0 by omega), if_neg (show ¬ j + 1 + 1 = 0 by omega), show j + 1 - 1 = j from rfl, show j + 1 + 1 - 1 = j + 1 from rfl, if_neg (hv _ (Nat.le_succ_of_le hl))]
    rw [pm_]
    split <;> rfl
theorem pm_z {c : Nat → Int64} {b0 : Int32} {v : Nat → Int32} {k : Nat} (hc : ∀ j, ¬ c j < 0) : (if (pm_s c b0 (-1) v k).2 < 0 then v k else (if c k < (pm_s c b0 (-1) v k).2 then v k else (pm_s c b0 (-1) v k).1), if (pm_s c b0 (-1) v k).2 < 0 then c k else (if c k < (pm_s c b0 (-1) v k).2 then c k else (pm_s c b0 (-1) v k).2)) = pm_s c b0 (-1) v (k + 1) := by
  unfold pm_s
  rcases Nat.eq_zero_or_pos k with e | e
  · subst e
    simp only [if_pos rfl, if_pos (show (-1 : Int64) < 0 by decide)]
    rfl
  · obtain ⟨j, rfl⟩ : ∃ j, k = j + 1 := ⟨k - 1, by omega⟩
    simp only [if_neg (show ¬ j + 1 = 0 by omega), if_neg (show ¬ j + 1 + 1 = 0 by omega), show j + 1 - 1 = j from rfl, show j + 1 + 1 - 1 = j + 1 from rfl, if_neg (hc _)]
    rw [pm_]
    split <;> rfl
theorem pm_c1 {c : Nat → Int64} {b0 : Int32} {y0 : Int64} {v : Nat → Int32} {k : Nat} (h : c k < y0) : (if c k < (pm_s c b0 y0 v k).2 then v k else (pm_s c b0 y0 v k).1) = (pm_s c b0 y0 v (k + 1)).1 := congrArg Prod.fst (pm_c h)
theorem pm_c2 {c : Nat → Int64} {b0 : Int32} {y0 : Int64} {v : Nat → Int32} {k : Nat} (h : c k < y0) : (if c k < (pm_s c b0 y0 v k).2 then c k else (pm_s c b0 y0 v k).2) = (pm_s c b0 y0 v (k + 1)).2 := congrArg Prod.snd (pm_c h)
theorem pm_r1 {c : Nat → Int64} {y0 : Int64} {v : Nat → Int32} {k : Nat} (hv : ∀ j, j ≤ k → v j ≠ -1) : (if (pm_s c (-1) y0 v k).1 = -1 then v k else (if c k < (pm_s c (-1) y0 v k).2 then v k else (pm_s c (-1) y0 v k).1)) = (pm_s c (-1) y0 v (k + 1)).1 := congrArg Prod.fst (pm_r hv)
theorem pm_r2 {c : Nat → Int64} {y0 : Int64} {v : Nat → Int32} {k : Nat} (hv : ∀ j, j ≤ k → v j ≠ -1) : (if (pm_s c (-1) y0 v k).1 = -1 then c k else (if c k < (pm_s c (-1) y0 v k).2 then c k else (pm_s c (-1) y0 v k).2)) = (pm_s c (-1) y0 v (k + 1)).2 := congrArg Prod.snd (pm_r hv)
theorem pm_z1 {c : Nat → Int64} {b0 : Int32} {v : Nat → Int32} {k : Nat} (hc : ∀ j, ¬ c j < 0) : (if (pm_s c b0 (-1) v k).2 < 0 then v k else (if c k < (pm_s c b0 (-1) v k).2 then v k else (pm_s c b0 (-1) v k).1)) = (pm_s c b0 (-1) v (k + 1)).1 := congrArg Prod.fst (pm_z hc)
theorem pm_z2 {c : Nat → Int64} {b0 : Int32} {v : Nat → Int32} {k : Nat} (hc : ∀ j, ¬ c j < 0) : (if (pm_s c b0 (-1) v k).2 < 0 then c k else (if c k < (pm_s c b0 (-1) v k).2 then c k else (pm_s c b0 (-1) v k).2)) = (pm_s c b0 (-1) v (k + 1)).2 := congrArg Prod.snd (pm_z hc)
theorem pm_e {c : Nat → Int64} {b0 b1 : Int32} {y0 y1 : Int64} {v : Nat → Int32} {k : Nat} (hk : k ≠ 0) : pm_s c b0 y0 v k = pm_s c b1 y1 v k := by
  unfold pm_s
  rw [if_neg hk, if_neg hk]
/-- bounds of costs -/
theorem pa_off_b {q : pu_Q} (hH : pb_H q) : ∀ k, k ≤ q.2.2.2.2.1 → k ≤ 1000 → 0 ≤ (pa_off q.1 k).toInt ∧ (pa_off q.1 k).toInt ≤ 18000 * k
  | 0, _, _ => by
    show 0 ≤ (0 : Int64).toInt ∧ (0 : Int64).toInt ≤ _
    rw [show (0 : Int64).toInt = 0 from rfl]
    omega
  | k + 1, h, h2 => by
    have a := pa_off_b hH k (by omega) (by omega)
    have b := hH (k + 1) (by omega)
    have c := pu_pl_b (n := 18000) b.1 b.2 (by decide)
    rw [pa_off, fb_addL (by rw [Int32.toInt_toInt64]; omega) (by rw [Int32.toInt_toInt64]; omega), Int32.toInt_toInt64]
    omega
theorem pc_cost_b {S : Nat → Int32} {q : pu_Q} (hH : pb_H q) (hR : pb_R q) (hS : pu_okS S) (hd : q.2.2.2.2.1 ≤ 400) : 0 ≤ (pc_cost S q).toInt ∧ (pc_cost S q).toInt ≤ 100000000 := by
  have a := pa_off_b hH q.2.2.2.2.1 (Nat.le_refl _) (by omega)
  have b := pa_wea_b hR q.2.2.2.2.1 (Nat.le_refl _) (by omega)
  have c := hS.2.2.2.1
  have hm : 0 ≤ (S 5).toInt * (pa_wea q.2.2.1 q.2.2.2.2.1).toInt ∧ (S 5).toInt * (pa_wea q.2.2.1 q.2.2.2.2.1).toInt ≤ 99 * 14000 := ⟨Int.mul_nonneg c.1 b.1, Int.mul_le_mul c.2 (by omega) b.1 (by decide)⟩
  have e : ((S 5).toInt64 * (pa_wea q.2.2.1 q.2.2.2.2.1).toInt64).toInt = (S 5).toInt * (pa_wea q.2.2.1 q.2.2.2.2.1).toInt := by
    rw [fb_mulL (by rw [Int32.toInt_toInt64, Int32.toInt_toInt64]; omega) (by rw [Int32.toInt_toInt64, Int32.toInt_toInt64]; omega), Int32.toInt_toInt64, Int32.toInt_toInt64]
  unfold pc_cost
  rw [fb_addL (by rw [e]; omega) (by rw [e]; omega), e]
  omega
theorem pb_H_go {S D : Nat → Int32} : ∀ n s, pb_H s.1 → pb_H (pu_go S D n s).1
  | 0, _, h => h
  | n + 1, s, h => pb_H_go n (pu_1 S D s) (pb_ps h)
theorem pb_H_run {S D : Nat → Int32} (hS : pu_okS S) (seed : Int32) (n : Nat) : pb_H (pu_run S D seed n) := pb_H_go n _ (pb_q0 hS)
theorem pb_H_free {S : Nat → Int32} : ∀ n q, pb_H q → pb_H (pu_free S n q)
  | 0, _, h => h
  | n + 1, _, h => pb_H_free n _ (pb_ps h)
theorem pb_H_run0 {S : Nat → Int32} (hS : pu_okS S) (seed : Int32) (n : Nat) : pb_H (pu_run0 S seed n) := pb_H_free n _ (pb_q0 hS)
theorem pc_run_b {S D : Nat → Int32} (hS : pu_okS S) (seed : Int32) {n : Nat} (hn : n ≤ 400) : 0 ≤ (pc_cost S (pu_run S D seed n)).toInt ∧ (pc_cost S (pu_run S D seed n)).toInt ≤ 100000000 := pc_cost_b (pb_H_run hS seed n) (pb_R_run hS seed n) hS (by rw [pu_run_d]; exact hn)
theorem pL_max {x : Int64} (h : x.toInt ≤ 100000000) : x < 9223372036854775807 := by
  rw [fa_lt64, show (9223372036854775807 : Int64).toInt = 9223372036854775807 from rfl]
  omega
theorem pL_min {x : Int64} (h : 0 ≤ x.toInt) : ¬ x < 0 := by
  rw [fa_lt64, show (0 : Int64).toInt = 0 from rfl]
  omega
theorem px_C_max {S D : Nat → Int32} (hS : pu_okS S) {n : Nat} (hn : n ≤ 400) : px_C S D n < 9223372036854775807 := pL_max (pc_run_b hS 0 hn).2
theorem px_C_min {S D : Nat → Int32} (hS : pu_okS S) {n : Nat} (hn : n ≤ 400) : ¬ px_C S D n < 0 := pL_min (pc_run_b hS 0 hn).1
/-- the reference's side of ready, behind the class -/
theorem rk_t {m m' : ev_m} {c0 c1 c2 c3 s h n : Nat} (hI : iv_B m 0 c0 c1 c2 c3) (hF : pq_Fr PI_ m m') (hs : s < c0) (hh : h < c1) (hn1 : 1 ≤ n) (hn2 : n ≤ 200) : ∃ m'', f_X10_layFor (ev_pim m' 10 0 0 0) 0 (nI s) (nI h) (nI n) = some (true, m'') ∧ tr_ m' m'' (pv_S m s) (pv_D m h) := by
  have hI' := hI.fr hF (by decide)
  obtain ⟨⟨b0, b1, -, -⟩, -, ⟨r0, r1, -, -⟩, -⟩ := hI'
  obtain ⟨m'', e, h1, h2, h3⟩ := rf_layFor_t (m := ev_pim m' 10 0 0 0) (c0 := c0) (c1 := c1) (by rw [pq_pim, if_neg (by decide)]; exact r0) (by rw [pq_pim, if_neg (by decide)]; exact r1) b0 b1 hs hh hn1 hn2
  have eS : pv_S (ev_pim m' 10 0 0 0) s = pv_S m s := by
    funext k
    show (ev_pim m' 10 0 0 0).1 35 0 _ = m.1 35 0 _
    rw [pq_pim, if_neg (by omega)]
    exact hF 35 0 _ (PI_k (by decide))
  have eD : pv_D (ev_pim m' 10 0 0 0) h = pv_D m h := by
    funext k
    show (ev_pim m' 10 0 0 0).1 36 0 _ = m.1 36 0 _
    rw [pq_pim, if_neg (by omega)]
    exact hF 36 0 _ (PI_k (by decide))
  rw [eS] at h1
  rw [eD] at h2
  exact ⟨m'', e, h1, h2, ((pq_Fr.refl PR_ m').pim rfl).trans (h3.sub PR_L)⟩
theorem rk_f {m m' : ev_m} {c0 c1 c2 c3 : Nat} {x y z : Int32} (hI : iv_B m 0 c0 c1 c2 c3) (hF : pq_Fr PI_ m m') (hn : ¬ ((∃ s, s < c0 ∧ x = nI s) ∧ (∃ h, h < c1 ∧ y = nI h) ∧ ∃ n, 1 ≤ n ∧ n ≤ 200 ∧ z = nI n)) : f_X10_layFor (ev_pim m' 10 0 0 0) 0 x y z = some (false, ev_pim m' 10 0 0 0) := by
  have hI' := hI.fr hF (by decide)
  obtain ⟨⟨b0, b1, -, -⟩, -, ⟨r0, r1, -, -⟩, -⟩ := hI'
  exact rf_layFor_f (c0 := c0) (c1 := c1) (by rw [pq_pim, if_neg (by decide)]; exact r0) (by rw [pq_pim, if_neg (by decide)]; exact r1) b0 b1 hn
theorem PI_pim {m : ev_m} {v : Int32} : pq_Fr PI_ m (ev_pim m 10 0 0 v) := (pq_Fr.refl _ m).pim rfl
/-- a call, on both sides: the same answer, and nothing that is told changes -/
def kc_ {α : Type} (m : ev_m) (F : ev_m → Option (α × ev_m)) (G : ev_m → Option (α × ev_m)) : Prop := ∃ a m1 m2, F m = some (a, m1) ∧ G m1 = some (a, m2) ∧ pq_Fr PI_ m m2
theorem iv_okS {m : ev_m} {c0 c1 c2 c3 s : Nat} (hI : iv_B m 0 c0 c1 c2 c3) (hs : s < c0) : pu_okS (pv_S m s) := by
  have := (hI.2.2.2.1 s hs).2
  rw [show 2 * 0 + s = s by omega] at this
  exact this
theorem iv_okD {m : ev_m} {c0 c1 c2 c3 s : Nat} (hI : iv_B m 0 c0 c1 c2 c3) (hs : s < c1) : pu_okD (pv_D m s) := by
  have := (hI.2.2.2.2.1 s hs).2
  rw [show 4 * 0 + s = s by omega] at this
  exact this
theorem pu_okD.put {D : Nat → Int32} {k : Nat} {v : Int32} (h : pu_okD D) (hk : k < 3 ∨ k = 5 ∨ k = 7) : pu_okD (upd D k v) := by
  unfold pu_okD
  rw [pk_un (by omega), pk_un (by omega), pk_un (by omega), pk_un (by omega), pk_un (by omega)]
  exact h
/-- calls that look first whether there is such a ship, such a hand, such an n -/
theorem k_ready {α : Type} {m : ev_m} {c0 c1 c2 c3 : Nat} {x y z : Int32} {bad : α} {A B : ev_m → Option (α × ev_m)} (hI : iv_B m 0 c0 c1 c2 c3)
    (hA : ∀ (n : Nat) (S D : Nat → Int32), z = nI n → 1 ≤ n → n ≤ 200 → pu_okS S → pu_okD D → (∃ s, s < c0 ∧ x = nI s ∧ S = pv_S m s) → ∃ a, (∀ m1, tc_ m m1 S D → ∃ m2, A m1 = some (a, m2) ∧ pq_Fr PC_ m m2) ∧ (∀ m' m3, pq_Fr PI_ m m' → tr_ m' m3 S D → ∃ m4, B m3 = some (a, m4) ∧ pq_Fr PR_ m' m4)) :
    kc_ m (fun m => (f_X9_ready m 0 x y z).bind (fun p1 => (if p1.1 = true then A p1.2 else (some (bad, p1.2))))) (fun m => ev_let (ev_pim m 10 0 0 0) (fun m1 => (f_X10_layFor m1 0 x y z).bind (fun p2 => (if p2.1 = true then B p2.2 else (some (bad, p2.2)))))) := by
  by_cases hv : (∃ s, s < c0 ∧ x = nI s) ∧ (∃ h, h < c1 ∧ y = nI h) ∧ ∃ n, 1 ≤ n ∧ n ≤ 200 ∧ z = nI n
  · obtain ⟨⟨s, hs, rfl⟩, ⟨h, hh, rfl⟩, n, hn1, hn2, rfl⟩ := hv
    obtain ⟨m1, e1, t1⟩ := cl_ready_t hI hs hh hn1 hn2
    obtain ⟨a, h1, h2⟩ := hA n (pv_S m s) (pv_D m h) rfl hn1 hn2 (iv_okS hI hs) (iv_okD hI hh) ⟨s, hs, rfl, rfl⟩
    obtain ⟨m2, e2, F2⟩ := h1 m1 t1
    have hF2 : pq_Fr PI_ m m2 := F2.sub PI_C
    obtain ⟨m3, e3, t3⟩ := rk_t hI hF2 hs hh hn1 hn2
    obtain ⟨m4, e4, F4⟩ := h2 m2 m3 hF2 t3
    refine ⟨a, m2, m4, ?_, ?_, hF2.trans (F4.sub PI_R)⟩
    · dsimp only
      rw [e1, pq_sb, if_pos rfl]
      exact e2
    · dsimp only
      rw [pq_let, e3, pq_sb, if_pos rfl]
      exact e4
  · refine ⟨bad, m, ev_pim m 10 0 0 0, ?_, ?_, PI_pim⟩
    · dsimp only
      rw [cl_ready_f hI hv, pq_sb, if_neg Bool.false_ne_true]
    · dsimp only
      rw [pq_let, rk_f hI (pq_Fr.refl _ m) hv, pq_sb, if_neg Bool.false_ne_true]
/-- IRON -/
theorem k_iron {m : ev_m} {c0 c1 c2 c3 : Nat} (hI : iv_B m 0 c0 c1 c2 c3) (x y z w : Int32) : kc_ m (fun m => f_X9_iron m 0 x y z w) (fun m => f_X10_iron m 0 x y z w) := by
  refine k_ready (bad := -1) (A := fun m => lp_X9_iron_25 0 z w 4000 ((-1)) 9223372036854775807 0 m (fun x16 y17 m18 => (if w = 0 then (some ((x16.toInt64, m18))) else (some ((y17, m18)))))) (B := fun m => lp_X10_iron_28 0 z w 4000 ((-1)) 0 0 m (fun x19 y20 m21 => (if w = 0 then (some ((x19.toInt64, m21))) else (some ((y20, m21)))))) hI (fun n S D hz hn1 hn2 hS hD _ => ?_)
  subst hz
  obtain ⟨c, hc⟩ : ∃ c : Nat → Int64, ∀ k, px_C S (upd D 2 (nI k)) n = c k := ⟨fun k => px_C S (upd D 2 (nI k)) n, fun _ => rfl⟩
  have hcm : ∀ j, c j < 9223372036854775807 := fun j => by rw [← hc]; exact px_C_max hS (by omega)
  have hok : ∀ v k, pu_okD (upd (upd D 2 v) 2 k) := fun v k => by rw [upd_twice]; exact hD.put (by omega)
  refine ⟨if w = 0 then (pm_s c (-1) 0 nI 21).1.toInt64 else (pm_s c (-1) 0 nI 21).2, fun m1 t1 => ?_, fun m' m3 hF t3 => ?_⟩
  · obtain ⟨m2, e2, v2, t2⟩ := lp_mem (L := fun f (a : Int32 × Int64) i m => lp_X9_iron_25 0 (nI n) w f a.1 a.2 i m (fun x16 y17 m18 => if w = 0 then some (x16.toInt64, m18) else some (y17, m18))) (kx := fun a m => if w = 0 then some (a.1.toInt64, m) else some (a.2, m)) (T := fun m' => ∃ v, tc_ m m' S (upd D 2 v)) (N := 21) (g := pm_s c (-1) 9223372036854775807 nI) (ix := nI)
      (by
        intro f m'
        rw [lp_X9_iron_25, if_pos (show 20 < nI 21 from nI_lt (a := 20) (by decide) (by decide))])
      (by
        intro f k m' hk ⟨v, hT⟩
        obtain ⟨m'', e, t⟩ := cl_costWith (k := 2) (v := nI k) (n := n) hT hS (hok v _) (by omega) (by decide)
        rw [upd_twice] at e t
        rw [hc] at e
        refine ⟨m'', ?_, _, t⟩
        rw [lp_X9_iron_25, if_neg (show ¬ 20 < nI k from nI_nlt (a := 20) (by omega) (by decide)), show (2 : Int32) = nI 2 from rfl, e, pq_sb, pq_let, pq_let, pq_let, nI_1]
        dsimp only
        rw [pm_c1 (hcm k), pm_c2 (hcm k)])
      21 4000 0 m1 (by decide) (by decide) ⟨D 2, by rw [upd_self]; exact t1⟩
    refine ⟨m2, ?_, t2.2.2⟩
    refine Eq.trans e2 ?_
    rw [pm_e (k := 21) (b1 := -1) (y1 := 0) (by decide)]
    split <;> rfl
  · obtain ⟨m2, e2, v2, t2⟩ := lp_mem (L := fun f (a : Int32 × Int64) i m => lp_X10_iron_28 0 (nI n) w f a.1 a.2 i m (fun x16 y17 m18 => if w = 0 then some (x16.toInt64, m18) else some (y17, m18))) (kx := fun a m => if w = 0 then some (a.1.toInt64, m) else some (a.2, m)) (T := fun m4 => ∃ v, tr_ m' m4 S (upd D 2 v)) (N := 21) (g := pm_s c (-1) 0 nI) (ix := nI)
      (by
        intro f m'
        rw [lp_X10_iron_28, if_pos (show 20 < nI 21 from nI_lt (a := 20) (by decide) (by decide))])
      (by
        intro f k m4 hk ⟨v, hT⟩
        have hT2 := hT.putD (k := 2) (v := nI k) (by decide)
        obtain ⟨m'', e, t⟩ := rf_trialCost (n := n) hT2 hS (hok v _) (by omega)
        rw [upd_twice] at e t
        rw [hc] at e
        refine ⟨m'', ?_, _, t⟩
        rw [lp_X10_iron_28, if_neg (show ¬ 20 < nI k from nI_nlt (a := 20) (by omega) (by decide)), show (2 : Int32) = nI 2 from rfl, rf_put (by decide), pq_sb, e, pq_sb, pq_let, pq_let, pq_let, nI_1]
        dsimp only
        rw [pm_r1 (fun j hj => nI_m1 (by omega)), pm_r2 (fun j hj => nI_m1 (by omega))])
      21 4000 0 m3 (by decide) (by decide) ⟨D 2, by rw [upd_self]; exact t3⟩
    refine ⟨m2, ?_, t2.2.2⟩
    refine Eq.trans e2 ?_
    split <;> rfl
