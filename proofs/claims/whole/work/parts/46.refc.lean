/-! pure: the reference's whole run, its rows laid -/
def rr_P : Nat → Nat → Bool := fun r _ => r != 10 && (decide (r < 42) || decide (49 < r))
def rr_R (m : ev_m) (q : pu_Q) : Prop := rr_q m q ∧ rr_t m q.1 q.2.2.2.2.1 ∧ rr_w m q.2.2.1 q.2.2.2.2.1
theorem rr_S.fr {m m' : ev_m} {S : Nat → Int32} {P : Nat → Nat → Bool} (h : rr_S m S) (hF : pq_Fr P m m') (hp : P 40 0 = true) : rr_S m' S := fun k hk => (hF 40 0 k hp).trans (h k hk)
theorem rr_H.fr {m m' : ev_m} {p : Nat} {D : Nat → Int32} {P : Nat → Nat → Bool} (h : rr_H m p D) (hF : pq_Fr P m m') (hp : P 41 0 = true) : rr_H m' p D := fun k hk => (hF 41 0 _ hp).trans (h k hk)
theorem pu_go_d (S D : Nat → Int32) : ∀ n s, (pu_go S D n s).1.2.2.2.2.1 = s.1.2.2.2.2.1 + n
  | 0, s => rfl
  | n + 1, s => by
    rw [pu_go, pu_go_d S D n]
    show s.1.2.2.2.2.1 + 1 + n = _
    omega
theorem pu_free_d (S : Nat → Int32) : ∀ n q, (pu_free S n q).2.2.2.2.1 = q.2.2.2.2.1 + n
  | 0, s => rfl
  | n + 1, q => by
    rw [pu_free, pu_free_d S n]
    show q.2.2.2.2.1 + 1 + n = _
    omega
/-- a man's will, all of it -/
theorem rf_wantsR {m : ev_m} {p : Nat} {S D : Nat → Int32} {q : pu_Q} {a : pu_A} (hp : p < 2) (hH : rr_H m p D) (hD : pu_okD D) (hS : pu_okS S) (hR : rr_S m S) (hq : rr_R m q) (hm : rr_m m p a q.2.2.2.2.1) (hd : q.2.2.2.2.1 ≤ 400) :
    ∃ m', f_X10_wants m 0 (nI p) = some (pu_wt S D q a, m') ∧ rr_R m' (q.1, q.2.1, q.2.2.1, q.2.2.2.1, q.2.2.2.2.1, pu_sd D q.2.2.2.2.2) ∧ rr_m m' p (pu_mt S D q a) (q.2.2.2.2.1 + 1) ∧ (∀ k a0 d0, k ≠ p → rr_m m k a0 d0 → rr_m m' k a0 d0) ∧ pq_Fr rr_P m m' := by
  obtain ⟨m', h, e2, e10, e26, e42, e43, eo, eF⟩ := rf_wants hp hH hD hS hR hq.1 hm hd
  obtain ⟨⟨q45, q46, q47, q48, q32, q26⟩, ⟨t33, t35, t36, t37, t38, t39, t49⟩, ⟨w34, w40, w41, w42⟩⟩ := hq
  refine ⟨m', h, ⟨⟨?_, ?_, ?_, ?_, ?_, ?_⟩, ⟨?_, ?_, ?_, ?_, ?_, ?_, ?_⟩, ⟨?_, ?_, ?_, ?_⟩⟩, ?_, ?_, ?_⟩
  · intro k hk; rw [eF 45 0 k rfl]; exact q45 k hk
  · intro k hk; rw [eF 46 0 k rfl]; exact q46 k hk
  · intro k hk; rw [eF 47 0 k rfl]; exact q47 k hk
  · intro k hk; rw [eF 48 0 k rfl]; exact q48 k hk
  · rw [e10 32 (by decide)]; exact q32
  · exact e26
  · rw [e2]; exact t33
  · rw [e2]; exact t35
  · rw [e10 36 (by decide)]; exact t36
  · rw [e2]; exact t37
  · rw [e10 38 (by decide)]; exact t38
  · rw [e10 39 (by decide)]; exact t39
  · intro k hk; rw [eF 49 0 k rfl]; exact t49 k hk
  · rw [e10 34 (by decide)]; exact w34
  · rw [e10 40 (by decide)]; exact w40
  · rw [e10 41 (by decide)]; exact w41
  · rw [e10 42 (by decide)]; exact w42
  · obtain ⟨-, -, b, hb, h44⟩ := hm
    refine ⟨e42, e43, b, ?_, ?_⟩
    · show b + (a.1 + 1) = _
      omega
    · rw [eF 44 0 p rfl]; exact h44
  · intro k a0 d0 hk ⟨g1, g2, b, hb, g3⟩
    refine ⟨?_, ?_, b, hb, ?_⟩
    · rw [(eo k hk).1]; exact g1
    · rw [(eo k hk).2]; exact g2
    · rw [eF 44 0 k rfl]; exact g3
  · exact eF.sub (fun r i h => by
      revert h
      simp only [rr_P, Bool.and_eq_true, bne_iff_ne, Bool.or_eq_true, decide_eq_true_eq]
      omega)
theorem rf_passR {m : ev_m} {S : Nat → Int32} {q : pu_Q} {want saw : Int32} (hS : pu_okS S) (hR : rr_S m S) (hq : rr_R m q) (hd : q.2.2.2.2.1 < 400) :
    ∃ m', f_X10_pass m 0 want saw = some m' ∧ rr_R m' (pu_ps S q want saw q.2.2.2.2.2) ∧ (∀ k a0 d0, rr_m m k a0 d0 → rr_m m' k a0 d0) ∧ pq_Fr rr_P m m' := by
  obtain ⟨m', h, h1, h2, h3, hF⟩ := rf_pass (want := want) (saw := saw) hS hR hq.1 hq.2.1 hq.2.2 hd
  refine ⟨m', h, ⟨h1, h2, h3⟩, ?_, ?_⟩
  · intro k a0 d0 ⟨g1, g2, b, hb, g3⟩
    refine ⟨?_, ?_, b, hb, ?_⟩
    · rw [hF 42 0 k rfl]; exact g1
    · rw [hF 43 0 k rfl]; exact g2
    · rw [hF 44 0 k rfl]; exact g3
  · exact hF.sub (fun r i h => by
      revert h
      simp only [rr_P, Bool.and_eq_true, bne_iff_ne, Bool.or_eq_true, decide_eq_true_eq]
      omega)
theorem rf_steer_l {p N : Nat} {S D : Nat → Int32} {kx : ev_m → Option ev_m} (hp : p < 2) (hD : pu_okD D) (hS : pu_okS S) (hN : N ≤ 400) : ∀ n f i m q a, i + n = N → n < f → q.2.2.2.2.1 + n ≤ 400 → rr_H m p D → rr_S m S → rr_R m q → rr_m m p a q.2.2.2.2.1 →
    ∃ m', lp_X10_steer_7 0 (nI p) (nI N) f (nI i) m kx = kx m' ∧ rr_R m' (pu_go S D n (q, a)).1 ∧ pq_Fr rr_P m m' := by
  intro n
  induction n with
  | zero =>
    intro f i m q a hi hf _ hH hR hq hm
    obtain ⟨g, rfl⟩ : ∃ g, f = g + 1 := ⟨f - 1, by omega⟩
    rw [lp_X10_steer_7, if_neg (nI_nlt (by omega) (by omega))]
    exact ⟨m, rfl, hq, pq_Fr.refl _ m⟩
  | succ n ih =>
    intro f i m q a hi hf hd hH hR hq hm
    obtain ⟨g, rfl⟩ : ∃ g, f = g + 1 := ⟨f - 1, by omega⟩
    obtain ⟨m1, e1, r1, k1, -, F1⟩ := rf_wantsR hp hH hD hS hR hq hm (by omega)
    obtain ⟨m2, e2, r2, k2, F2⟩ := rf_passR (want := pu_wt S D q a) (saw := m1.1 42 0 p) hS (hR.fr F1 rfl) r1 (by show q.2.2.2.2.1 < 400; omega)
    rw [lp_X10_steer_7, if_pos (nI_lt (by omega) (by omega)), e1, pq_sb, pq_let, pq_ald hp (by decide), pq_sb, e2, pq_sb, nI_1]
    have hF := F1.trans F2
    obtain ⟨m3, e3, r3, F3⟩ := ih g (i + 1) m2 (pu_1 S D (q, a)).1 (pu_1 S D (q, a)).2 (by omega) (by omega) (by show q.2.2.2.2.1 + 1 + n ≤ 400; omega) (hH.fr hF rfl) (hR.fr hF rfl) (by rw [k1.1] at r2; exact r2) (k2 p _ _ k1)
    exact ⟨m3, e3, r3, hF.trans F3⟩
theorem rf_takes {m : ev_m} {p d : Nat} (hp : p < 2) (h32 : m.1 10 0 32 = nI d) : f_X10_takes m 0 (nI p) = some (ev_pim (ev_pim (ev_pim m 42 0 p 0) 43 0 p 0) 44 0 p (nI d)) := by
  unfold f_X10_takes
  have e : (ev_pim (ev_pim m 42 0 p 0) 43 0 p 0).1 10 0 32 = nI d := by simp [pq_pim, h32]
  rw [pq_ast hp (by decide), pq_sb, pq_ast hp (by decide), pq_sb, pq_ast hp (by decide), pq_sb, e]
theorem rf_takesR {m : ev_m} {p : Nat} {q : pu_Q} (hp : p < 2) (hq : rr_R m q) : ∃ m', f_X10_takes m 0 (nI p) = some m' ∧ rr_R m' q ∧ rr_m m' p (0, 0, 0) q.2.2.2.2.1 ∧ (∀ k a0 d0, k ≠ p → rr_m m k a0 d0 → rr_m m' k a0 d0) ∧ pq_Fr rr_P m m' := by
  refine ⟨_, rf_takes hp hq.1.2.2.2.2.1, ?_, ?_, ?_, ?_⟩
  · obtain ⟨⟨q45, q46, q47, q48, q32, q26⟩, ⟨t33, t35, t36, t37, t38, t39, t49⟩, ⟨w34, w40, w41, w42⟩⟩ := hq
    refine ⟨⟨?_, ?_, ?_, ?_, ?_, ?_⟩, ⟨t33, t35, ?_, t37, ?_, ?_, ?_⟩, ⟨?_, ?_, ?_, ?_⟩⟩
    · intro k hk; simp [pq_pim]; exact q45 k hk
    · intro k hk; simp [pq_pim]; exact q46 k hk
    · intro k hk; simp [pq_pim]; exact q47 k hk
    · intro k hk; simp [pq_pim]; exact q48 k hk
    · simp [pq_pim]; exact q32
    · simp [pq_pim]; exact q26
    · simp [pq_pim]; exact t36
    · simp [pq_pim]; exact t38
    · simp [pq_pim]; exact t39
    · intro k hk; simp [pq_pim]; exact t49 k hk
    · simp [pq_pim]; exact w34
    · simp [pq_pim]; exact w40
    · simp [pq_pim]; exact w41
    · simp [pq_pim]; exact w42
  · refine ⟨by simp [pq_pim], by simp [pq_pim], q.2.2.2.2.1, by simp, by simp [pq_pim]⟩
  · intro k a0 d0 hk ⟨g1, g2, b, hb, g3⟩
    refine ⟨by simp [pq_pim, hk]; exact g1, by simp [pq_pim, hk]; exact g2, b, hb, by simp [pq_pim, hk]; exact g3⟩
  · exact (((pq_Fr.refl _ m).pim rfl).pim rfl).pim rfl
theorem rf_steer {m : ev_m} {p n : Nat} {S D : Nat → Int32} {q : pu_Q} (hp : p < 2) (hD : pu_okD D) (hS : pu_okS S) (hd : q.2.2.2.2.1 + n ≤ 400) (hH : rr_H m p D) (hR : rr_S m S) (hq : rr_R m q) :
    ∃ m', f_X10_steer m 0 (nI p) (nI n) = some m' ∧ rr_R m' (pu_steer S D n q) ∧ pq_Fr rr_P m m' := by
  obtain ⟨m1, e1, r1, k1, -, F1⟩ := rf_takesR hp hq
  obtain ⟨m2, e2, r2, F2⟩ := rf_steer_l (kx := fun m => some m) hp hD hS (N := n) (by omega) n 4000 0 m1 q (0, 0, 0) (by omega) (by omega) hd (hH.fr F1 rfl) (hR.fr F1 rfl) r1 k1
  unfold f_X10_steer
  rw [e1, pq_sb]
  exact ⟨m2, e2, r2, F1.trans F2⟩
theorem rf_begin {m : ev_m} {S : Nat → Int32} {seed : Int32} (hR : rr_S m S) : rr_R (s_X10_begin m 0 seed) (pu_q0 S seed) ∧ pq_Fr rr_P m (s_X10_begin m 0 seed) := by
  have h8 : m.1 40 0 8 = S 8 := hR 8 (by decide)
  have h9 : m.1 40 0 9 = S 9 := hR 9 (by decide)
  unfold s_X10_begin
  simp only [pq_let]
  constructor
  · refine ⟨⟨?_, ?_, ?_, ?_, ?_, ?_⟩, ⟨?_, ?_, ?_, ?_, ?_, ?_, ?_⟩, ⟨?_, ?_, ?_, ?_⟩⟩
    · intro k hk
      have hk : k ≤ 0 := hk
      rw [show k = 0 by omega]
      simp [pq_pim, pq_pim2, pq_plm, pq_plml, pq_plmr, pq_pom, pq_poml, pq_pomr, pq_prm, pq_prm2, Nat.reduceEqDiff, reduceIte, and_true, true_and, and_false, false_and, and_self, h8, pu_q0, upd]
    · intro k hk
      have hk : k ≤ 0 := hk
      rw [show k = 0 by omega]
      simp [pq_pim, pq_pim2, pq_plm, pq_plml, pq_plmr, pq_pom, pq_poml, pq_pomr, pq_prm, pq_prm2, Nat.reduceEqDiff, reduceIte, and_true, true_and, and_false, false_and, and_self, h9, pu_q0, upd]
    · intro k hk
      have hk : k ≤ 0 := hk
      rw [show k = 0 by omega]
      simp [pq_pim, pq_pim2, pq_plm, pq_plml, pq_plmr, pq_pom, pq_poml, pq_pomr, pq_prm, pq_prm2, Nat.reduceEqDiff, reduceIte, and_true, true_and, and_false, false_and, and_self, pu_q0]
    · intro k hk
      have hk : k ≤ 0 := hk
      rw [show k = 0 by omega]
      simp [pq_pim, pq_pim2, pq_plm, pq_plml, pq_plmr, pq_pom, pq_poml, pq_pomr, pq_prm, pq_prm2, Nat.reduceEqDiff, reduceIte, and_true, true_and, and_false, false_and, and_self, pu_q0]
    · simp [pq_pim, pq_pim2, pq_plm, pq_plml, pq_plmr, pq_pom, pq_poml, pq_pomr, pq_prm, pq_prm2, Nat.reduceEqDiff, reduceIte, and_true, true_and, and_false, false_and, and_self, pu_q0, nI_0]
    · simp [pq_pim, pq_pim2, pq_plm, pq_plml, pq_plmr, pq_pom, pq_poml, pq_pomr, pq_prm, pq_prm2, Nat.reduceEqDiff, reduceIte, and_true, true_and, and_false, false_and, and_self, pu_q0]
    · simp [pq_pim, pq_pim2, pq_plm, pq_plml, pq_plmr, pq_pom, pq_poml, pq_pomr, pq_prm, pq_prm2, Nat.reduceEqDiff, reduceIte, and_true, true_and, and_false, false_and, and_self, pu_q0, pa_off]
    · simp [pq_pim, pq_pim2, pq_plm, pq_plml, pq_plmr, pq_pom, pq_poml, pq_pomr, pq_prm, pq_prm2, Nat.reduceEqDiff, reduceIte, and_true, true_and, and_false, false_and, and_self, pu_q0, pa_los]
    · simp [pq_pim, pq_pim2, pq_plm, pq_plml, pq_plmr, pq_pom, pq_poml, pq_pomr, pq_prm, pq_prm2, Nat.reduceEqDiff, reduceIte, and_true, true_and, and_false, false_and, and_self, pu_q0, pa_wid]
    · simp [pq_pim, pq_pim2, pq_plm, pq_plml, pq_plmr, pq_pom, pq_poml, pq_pomr, pq_prm, pq_prm2, Nat.reduceEqDiff, reduceIte, and_true, true_and, and_false, false_and, and_self, pu_q0, pa_dri]
    · simp [pq_pim, pq_pim2, pq_plm, pq_plml, pq_plmr, pq_pom, pq_poml, pq_pomr, pq_prm, pq_prm2, Nat.reduceEqDiff, reduceIte, and_true, true_and, and_false, false_and, and_self, pu_q0, pa_tim, nI_0]
    · simp [pq_pim, pq_pim2, pq_plm, pq_plml, pq_plmr, pq_pom, pq_poml, pq_pomr, pq_prm, pq_prm2, Nat.reduceEqDiff, reduceIte, and_true, true_and, and_false, false_and, and_self, pu_q0, pa_sig, upd, pu_sg_r, h8]
    · intro k hk
      have hk : k ≤ 0 := hk
      rw [show k = 0 by omega]
      simp [pq_pim, pq_pim2, pq_plm, pq_plml, pq_plmr, pq_pom, pq_poml, pq_pomr, pq_prm, pq_prm2, Nat.reduceEqDiff, reduceIte, and_true, true_and, and_false, false_and, and_self, pu_q0, pa_pk]
    · simp [pq_pim, pq_pim2, pq_plm, pq_plml, pq_plmr, pq_pom, pq_poml, pq_pomr, pq_prm, pq_prm2, Nat.reduceEqDiff, reduceIte, and_true, true_and, and_false, false_and, and_self, pu_q0, pa_wea]
    · simp [pq_pim, pq_pim2, pq_plm, pq_plml, pq_plmr, pq_pom, pq_poml, pq_pomr, pq_prm, pq_prm2, Nat.reduceEqDiff, reduceIte, and_true, true_and, and_false, false_and, and_self, pu_q0, pa_spk]
    · simp [pq_pim, pq_pim2, pq_plm, pq_plml, pq_plmr, pq_pom, pq_poml, pq_pomr, pq_prm, pq_prm2, Nat.reduceEqDiff, reduceIte, and_true, true_and, and_false, false_and, and_self, pu_q0, pa_sti]
    · simp [pq_pim, pq_pim2, pq_plm, pq_plml, pq_plmr, pq_pom, pq_poml, pq_pomr, pq_prm, pq_prm2, Nat.reduceEqDiff, reduceIte, and_true, true_and, and_false, false_and, and_self, pu_q0, pa_lng]
  · intro r i k h
    have h1 : r ≠ 10 ∧ (r < 42 ∨ 49 < r) := by
      revert h
      simp only [rr_P, Bool.and_eq_true, bne_iff_ne, Bool.or_eq_true, decide_eq_true_eq]
      exact fun h => h
    obtain ⟨h1, h2⟩ := h1
    have a5 : r ≠ 45 := by omega
    have a6 : r ≠ 46 := by omega
    have a7 : r ≠ 47 := by omega
    have a8 : r ≠ 48 := by omega
    have a9 : r ≠ 49 := by omega
    simp [pq_pim, pq_pim2, pq_plm, pq_plml, pq_plmr, pq_pom, pq_poml, pq_pomr, pq_prm, pq_prm2, Nat.reduceEqDiff, reduceIte, and_true, true_and, and_false, false_and, and_self, h1, a5, a6, a7, a8, a9]
theorem rf_free_l {N : Nat} {S : Nat → Int32} {kx : ev_m → Option ev_m} (hS : pu_okS S) (hN : N ≤ 400) : ∀ n f i m q, i + n = N → n < f → q.2.2.2.2.1 + n ≤ 400 → rr_S m S → rr_R m q →
    ∃ m', lp_X10_runBy_19 0 (nI N) f (nI i) m kx = kx m' ∧ rr_R m' (pu_free S n q) ∧ pq_Fr rr_P m m' := by
  intro n
  induction n with
  | zero =>
    intro f i m q hi hf _ hR hq
    obtain ⟨g, rfl⟩ : ∃ g, f = g + 1 := ⟨f - 1, by omega⟩
    rw [lp_X10_runBy_19, if_neg (nI_nlt (by omega) (by omega))]
    exact ⟨m, rfl, hq, pq_Fr.refl _ m⟩
  | succ n ih =>
    intro f i m q hi hf hd hR hq
    obtain ⟨g, rfl⟩ : ∃ g, f = g + 1 := ⟨f - 1, by omega⟩
    obtain ⟨m2, e2, r2, k2, F2⟩ := rf_passR (want := 0) (saw := 0) hS hR hq (by omega)
    rw [lp_X10_runBy_19, if_pos (nI_lt (by omega) (by omega)), e2, pq_sb, nI_1]
    obtain ⟨m3, e3, r3, F3⟩ := ih g (i + 1) m2 _ (by omega) (by omega) (by show q.2.2.2.2.1 + 1 + n ≤ 400; omega) (hR.fr F2 rfl) r2
    exact ⟨m3, e3, r3, F2.trans F3⟩
/-- the runs as they are told -/
def pu_run (S D : Nat → Int32) (seed : Int32) (n : Nat) : pu_Q := pu_steer S D n (pu_q0 S seed)
def pu_run0 (S : Nat → Int32) (seed : Int32) (n : Nat) : pu_Q := pu_free S n (pu_q0 S seed)
theorem rf_run {m : ev_m} {n : Nat} {S D : Nat → Int32} {seed : Int32} (hD : pu_okD D) (hS : pu_okS S) (hn : n ≤ 400) (hH : rr_H m 0 D) (hR : rr_S m S) : ∃ m', f_X10_runBy m 0 1 seed (nI n) = some m' ∧ rr_R m' (pu_run S D seed n) ∧ pq_Fr rr_P m m' := by
  obtain ⟨r1, F1⟩ := rf_begin (seed := seed) hR
  obtain ⟨m2, e2, r2, F2⟩ := rf_steer (p := 0) (n := n) (by decide) hD hS (by show 0 + n ≤ 400; omega) (hH.fr F1 rfl) (hR.fr F1 rfl) r1
  unfold f_X10_runBy
  rw [pq_let, if_neg (by decide), show (0 : Int32) = nI 0 from rfl, e2, pq_sb]
  exact ⟨m2, rfl, r2, F1.trans F2⟩
theorem rf_run0 {m : ev_m} {n : Nat} {S : Nat → Int32} {seed : Int32} (hS : pu_okS S) (hn : n ≤ 400) (hR : rr_S m S) : ∃ m', f_X10_runBy m 0 0 seed (nI n) = some m' ∧ rr_R m' (pu_run0 S seed n) ∧ pq_Fr rr_P m m' := by
  obtain ⟨r1, F1⟩ := rf_begin (seed := seed) hR
  obtain ⟨m2, e2, r2, F2⟩ := rf_free_l (kx := fun m => some m) hS (N := n) (by omega) n 4000 0 (s_X10_begin m 0 seed) (pu_q0 S seed) (by omega) (by omega) (by show 0 + n ≤ 400; omega) (hR.fr F1 rfl) r1
  unfold f_X10_runBy
  rw [pq_let, if_pos rfl]
  exact ⟨m2, e2, r2, F1.trans F2⟩
