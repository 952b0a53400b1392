/-! pure: texts: a text taken, on both sides -/
theorem and255 (x : Int32) : ∃ v : Nat, v < 256 ∧ x &&& 255 = nI v := by
  refine ⟨(x &&& 255).toBitVec.toNat, ?_, ?_⟩
  · rw [Int32.toBitVec_and, BitVec.toNat_and]
    exact Nat.lt_of_le_of_lt Nat.and_le_right (by decide)
  · apply Int32.toBitVec_inj.1
    show _ = BitVec.ofNat 32 _
    rw [BitVec.ofNat_toNat, BitVec.setWidth_eq]
def xd_ (r i : Nat) : Prop := xc_ r i ∨ ((r = 2 ∨ r = 11) ∧ i = 4)
/-- drafts as they begin -/
def dS_ (k : Nat) : Int32 := if k = 0 then 5 else if k = 1 then 10 else if k = 3 then 35 else if k = 4 then 35 else if k = 10 then 1 else 0
def dR_ (so : Int32) (k : Nat) : Int32 := if so = 0 then dS_ k else if so = 1 then (if k = 4 then 1 else 0) else 0
def dC_ (m : ev_m) : Prop := (∀ k, k < 11 → m.1 3 9 k = dS_ k) ∧ m.1 12 9 0 = 0 ∧ (∀ k, k < 10 → m.1 4 17 k = if k = 4 then 1 else 0) ∧ m.1 5 8 1 = 0 ∧ m.1 6 8 2 = 0
theorem cl_clearH_l {kx : ev_m → Option ev_m} : ∀ n f k m, k + n = 9 → n < f → ∃ m', lp_X1_clear_2 17 f (nI k) m kx = kx m' ∧ (∀ c, k ≤ c → c < 9 → m'.1 4 17 c = 0) ∧ (∀ r x c, ¬ (r = 4 ∧ x = 17 ∧ k ≤ c ∧ c < 9) → m'.1 r x c = m.1 r x c) := by
  intro n
  induction n with
  | zero =>
    intro f k m hk hf
    obtain ⟨g, rfl⟩ : ∃ g, f = g + 1 := ⟨f - 1, by omega⟩
    rw [lp_X1_clear_2, if_pos (show 8 < nI k from nI_lt (a := 8) (by omega) (by omega))]
    exact ⟨m, rfl, fun c h1 h2 => by omega, fun _ _ _ _ => rfl⟩
  | succ n ih =>
    intro f k m hk hf
    obtain ⟨g, rfl⟩ : ∃ g, f = g + 1 := ⟨f - 1, by omega⟩
    have ew : s_X1_write m 17 (nI k) 0 = ev_pim m 4 17 k 0 := by
      by_cases e : k = 8
      · subst e
        rw [cl_writeH8]
        rfl
      · rw [cl_writeH k (by omega)]
    rw [lp_X1_clear_2, if_neg (show ¬ 8 < nI k from nI_nlt (a := 8) (by omega) (by omega)), ew, pq_let, nI_1]
    obtain ⟨m', e, h1, h2⟩ := ih g (k + 1) (ev_pim m 4 17 k 0) (by omega) (by omega)
    refine ⟨m', e, fun c a1 a2 => ?_, fun r x c hn => ?_⟩
    · by_cases q : c = k
      · rw [h2 4 17 c (by omega), pq_pim, if_pos ⟨rfl, rfl, q⟩]
      · exact h1 c (by omega) a2
    · rw [h2 r x c (by omega), pq_pim, if_neg (by omega)]
theorem cl_clearH (m : ev_m) : ∃ m', f_X1_clear m 17 = some m' ∧ (∀ k, k < 10 → m'.1 4 17 k = if k = 4 then 1 else 0) ∧ ∀ r i k, ¬ (r = 4 ∧ i = 17) → m'.1 r i k = m.1 r i k := by
  unfold f_X1_clear
  obtain ⟨m', e, h1, h2⟩ := cl_clearH_l (kx := fun m6 => ev_let (ev_pim m6 4 17 4 1) (fun m7 => ev_let (ev_pim m7 4 17 9 0) (fun m8 => (some (m8))))) 9 4000 0 m (by decide) (by decide)
  rw [show lp_X1_clear_2 17 4000 0 m _ = _ from e, pq_let, pq_let]
  refine ⟨_, rfl, fun k hk => ?_, fun r i k h => ?_⟩
  · rw [pq_pim]
    by_cases q : k = 9
    · rw [if_pos ⟨rfl, rfl, q⟩, if_neg (by omega)]
    · rw [if_neg (fun z => q z.2.2), pq_pim]
      by_cases q4 : k = 4
      · rw [if_pos ⟨rfl, rfl, q4⟩, if_pos q4]
      · rw [if_neg (fun z => q4 z.2.2), if_neg q4, h1 k (by omega) (by omega)]
  · rw [pq_pim, if_neg (by omega), pq_pim, if_neg (by omega)]
    exact h2 r i k (by omega)
theorem cl_clearS (m : ev_m) : (∀ k, k < 11 → (s_X5_clear m 9).1 3 9 k = dS_ k) ∧ (s_X5_clear m 9).1 12 9 0 = 0 ∧ ∀ r i k, ¬ ((r = 3 ∨ r = 12) ∧ i = 9) → (s_X5_clear m 9).1 r i k = m.1 r i k := by
  have e : s_X5_clear m 9 = ev_put (ev_pim (ev_pim (ev_pim (ev_pim (ev_pim (ev_pim (ev_pim (ev_pim (ev_pim (ev_pim (ev_pim m 3 9 0 5) 3 9 1 10) 3 9 2 0) 3 9 3 35) 3 9 4 35) 3 9 5 0) 3 9 6 0) 3 9 7 0) 3 9 8 0) 3 9 9 0) 3 9 10 1) 12 9 12 0 0 := rfl
  rw [e, show (0 : Int32) = nI 0 from rfl, pq_put (by decide) (by decide), show nI 0 = (0 : Int32) from rfl]
  refine ⟨fun k hk => ?_, ?_, fun r i k h => ?_⟩
  · rcases (show k = 0 ∨ k = 1 ∨ k = 2 ∨ k = 3 ∨ k = 4 ∨ k = 5 ∨ k = 6 ∨ k = 7 ∨ k = 8 ∨ k = 9 ∨ k = 10 by omega) with rfl | rfl | rfl | rfl | rfl | rfl | rfl | rfl | rfl | rfl | rfl <;> rfl
  · rw [pq_pim, if_pos ⟨rfl, rfl, rfl⟩]
  · rw [pq_pim, if_neg (by omega), pq_pim, if_neg (by omega), pq_pim, if_neg (by omega), pq_pim, if_neg (by omega), pq_pim, if_neg (by omega), pq_pim, if_neg (by omega), pq_pim, if_neg (by omega), pq_pim, if_neg (by omega), pq_pim, if_neg (by omega), pq_pim, if_neg (by omega), pq_pim, if_neg (by omega), pq_pim, if_neg (by omega)]
/-- the class's beginning -/
theorem cl_take0 {m : ev_m} {B : Nat → Int32} {L : Nat} (so : Int32) (hL : L ≤ 600) (h1 : m.1 2 0 1 = nI L) (hb : ∀ k, k < L → m.1 11 0 k &&& 255 = B k) : ∃ m8, f_X4_take m 0 so (some 0) = (f_X4_next m8 0).bind (fun m9 => (lp_X4_take_60 0 so 4000 1 0 m9 (fun x29 m30 => (jn_X4_take_114 m30 0 so x29)))) ∧ xt_c m8 B L ∧ m8.1 7 0 9 = nI 0 ∧ fc_ m8 (0, 0) ∧ dC_ m8 ∧ ∀ r i k, ¬ xd_ r i → m8.1 r i k = m.1 r i k := by
  unfold f_X4_take
  rw [pq_let, pq_let, pq_let, pq_let]
  generalize hM : ev_pim (ev_pim (ev_tcp m (some 0) 4) 7 0 4 0) 7 0 5 (-1) = M
  have hf : ∀ r i k, ¬ xd_ r i → M.1 r i k = m.1 r i k := by
    intro r i k h
    unfold xd_ xc_ at h
    rw [← hM, pq_pim, if_neg (by omega), pq_pim, if_neg (by omega)]
    unfold ev_tcp ev_cpm
    try dsimp only
    rw [pq_pim, if_neg (by omega), pq_prm, if_neg (by omega)]
  have h2 : M.1 2 4 1 = nI L := by
    rw [← hM, pq_pim, if_neg (by decide), pq_pim, if_neg (by decide)]
    unfold ev_tcp ev_cpm
    try dsimp only
    rw [pq_pim, if_pos ⟨rfl, rfl, rfl⟩]
    exact h1
  have h11 : ∀ k, k < 600 → M.1 11 4 k = m.1 11 0 k := by
    intro k hk
    rw [← hM, pq_pim, if_neg (by omega), pq_pim, if_neg (by omega)]
    unfold ev_tcp ev_cpm
    try dsimp only
    rw [pq_pim, if_neg (by omega), pq_prm, if_pos ⟨rfl, rfl⟩, pk_cpy_in (by omega) (by omega), show 0 + (k - 0) = k by omega]
  have h4 : M.1 7 0 4 = 0 := by rw [← hM, pq_pim, if_neg (by decide), pq_pim, if_pos ⟨rfl, rfl, rfl⟩]
  have h5 : M.1 7 0 5 = -1 := by rw [← hM, pq_pim, if_pos ⟨rfl, rfl, rfl⟩]
  clear hM
  obtain ⟨a1, a2, a3⟩ := cl_clearS M
  obtain ⟨m5, e5, b1, b2⟩ := cl_clearH (s_X5_clear M 9)
  rw [e5, pq_sb, pq_let]
  unfold s_X3_clear s_X7_clear
  rw [pq_let, pq_let, pq_let, pq_let]
  have hall : ∀ r i k, ¬ ((r = 3 ∨ r = 12) ∧ i = 9) → ¬ (r = 4 ∧ i = 17) → ¬ ((r = 5 ∨ r = 6) ∧ i = 8) → ¬ (r = 7 ∧ i = 0 ∧ k = 9) → (ev_pim (ev_pim (ev_pim m5 5 8 1 0) 6 8 2 0) 7 0 9 0).1 r i k = M.1 r i k := fun r i k q1 q2 q3 q4 => by
    rw [pq_pim, if_neg (by omega), pq_pim, if_neg (by omega), pq_pim, if_neg (by omega), b2 r i k q2, a3 r i k q1]
  refine ⟨ev_pim (ev_pim (ev_pim m5 5 8 1 0) 6 8 2 0) 7 0 9 0, rfl, ⟨?_, fun k hk => ?_⟩, ?_, ⟨?_, ?_⟩, ⟨fun k hk => ?_, ?_, fun k hk => ?_, ?_, ?_⟩, fun r i k h => ?_⟩
  · rw [hall 2 4 1 (by omega) (by omega) (by omega) (by omega)]
    exact h2
  · rw [hall 11 4 k (by omega) (by omega) (by omega) (by omega), h11 k (by omega)]
    exact hb k hk
  · rw [pq_pim, if_pos ⟨rfl, rfl, rfl⟩]
    rfl
  · rw [hall 7 0 4 (by omega) (by omega) (by omega) (by omega)]
    exact h4
  · rw [hall 7 0 5 (by omega) (by omega) (by omega) (by omega)]
    exact h5
  · rw [pq_pim, if_neg (by omega), pq_pim, if_neg (by omega), pq_pim, if_neg (by omega), b2 3 9 k (by omega)]
    exact a1 k hk
  · rw [pq_pim, if_neg (by omega), pq_pim, if_neg (by omega), pq_pim, if_neg (by omega), b2 12 9 0 (by omega)]
    exact a2
  · rw [pq_pim, if_neg (by omega), pq_pim, if_neg (by omega), pq_pim, if_neg (by omega)]
    exact b1 k hk
  · rw [pq_pim, if_neg (by omega), pq_pim, if_neg (by omega), pq_pim, if_pos ⟨rfl, rfl, rfl⟩]
  · rw [pq_pim, if_neg (by omega), pq_pim, if_pos ⟨rfl, rfl, rfl⟩]
  · rw [hall r i k (by unfold xd_ xc_ at h; omega) (by unfold xd_ xc_ at h; omega) (by unfold xd_ xc_ at h; omega) (by unfold xd_ xc_ at h; omega)]
    exact hf r i k h
/-- the reference's beginning -/
theorem rf_clear_l {so : Int32} {kx : ev_m → Option ev_m} : ∀ n f k m, k + n = 61 → n < f → ∃ m', lp_X10_clear_2 0 so f (nI k) m kx = kx m' ∧ (∀ c, k ≤ c → c < 61 → m'.1 39 0 c = 0) ∧ (∀ r x c, ¬ (r = 39 ∧ x = 0 ∧ k ≤ c ∧ c < 61) → m'.1 r x c = m.1 r x c) := by
  intro n
  induction n with
  | zero =>
    intro f k m hk hf
    obtain ⟨g, rfl⟩ : ∃ g, f = g + 1 := ⟨f - 1, by omega⟩
    rw [lp_X10_clear_2, if_neg (show ¬ nI k < 61 from nI_nlt (b := 61) (by omega) (by omega))]
    exact ⟨m, rfl, fun c h1 h2 => by omega, fun _ _ _ _ => rfl⟩
  | succ n ih =>
    intro f k m hk hf
    obtain ⟨g, rfl⟩ : ∃ g, f = g + 1 := ⟨f - 1, by omega⟩
    rw [lp_X10_clear_2, if_pos (show nI k < 61 from nI_lt (b := 61) (by omega) (by omega)), sN_39 (by omega), pq_sb, nI_1]
    obtain ⟨m', e, h1, h2⟩ := ih g (k + 1) (ev_pim m 39 0 k 0) (by omega) (by omega)
    refine ⟨m', e, fun c a1 a2 => ?_, fun r x c hn => ?_⟩
    · by_cases q : c = k
      · rw [h2 39 0 c (by omega), pq_pim, if_pos ⟨rfl, rfl, q⟩]
      · exact h1 c (by omega) a2
    · rw [h2 r x c (by omega), pq_pim, if_neg (by omega)]
theorem rf_clear (so : Int32) (m : ev_m) : ∃ m', f_X10_clear m 0 so = some m' ∧ (∀ k, k < 61 → m'.1 39 0 k = dR_ so k) ∧ ∀ r i k, r ≠ 39 → m'.1 r i k = m.1 r i k := by
  unfold f_X10_clear
  obtain ⟨m', e, h1, h2⟩ := rf_clear_l (so := so) (kx := fun m7 => (if so = 0 then ev_let (ev_pim m7 39 0 0 5) (fun m15 => ev_let (ev_pim m15 39 0 1 10) (fun m16 => ev_let (ev_pim m16 39 0 3 35) (fun m17 => ev_let (ev_pim m17 39 0 4 35) (fun m18 => ev_let (ev_pim m18 39 0 10 1) (fun m19 => (jn_X10_clear_64 m19 0 so)))))) else (jn_X10_clear_64 m7 0 so))) 61 4000 0 m (by decide) (by decide)
  rw [show lp_X10_clear_2 0 so 4000 0 m _ = _ from e]
  unfold dR_
  by_cases h0 : so = 0
  · rw [if_pos h0, pq_let, pq_let, pq_let, pq_let, pq_let]
    unfold jn_X10_clear_64
    rw [if_neg (by rw [h0]; decide), pq_let, pq_let]
    refine ⟨_, rfl, fun k hk => ?_, fun r i k h => ?_⟩
    · rw [if_pos h0, pq_pim]
      by_cases q4 : k = 4
      · subst q4
        rw [if_pos ⟨rfl, rfl, rfl⟩]
        rfl
      · rw [if_neg (fun z => q4 z.2.2), pq_pim]
        unfold dS_
        by_cases q10 : k = 10
        · subst q10
          rw [if_pos ⟨rfl, rfl, rfl⟩]
          rfl
        · rw [if_neg (fun z => q10 z.2.2), pq_pim, if_neg (fun z => q4 z.2.2), pq_pim]
          by_cases q3 : k = 3
          · subst q3
            rw [if_pos ⟨rfl, rfl, rfl⟩]
            rfl
          · rw [if_neg (fun z => q3 z.2.2), pq_pim]
            by_cases q1 : k = 1
            · subst q1
              rw [if_pos ⟨rfl, rfl, rfl⟩]
              rfl
            · rw [if_neg (fun z => q1 z.2.2), pq_pim]
              by_cases q0 : k = 0
              · subst q0
                rw [if_pos ⟨rfl, rfl, rfl⟩]
                rfl
              · rw [if_neg (fun z => q0 z.2.2), if_neg q0, if_neg q1, if_neg q3, if_neg q4, if_neg q10]
                exact h1 k (Nat.zero_le _) hk
    · rw [pq_pim, if_neg (by omega), pq_pim, if_neg (by omega), pq_pim, if_neg (by omega), pq_pim, if_neg (by omega), pq_pim, if_neg (by omega), pq_pim, if_neg (by omega)]
      exact h2 r i k (by omega)
  · rw [if_neg h0]
    unfold jn_X10_clear_64
    rw [pq_let, pq_let]
    refine ⟨_, rfl, fun k hk => ?_, fun r i k h => ?_⟩
    · rw [if_neg h0, pq_pim]
      by_cases q4 : k = 4
      · rw [if_pos ⟨rfl, rfl, q4⟩, if_pos q4, h1 4 (by decide) (by decide)]
      · rw [if_neg (fun z => q4 z.2.2), if_neg q4, ite_self]
        exact h1 k (Nat.zero_le _) hk
    · rw [pq_pim, if_neg (by omega)]
      exact h2 r i k (by omega)
/-- the end, in the reference -/
theorem rf_167 {M : ev_m} {s : Nat × Nat} (h : fr_ M s) (hs : fb_ok s) : ∃ M', jn_X10_readText_167 M 0 1 = some (decide (nI s.1 = 0), M') ∧ M'.1 32 0 0 = nI s.1 ∧ M'.1 33 0 0 = (if s.1 = 0 then -1 else nI s.2) ∧ ∀ r i k, ¬ ((r = 32 ∨ r = 33) ∧ i = 0 ∧ k = 0) → M'.1 r i k = M.1 r i k := by
  obtain ⟨a, b⟩ := s
  obtain ⟨h1, h2⟩ := h
  obtain ⟨b1, b2⟩ := hs
  dsimp only at *
  unfold jn_X10_readText_167
  rw [if_neg (by decide), pq_let, h1, pq_let, if_neg (by decide), show (ev_pim M 32 0 0 (nI a)).1 10 0 17 = nI a by rw [pq_pim, if_neg (by decide)]; exact h1, show (ev_pim M 32 0 0 (nI a)).1 10 0 18 = M.1 10 0 18 by rw [pq_pim, if_neg (by decide)], pq_let, pq_let, show ∀ x, (ev_pim (ev_pim M 32 0 0 (nI a)) 33 0 0 x).1 32 0 0 = nI a from fun x => by rw [pq_pim, if_neg (by decide), pq_pim, if_pos ⟨rfl, rfl, rfl⟩]]
  have hv : (if 0 < nI a then M.1 10 0 18 else -1 : Int32) = if a = 0 then -1 else nI b := by
    by_cases q : a = 0
    · rw [if_pos q, q, if_neg (by decide)]
    · rw [if_neg q, if_pos (show 0 < nI a from nI_lt (a := 0) (by omega) (by omega)), h2 q]
  refine ⟨ev_pim (ev_pim M 32 0 0 (nI a)) 33 0 0 (if 0 < nI a then M.1 10 0 18 else -1), ?_, ?_, ?_, fun r i k hr => ?_⟩
  · by_cases q : nI a = 0
    · rw [if_pos q, decide_eq_true q]
    · rw [if_neg q, decide_eq_false q]
  · rw [pq_pim, if_neg (by decide), pq_pim, if_pos ⟨rfl, rfl, rfl⟩]
  · rw [pq_pim, if_pos ⟨rfl, rfl, rfl⟩]
    exact hv
  · rw [pq_pim, if_neg (by omega), pq_pim, if_neg (by omega)]
theorem rf_167_0 (M : ev_m) : ∃ M', jn_X10_readText_167 M 0 0 = some (false, M') ∧ M'.1 32 0 0 = 1 ∧ M'.1 33 0 0 = M.1 10 0 16 ∧ ∀ r i k, ¬ ((r = 32 ∨ r = 33) ∧ i = 0 ∧ k = 0) → M'.1 r i k = M.1 r i k := by
  unfold jn_X10_readText_167
  rw [if_pos rfl, pq_let, pq_let, if_pos rfl, pq_let, pq_let, show ∀ x, (ev_pim (ev_pim M 32 0 0 1) 33 0 0 x).1 32 0 0 = 1 from fun x => by rw [pq_pim, if_neg (by decide), pq_pim, if_pos ⟨rfl, rfl, rfl⟩], if_neg (by decide)]
  refine ⟨_, rfl, ?_, ?_, fun r i k hr => ?_⟩
  · rw [pq_pim, if_neg (by decide), pq_pim, if_pos ⟨rfl, rfl, rfl⟩]
  · rw [pq_pim, if_pos ⟨rfl, rfl, rfl⟩, pq_pim, if_neg (by decide)]
  · rw [pq_pim, if_neg (by omega), pq_pim, if_neg (by omega)]
/-- how a sort ends, how it begins -/
def TE_ (so : Int32) (J : Nat × Nat → ev_m → ev_m → Prop) (E : ev_m → (Nat → Int32) → Prop) : Prop :=
  (∀ (B : Nat → Int32) (L : Nat) (m M : ev_m) (t : Nat × Nat × Int32) (s : Nat × Nat), okB_ B L → RC_ m B L t s → RR_ M B L t s → J s m M → ∃ m' M2 s', jn_X4_take_114 m 0 so 1 = some m' ∧ fc_ m' s' ∧ fb_ok s' ∧ jn_X10_readText_133 M 0 so 1 = jn_X10_readText_167 M2 0 1 ∧ fr_ M2 s' ∧ M2.1 39 0 = M.1 39 0 ∧ rF_ M M2 ∧ (s'.1 = 0 → E m' (M.1 39 0)) ∧ cF_ m m') ∧
  (∀ m M, dC_ m → (∀ k, k < 61 → M.1 39 0 k = dR_ so k) → J (0, 0) m M)
/-- what a text does, on both sides -/
def TB_ (E : ev_m → (Nat → Int32) → Prop) (m M m' M' : ev_m) (b : Bool) : Prop := M'.1 32 0 0 = m'.1 7 0 4 ∧ M'.1 33 0 0 = m'.1 7 0 5 ∧ b = decide (m'.1 7 0 4 = 0) ∧ (m'.1 7 0 4 = 0 → E m' (M'.1 39 0)) ∧ (∀ r i k, ¬ xd_ r i → m'.1 r i k = m.1 r i k) ∧ ∀ r i k, r ≠ 10 → r ≠ 39 → ¬ ((r = 32 ∨ r = 33) ∧ i = 0 ∧ k = 0) → M'.1 r i k = M.1 r i k
theorem text_both {B : Nat → Int32} {L : Nat} {so : Int32} {G : ev_m → Int64 → Int32 → Option (Bool × ev_m)} {J : Nat × Nat → ev_m → ev_m → Prop} {E : ev_m → (Nat → Int32) → Prop} {m M : ev_m} (hB : okB_ B L) (hT : TS_ so G J) (hE : TE_ so J E) (h1 : m.1 2 0 1 = nI L) (hb : ∀ k, k < L → m.1 11 0 k &&& 255 = B k) (g1 : M.1 10 0 11 = nI L) (gb : ∀ k, k < L → M.1 30 0 k &&& 255 = B k) : ∃ m' b M', f_X4_take m 0 so (some 0) = some m' ∧ f_X10_readText M 0 so = some (b, M') ∧ TB_ E m M m' M' b := by
  obtain ⟨m8, e8, x1, x2, x3, xd, xf⟩ := cl_take0 so hB.1 h1 hb
  obtain ⟨M1, f1, z1, z2⟩ := rf_clear so M
  have hL := hB.1
  obtain ⟨m9, e9, c1, c2, -, c4⟩ := cl_next hB x1 (Nat.zero_le L) x2
  have hM3 : ∀ r i k, ¬ (r = 10 ∧ i = 0 ∧ (k = 10 ∨ k = 17)) → (ev_pim (ev_pim M1 10 0 10 0) 10 0 17 0).1 r i k = M1.1 r i k := fun r i k h => by rw [pq_pim, if_neg (by omega), pq_pim, if_neg (by omega)]
  have ht3 : xt_r (ev_pim (ev_pim M1 10 0 10 0) 10 0 17 0) B L := ⟨by rw [hM3 10 0 11 (by omega), z2 10 0 11 (by decide)]; exact g1, fun k hk => by rw [hM3 30 0 k (by omega), z2 30 0 k (by decide)]; exact gb k hk⟩
  obtain ⟨M9, e10, d1, d2, d3⟩ := rf_token (e := 0) hB ht3 (Nat.zero_le L) (by rw [pq_pim, if_neg (by decide), pq_pim, if_pos ⟨rfl, rfl, rfl⟩]; rfl)
  have h17 : M9.1 10 0 17 = nI 0 := by
    rw [d3 10 0 17 (by omega), pq_pim, if_pos ⟨rfl, rfl, rfl⟩]
    rfl
  have hRC : RC_ m9 B L (xn_ B L 0) (0, 0) := ⟨c1, c2, ⟨(c4 7 0 4 (by omega)).trans x3.1, (c4 7 0 5 (by omega)).trans x3.2⟩, tk_n (Nat.zero_le L), ⟨Nat.zero_le _, Nat.zero_le _⟩⟩
  have hRR : RR_ M9 B L (xn_ B L 0) (0, 0) := ⟨d1, d2, ⟨h17, fun q => absurd rfl q⟩, tk_n (Nat.zero_le L), ⟨Nat.zero_le _, Nat.zero_le _⟩⟩
  have hJ : J (0, 0) m9 M9 := by
    refine hT.2.2.2 _ m8 m9 (ev_pim (ev_pim M1 10 0 10 0) 10 0 17 0) M9 (hE.2 _ _ xd (fun k hk => ?_)) (fun r i k q => c4 r i k (by omega)) (fun r i k q => d3 r i k (by omega))
    rw [hM3 39 0 k (by omega)]
    exact z1 k hk
  obtain ⟨x, m10, M10, a1, a2, a3, a4, a5⟩ := text_loop hB hT (fun x29 m30 => (jn_X4_take_114 m30 0 so x29)) (fun x33 m34 => (jn_X10_readText_133 m34 0 so x33)) 700 4000 4000 0 m9 M9 (xn_ B L 0) (0, 0) (fun _ => by omega) (Nat.zero_le _) (by decide) (by decide) hRC hRR hJ
  have hc : f_X4_take m 0 so (some 0) = jn_X4_take_114 m10 0 so x := by
    rw [e8, e9, pq_sb]
    exact a1
  have hr : f_X10_readText M 0 so = jn_X10_readText_133 M10 0 so x := by
    unfold f_X10_readText
    rw [f1, pq_sb, pq_let, pq_let, e10, pq_sb]
    exact a2
  have hcf : ∀ r i k, ¬ xd_ r i → m10.1 r i k = m.1 r i k := fun r i k h => by
    rw [a4 r i k (fun z => h (Or.inl z)), c4 r i k (by unfold xd_ xc_ at h; omega)]
    exact xf r i k h
  have hrf : ∀ r i k, r ≠ 10 → r ≠ 39 → M10.1 r i k = M.1 r i k := fun r i k q1 q2 => by
    rw [a5 r i k q1 q2, d3 r i k (by omega), hM3 r i k (by omega)]
    exact z2 r i k q2
  rw [hc, hr]
  rcases a3 with ⟨hx, t, s, b1, b2, b3⟩ | ⟨hx, b⟩
  · subst hx
    obtain ⟨m', M2, s', k1, k2, k3, k4, k5, k6, k7, k8, k9⟩ := hE.1 B L m10 M10 t s hB b1 b2 b3
    obtain ⟨M', l1, l2, l3, l4⟩ := rf_167 k5 k3
    refine ⟨m', _, M', k1, k4.trans l1, ?_, ?_, ?_, fun q => ?_, fun r i k h => ?_, fun r i k q1 q2 q3 => ?_⟩
    · rw [l2, k2.1]
    · rw [l3, k2.2]
    · rw [k2.1]
    · have e39 : M'.1 39 0 = M10.1 39 0 := by
        rw [← k6]
        exact funext fun k => l4 39 0 k (by omega)
      rw [e39]
      refine k8 ?_
      rw [k2.1] at q
      exact (nI_eq (by have := k3.1; omega) (by decide)).mp (show nI s'.1 = nI 0 from q)
    · rw [k9 r i k (fun z => h (Or.inl z))]
      exact hcf r i k h
    · rw [l4 r i k q3, k7 r i k q1 q2]
      exact hrf r i k q1 q2
  · subst hx
    obtain ⟨M', l1, l2, l3, l4⟩ := rf_167_0 M10
    refine ⟨ev_pim (ev_pim m10 7 0 4 1) 7 0 5 (m10.1 7 0 8), false, M', ?_, ?_, ?_, ?_, ?_, fun q => ?_, fun r i k h => ?_, fun r i k q1 q2 q3 => ?_⟩
    · unfold jn_X4_take_114
      rw [if_pos rfl, pq_let, pq_let, show (ev_pim m10 7 0 4 1).1 7 0 8 = m10.1 7 0 8 by rw [pq_pim, if_neg (by decide)]]
    · unfold jn_X10_readText_133
      rw [if_pos rfl]
      exact l1
    · rw [l2, pq_pim, if_neg (by decide), pq_pim, if_pos ⟨rfl, rfl, rfl⟩]
    · rw [l3, pq_pim, if_pos ⟨rfl, rfl, rfl⟩, b]
    · rw [pq_pim, if_neg (by decide), pq_pim, if_pos ⟨rfl, rfl, rfl⟩]
      rfl
    · rw [pq_pim, if_neg (by decide), pq_pim, if_pos ⟨rfl, rfl, rfl⟩] at q
      exact absurd q (by decide)
    · rw [pq_pim, if_neg (by unfold xd_ xc_ at h; omega), pq_pim, if_neg (by unfold xd_ xc_ at h; omega)]
      exact hcf r i k h
    · rw [l4 r i k q3]
      exact hrf r i k q1 q2
/-- the class alone, then the reference behind it -/
theorem text_two {B : Nat → Int32} {L : Nat} {so : Int32} {G : ev_m → Int64 → Int32 → Option (Bool × ev_m)} {J : Nat × Nat → ev_m → ev_m → Prop} {E : ev_m → (Nat → Int32) → Prop} {m : ev_m} (hB : okB_ B L) (hT : TS_ so G J) (hE : TE_ so J E) (h1 : m.1 2 0 1 = nI L) (hb : ∀ k, k < L → m.1 11 0 k &&& 255 = B k) (hb2 : ∀ k, k < L → m.1 30 0 k &&& 255 = B k) : ∃ m', f_X4_take m 0 so (some 0) = some m' ∧ (∀ r i k, ¬ xd_ r i → m'.1 r i k = m.1 r i k) ∧ ∀ M : ev_m, M.1 10 0 11 = nI L → (∀ k, k < L → M.1 30 0 k &&& 255 = B k) → ∃ b M', f_X10_readText M 0 so = some (b, M') ∧ TB_ E m M m' M' b := by
  obtain ⟨m', b, M', a1, -, a3⟩ := text_both (M := ev_pim m 10 0 11 (nI L)) hB hT hE h1 hb (by rw [pq_pim, if_pos ⟨rfl, rfl, rfl⟩]) (fun k hk => by rw [pq_pim, if_neg (by omega)]; exact hb2 k hk)
  refine ⟨m', a1, a3.2.2.2.2.1, fun M g1 gb => ?_⟩
  obtain ⟨m2, b2, M2, c1, c2, c3⟩ := text_both hB hT hE h1 hb g1 gb
  have e : m2 = m' := Option.some.inj (c1.symm.trans a1)
  subst e
  exact ⟨b2, M2, c2, c3⟩
