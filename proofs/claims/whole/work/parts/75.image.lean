/-! pure: images -/
def cz_ (d r i : Nat) : Prop := ((r = 1 ∨ r = 2 ∨ r = 11) ∧ i = d) ∨ ((r = 3 ∨ r = 12) ∧ 2 * d ≤ i ∧ i < 2 * d + 2) ∨ ((r = 4 ∨ r = 13 ∨ r = 14) ∧ 4 * d ≤ i ∧ i < 4 * d + 4) ∨ ((r = 5 ∨ r = 15 ∨ r = 6 ∨ r = 16 ∨ r = 17) ∧ 2 * d ≤ i ∧ i < 2 * d + 2)
theorem cl_cpS {m : ev_m} {j d c : Nat} {kx : ev_m → Option ev_m} (hj : j < 4) (hd : d < 4) (hne : j ≠ d) (hc2 : c ≤ 2) (hcj : m.1 1 j 3 = nI c) (hcd : m.1 1 d 3 = nI c) : ∃ m', lp_X0_copy_66 d j 4000 0 m kx = kx m' ∧ (∀ s, s < c → (∀ k, k < 11 → m'.1 3 (2 * d + s) k = m.1 3 (2 * j + s) k) ∧ ∀ k, k < 12 → m'.1 12 (2 * d + s) k = m.1 12 (2 * j + s) k) ∧ (∀ r i k, ¬ ((r = 3 ∨ r = 12) ∧ 2 * d ≤ i ∧ i < 2 * d + 2) → m'.1 r i k = m.1 r i k) := by
  obtain ⟨m', e, h1, h2⟩ := lp_ixE (L := fun f i m => lp_X0_copy_66 d j f i m kx) (kx := kx) (T := fun n m' => (∀ s, s < c → s < n → (∀ k, k < 11 → m'.1 3 (2 * d + s) k = m.1 3 (2 * j + s) k) ∧ ∀ k, k < 12 → m'.1 12 (2 * d + s) k = m.1 12 (2 * j + s) k) ∧ (∀ r i k, ¬ ((r = 3 ∨ r = 12) ∧ 2 * d ≤ i ∧ i < 2 * d + 2) → m'.1 r i k = m.1 r i k)) (N := 2)
    (by
      intro f m' _
      rw [lp_X0_copy_66, if_neg (by decide)])
    (by
      intro f n m' hn ⟨t1, t2⟩
      have hcj' : m'.1 1 j 3 = nI c := by rw [t2 1 j 3 (by omega)]; exact hcj
      have hcd' : m'.1 1 d 3 = nI c := by rw [t2 1 d 3 (by omega)]; exact hcd
      refine Or.inl ?_
      by_cases h : n < c
      · obtain ⟨m2, e2, x1, x2, x3, x4⟩ := cl_copyS (m := m') (i := 2 * d + n) (j := 2 * j + n) (by omega)
        refine ⟨m2, ?_, fun s hs hsn => ?_, fun r i k hr => ?_⟩
        · rw [lp_X0_copy_66, if_pos (show nI n < 2 from nI_lt (b := 2) hn (by decide)), cl_shipAt_t hcj' hc2 h, pq_sb]
          unfold f_X0_copyShip
          rw [cl_shipAt_t hcd' hc2 h, pq_sb, pq_on1, e2, pq_sb, pq_sb, nI_1]
        · by_cases e : s = n
          · rw [e]
            exact ⟨fun k hk => by rw [x1 k hk]; exact t2 3 _ k (by omega), fun k hk => by rw [x2 k hk]; exact t2 12 _ k (by omega)⟩
          · obtain ⟨y1, y2⟩ := t1 s hs (by omega)
            exact ⟨fun k hk => by rw [x3 3 _ k (by omega)]; exact y1 k hk, fun k hk => by rw [x3 12 _ k (by omega)]; exact y2 k hk⟩
        · rw [x3 r i k (by omega)]
          exact t2 r i k hr
      · refine ⟨m', ?_, fun s hs hsn => t1 s hs (by omega), t2⟩
        have hno : ∀ b, m'.1 1 b 3 = nI c → f_X0_shipAt m' b (nI n) = some none := fun b hb => cl_shipAt_f hb hc2 (fun s hs e => by
          have := (nI_eq (by omega) (by omega)).mp e
          omega)
        rw [lp_X0_copy_66, if_pos (show nI n < 2 from nI_lt (b := 2) hn (by decide)), hno j hcj', pq_sb]
        unfold f_X0_copyShip
        rw [hno d hcd', pq_sb, pq_on0, pq_sb, nI_1])
    2 4000 0 m (by decide) (by decide) ⟨fun s _ h => absurd h (Nat.not_lt_zero s), fun _ _ _ _ => rfl⟩
  exact ⟨m', e, fun s hs => h1 s hs (by omega), h2⟩
theorem cl_cpH {m : ev_m} {j d c : Nat} {kx : ev_m → Option ev_m} (hj : j < 4) (hd : d < 4) (hne : j ≠ d) (hc2 : c ≤ 4) (hcj : m.1 1 j 4 = nI c) (hcd : m.1 1 d 4 = nI c) (h8 : ∀ s, s < c → m.1 4 (4 * j + s) 8 = 0 ∨ m.1 4 (4 * j + s) 8 = 1) : ∃ m', lp_X0_copy_89 d j 4000 0 m kx = kx m' ∧ (∀ s, s < c → (∀ k, k < 10 → m'.1 4 (4 * d + s) k = m.1 4 (4 * j + s) k) ∧ ∀ k, k < 4 → m'.1 13 (4 * d + s) k = m.1 13 (4 * j + s) k ∧ m'.1 14 (4 * d + s) k = m.1 14 (4 * j + s) k) ∧ (∀ r i k, ¬ ((r = 4 ∨ r = 13 ∨ r = 14) ∧ 4 * d ≤ i ∧ i < 4 * d + 4) → m'.1 r i k = m.1 r i k) := by
  obtain ⟨m', e, h1, h2⟩ := lp_ixE (L := fun f i m => lp_X0_copy_89 d j f i m kx) (kx := kx) (T := fun n m' => (∀ s, s < c → s < n → (∀ k, k < 10 → m'.1 4 (4 * d + s) k = m.1 4 (4 * j + s) k) ∧ ∀ k, k < 4 → m'.1 13 (4 * d + s) k = m.1 13 (4 * j + s) k ∧ m'.1 14 (4 * d + s) k = m.1 14 (4 * j + s) k) ∧ (∀ r i k, ¬ ((r = 4 ∨ r = 13 ∨ r = 14) ∧ 4 * d ≤ i ∧ i < 4 * d + 4) → m'.1 r i k = m.1 r i k)) (N := 4)
    (by
      intro f m' _
      rw [lp_X0_copy_89, if_neg (by decide)])
    (by
      intro f n m' hn ⟨t1, t2⟩
      have hcj' : m'.1 1 j 4 = nI c := by rw [t2 1 j 4 (by omega)]; exact hcj
      have hcd' : m'.1 1 d 4 = nI c := by rw [t2 1 d 4 (by omega)]; exact hcd
      refine Or.inl ?_
      by_cases h : n < c
      · obtain ⟨m2, e2, x1, x2, x3, x4⟩ := cl_copyH (m := m') (i := 4 * d + n) (j := 4 * j + n) (by omega) (by rw [t2 4 _ 8 (by omega)]; exact h8 n h)
        refine ⟨m2, ?_, fun s hs hsn => ?_, fun r i k hr => ?_⟩
        · rw [lp_X0_copy_89, if_pos (show nI n < 4 from nI_lt (b := 4) hn (by decide)), cl_handAt_t hcj' hc2 h, pq_sb]
          unfold f_X0_copyHand
          rw [cl_handAt_t hcd' hc2 h, pq_sb, pq_on1, e2, pq_sb, pq_sb, nI_1]
        · by_cases e : s = n
          · rw [e]
            exact ⟨fun k hk => by rw [x1 k hk]; exact t2 4 _ k (by omega), fun k hk => by rw [(x2 k hk).1, (x2 k hk).2]; exact ⟨t2 13 _ k (by omega), t2 14 _ k (by omega)⟩⟩
          · obtain ⟨y1, y2⟩ := t1 s hs (by omega)
            exact ⟨fun k hk => by rw [x3 4 _ k (by omega)]; exact y1 k hk, fun k hk => by rw [x3 13 _ k (by omega), x3 14 _ k (by omega)]; exact y2 k hk⟩
        · rw [x3 r i k (by omega)]
          exact t2 r i k hr
      · refine ⟨m', ?_, fun s hs hsn => t1 s hs (by omega), t2⟩
        have hno : ∀ b, m'.1 1 b 4 = nI c → f_X0_handAt m' b (nI n) = some none := fun b hb => cl_handAt_f hb hc2 (fun s hs e => by
          have := (nI_eq (by omega) (by omega)).mp e
          omega)
        rw [lp_X0_copy_89, if_pos (show nI n < 4 from nI_lt (b := 4) hn (by decide)), hno j hcj', pq_sb]
        unfold f_X0_copyHand
        rw [hno d hcd', pq_sb, pq_on0, pq_sb, nI_1])
    4 4000 0 m (by decide) (by decide) ⟨fun s _ h => absurd h (Nat.not_lt_zero s), fun _ _ _ _ => rfl⟩
  exact ⟨m', e, fun s hs => h1 s hs (by omega), h2⟩
theorem cl_copyP (m : ev_m) (i j : Nat) (hij : i ≠ j) : (s_X3_copy m i (some j)).1 5 i 1 = m.1 5 j 1 ∧ (∀ k, k < 60 → (s_X3_copy m i (some j)).1 15 i k = m.1 15 j k) ∧ ∀ r x k, ¬ ((r = 5 ∨ r = 15) ∧ x = i) → (s_X3_copy m i (some j)).1 r x k = m.1 r x k := by
  unfold s_X3_copy ev_cpm
  rw [pq_on1, pq_let, pq_let]
  refine ⟨?_, fun k hk => ?_, fun r x k h => ?_⟩
  · rw [pq_prm, if_neg (by omega), pq_pim, if_pos ⟨rfl, rfl, rfl⟩]
  · rw [pq_prm, if_pos ⟨rfl, rfl⟩, pk_cpy_in (by omega) (by omega), pq_pim, if_neg (by omega), show 0 + (k - 0) = k by omega]
  · rw [pq_prm, if_neg (by omega), pq_pim, if_neg (by omega)]
theorem cl_copyW (m : ev_m) (i j : Nat) (hij : i ≠ j) : (s_X7_copy m i (some j)).1 6 i 2 = m.1 6 j 2 ∧ (∀ k, k < 8 → (s_X7_copy m i (some j)).1 16 i k = m.1 16 j k ∧ (s_X7_copy m i (some j)).1 17 i k = m.1 17 j k) ∧ ∀ r x k, ¬ ((r = 6 ∨ r = 16 ∨ r = 17) ∧ x = i) → (s_X7_copy m i (some j)).1 r x k = m.1 r x k := by
  unfold s_X7_copy ev_cpm
  rw [pq_on1, pq_let, pq_let, pq_let]
  refine ⟨?_, fun k hk => ⟨?_, ?_⟩, fun r x k h => ?_⟩
  · rw [pq_prm, if_neg (by omega), pq_prm, if_neg (by omega), pq_pim, if_pos ⟨rfl, rfl, rfl⟩]
  · rw [pq_prm, if_neg (by omega), pq_prm, if_pos ⟨rfl, rfl⟩, pk_cpy_in (by omega) (by omega), pq_pim, if_neg (by omega), show 0 + (k - 0) = k by omega]
  · rw [pq_prm, if_pos ⟨rfl, rfl⟩, pk_cpy_in (by omega) (by omega), pq_prm, if_neg (by omega), pq_pim, if_neg (by omega), show 0 + (k - 0) = k by omega]
  · rw [pq_prm, if_neg (by omega), pq_prm, if_neg (by omega), pq_pim, if_neg (by omega)]
theorem cl_cpP {m : ev_m} {j d c : Nat} {kx : ev_m → Option ev_m} (hj : j < 4) (hd : d < 4) (hne : j ≠ d) (hc2 : c ≤ 2) (hcj : m.1 1 j 5 = nI c) (hcd : m.1 1 d 5 = nI c) : ∃ m', lp_X0_copy_112 d j 4000 0 m kx = kx m' ∧ (∀ s, s < c → m'.1 5 (2 * d + s) 1 = m.1 5 (2 * j + s) 1 ∧ ∀ k, k < 60 → m'.1 15 (2 * d + s) k = m.1 15 (2 * j + s) k) ∧ (∀ r i k, ¬ ((r = 5 ∨ r = 15) ∧ 2 * d ≤ i ∧ i < 2 * d + 2) → m'.1 r i k = m.1 r i k) := by
  obtain ⟨m', e, h1, h2⟩ := lp_ixE (L := fun f i m => lp_X0_copy_112 d j f i m kx) (kx := kx) (T := fun n m' => (∀ s, s < c → s < n → m'.1 5 (2 * d + s) 1 = m.1 5 (2 * j + s) 1 ∧ ∀ k, k < 60 → m'.1 15 (2 * d + s) k = m.1 15 (2 * j + s) k) ∧ (∀ r i k, ¬ ((r = 5 ∨ r = 15) ∧ 2 * d ≤ i ∧ i < 2 * d + 2) → m'.1 r i k = m.1 r i k)) (N := 2)
    (by
      intro f m' _
      rw [lp_X0_copy_112, if_neg (by decide)])
    (by
      intro f n m' hn ⟨t1, t2⟩
      have hcj' : m'.1 1 j 5 = nI c := by rw [t2 1 j 5 (by omega)]; exact hcj
      have hcd' : m'.1 1 d 5 = nI c := by rw [t2 1 d 5 (by omega)]; exact hcd
      refine Or.inl ?_
      by_cases h : n < c
      · obtain ⟨x1, x2, x3⟩ := cl_copyP m' (2 * d + n) (2 * j + n) (by omega)
        refine ⟨s_X3_copy m' (2 * d + n) (some (2 * j + n)), ?_, fun s hs hsn => ?_, fun r i k hr => ?_⟩
        · rw [lp_X0_copy_112, if_pos (show nI n < 2 from nI_lt (b := 2) hn (by decide)), cl_paperAt_t hcj' hc2 h, pq_sb]
          unfold f_X0_copyPaper
          rw [cl_paperAt_t hcd' hc2 h, pq_sb, pq_on1, pq_let, pq_sb, nI_1]
        · by_cases e : s = n
          · rw [e]
            exact ⟨by rw [x1]; exact t2 5 _ 1 (by omega), fun k hk => by rw [x2 k hk]; exact t2 15 _ k (by omega)⟩
          · obtain ⟨y1, y2⟩ := t1 s hs (by omega)
            exact ⟨by rw [x3 5 _ 1 (by omega)]; exact y1, fun k hk => by rw [x3 15 _ k (by omega)]; exact y2 k hk⟩
        · rw [x3 r i k (by omega)]
          exact t2 r i k hr
      · refine ⟨m', ?_, fun s hs hsn => t1 s hs (by omega), t2⟩
        have hno : ∀ b, m'.1 1 b 5 = nI c → f_X0_paperAt m' b (nI n) = some none := fun b hb => cl_paperAt_f hb hc2 (fun s hs e => by
          have := (nI_eq (by omega) (by omega)).mp e
          omega)
        rw [lp_X0_copy_112, if_pos (show nI n < 2 from nI_lt (b := 2) hn (by decide)), hno j hcj', pq_sb]
        unfold f_X0_copyPaper
        rw [hno d hcd', pq_sb, pq_on0, pq_sb, nI_1])
    2 4000 0 m (by decide) (by decide) ⟨fun s _ h => absurd h (Nat.not_lt_zero s), fun _ _ _ _ => rfl⟩
  exact ⟨m', e, fun s hs => h1 s hs (by omega), h2⟩
theorem cl_cpW {m : ev_m} {j d c : Nat} {kx : ev_m → Option ev_m} (hj : j < 4) (hd : d < 4) (hne : j ≠ d) (hc2 : c ≤ 2) (hcj : m.1 1 j 6 = nI c) (hcd : m.1 1 d 6 = nI c) : ∃ m', lp_X0_copy_135 d j 4000 0 m kx = kx m' ∧ (∀ s, s < c → m'.1 6 (2 * d + s) 2 = m.1 6 (2 * j + s) 2 ∧ ∀ k, k < 8 → m'.1 16 (2 * d + s) k = m.1 16 (2 * j + s) k ∧ m'.1 17 (2 * d + s) k = m.1 17 (2 * j + s) k) ∧ (∀ r i k, ¬ ((r = 6 ∨ r = 16 ∨ r = 17) ∧ 2 * d ≤ i ∧ i < 2 * d + 2) → m'.1 r i k = m.1 r i k) := by
  obtain ⟨m', e, h1, h2⟩ := lp_ixE (L := fun f i m => lp_X0_copy_135 d j f i m kx) (kx := kx) (T := fun n m' => (∀ s, s < c → s < n → m'.1 6 (2 * d + s) 2 = m.1 6 (2 * j + s) 2 ∧ ∀ k, k < 8 → m'.1 16 (2 * d + s) k = m.1 16 (2 * j + s) k ∧ m'.1 17 (2 * d + s) k = m.1 17 (2 * j + s) k) ∧ (∀ r i k, ¬ ((r = 6 ∨ r = 16 ∨ r = 17) ∧ 2 * d ≤ i ∧ i < 2 * d + 2) → m'.1 r i k = m.1 r i k)) (N := 2)
    (by
      intro f m' _
      rw [lp_X0_copy_135, if_neg (by decide)])
    (by
      intro f n m' hn ⟨t1, t2⟩
      have hcj' : m'.1 1 j 6 = nI c := by rw [t2 1 j 6 (by omega)]; exact hcj
      have hcd' : m'.1 1 d 6 = nI c := by rw [t2 1 d 6 (by omega)]; exact hcd
      refine Or.inl ?_
      by_cases h : n < c
      · obtain ⟨x1, x2, x3⟩ := cl_copyW m' (2 * d + n) (2 * j + n) (by omega)
        refine ⟨s_X7_copy m' (2 * d + n) (some (2 * j + n)), ?_, fun s hs hsn => ?_, fun r i k hr => ?_⟩
        · rw [lp_X0_copy_135, if_pos (show nI n < 2 from nI_lt (b := 2) hn (by decide)), cl_watchAt_t hcj' hc2 h, pq_sb]
          unfold f_X0_copyWatch
          rw [cl_watchAt_t hcd' hc2 h, pq_sb, pq_on1, pq_let, pq_sb, nI_1]
        · by_cases e : s = n
          · rw [e]
            exact ⟨by rw [x1]; exact t2 6 _ 2 (by omega), fun k hk => by rw [(x2 k hk).1, (x2 k hk).2]; exact ⟨t2 16 _ k (by omega), t2 17 _ k (by omega)⟩⟩
          · obtain ⟨y1, y2⟩ := t1 s hs (by omega)
            exact ⟨by rw [x3 6 _ 2 (by omega)]; exact y1, fun k hk => by rw [x3 16 _ k (by omega), x3 17 _ k (by omega)]; exact y2 k hk⟩
        · rw [x3 r i k (by omega)]
          exact t2 r i k hr
      · refine ⟨m', ?_, fun s hs hsn => t1 s hs (by omega), t2⟩
        have hno : ∀ b, m'.1 1 b 6 = nI c → f_X0_watchAt m' b (nI n) = some none := fun b hb => cl_watchAt_f hb hc2 (fun s hs e => by
          have := (nI_eq (by omega) (by omega)).mp e
          omega)
        rw [lp_X0_copy_135, if_pos (show nI n < 2 from nI_lt (b := 2) hn (by decide)), hno j hcj', pq_sb]
        unfold f_X0_copyWatch
        rw [hno d hcd', pq_sb, pq_on0, pq_sb, nI_1])
    2 4000 0 m (by decide) (by decide) ⟨fun s _ h => absurd h (Nat.not_lt_zero s), fun _ _ _ _ => rfl⟩
  exact ⟨m', e, fun s hs => h1 s hs (by omega), h2⟩
/-- a book copied, in the class -/
theorem cl_copyB {m : ev_m} {j d c0 c1 c2 c3 : Nat} (hj : j < 4) (hd : d < 4) (hne : j ≠ d) (hB : iv_B m j c0 c1 c2 c3) : ∃ m', f_X0_copy m d (some j) = some m' ∧ (∀ q, 1 ≤ q → q < 7 → m'.1 1 d q = m.1 1 j q) ∧ m'.1 2 d 1 = m.1 2 j 1 ∧ (∀ k, k < 600 → m'.1 11 d k = m.1 11 j k) ∧
    (∀ s, s < c0 → (∀ k, k < 11 → m'.1 3 (2 * d + s) k = m.1 3 (2 * j + s) k) ∧ ∀ k, k < 12 → m'.1 12 (2 * d + s) k = m.1 12 (2 * j + s) k) ∧
    (∀ s, s < c1 → (∀ k, k < 10 → m'.1 4 (4 * d + s) k = m.1 4 (4 * j + s) k) ∧ ∀ k, k < 4 → m'.1 13 (4 * d + s) k = m.1 13 (4 * j + s) k ∧ m'.1 14 (4 * d + s) k = m.1 14 (4 * j + s) k) ∧
    (∀ s, s < c2 → m'.1 5 (2 * d + s) 1 = m.1 5 (2 * j + s) 1 ∧ ∀ k, k < 60 → m'.1 15 (2 * d + s) k = m.1 15 (2 * j + s) k) ∧
    (∀ s, s < c3 → m'.1 6 (2 * d + s) 2 = m.1 6 (2 * j + s) 2 ∧ ∀ k, k < 8 → m'.1 16 (2 * d + s) k = m.1 16 (2 * j + s) k ∧ m'.1 17 (2 * d + s) k = m.1 17 (2 * j + s) k) ∧
    (∀ r i k, ¬ cz_ d r i → m'.1 r i k = m.1 r i k) := by
  obtain ⟨⟨b0, b1, b2, b3⟩, ⟨k0, k1, k2, k3⟩, -, -, gh, -, -⟩ := hB
  unfold f_X0_copy
  rw [pq_on1, pq_let, pq_let, pq_let, pq_let, pq_let, pq_let, pq_let]
  generalize hM : ev_pim _ 1 d 6 _ = M
  have hf : ∀ r i k, ¬ ((r = 1 ∨ r = 2 ∨ r = 11) ∧ i = d) → M.1 r i k = m.1 r i k := by
    intro r i k h
    rw [← hM]
    unfold ev_tcp ev_cpm
    try dsimp only
    rw [pq_pim, if_neg (by omega), pq_pim, if_neg (by omega), pq_pim, if_neg (by omega), pq_pim, if_neg (by omega), pq_pim, if_neg (by omega), pq_pim, if_neg (by omega), pq_pim, if_neg (by omega), pq_prm, if_neg (by omega)]
  have hq : ∀ q, 1 ≤ q → q < 7 → M.1 1 d q = m.1 1 j q := by
    intro q h1 h2
    rw [← hM]
    unfold ev_tcp ev_cpm
    try dsimp only
    rcases (show q = 1 ∨ q = 2 ∨ q = 3 ∨ q = 4 ∨ q = 5 ∨ q = 6 by omega) with rfl | rfl | rfl | rfl | rfl | rfl <;> simp [pq_pim, pq_prm, hne]
  have h2 : M.1 2 d 1 = m.1 2 j 1 := by
    rw [← hM]
    unfold ev_tcp ev_cpm
    try dsimp only
    simp [pq_pim, pq_prm]
  have h11 : ∀ k, k < 600 → M.1 11 d k = m.1 11 j k := by
    intro k hk
    rw [← hM]
    unfold ev_tcp ev_cpm
    try dsimp only
    rw [pq_pim, if_neg (by omega), pq_pim, if_neg (by omega), pq_pim, if_neg (by omega), pq_pim, if_neg (by omega), pq_pim, if_neg (by omega), pq_pim, if_neg (by omega), pq_pim, if_neg (by omega), pq_prm, if_pos ⟨rfl, rfl⟩, pk_cpy_in (by omega) (by omega), show 0 + (k - 0) = k by omega]
  clear hM
  obtain ⟨m1, e1, x1, y1⟩ := cl_cpS (m := M) (kx := fun m16 => (lp_X0_copy_89 d j 4000 0 m16 (fun m24 => (lp_X0_copy_112 d j 4000 0 m24 (fun m32 => (lp_X0_copy_135 d j 4000 0 m32 (fun m40 => (some (m40)))))))))  hj hd hne b0 (by rw [hf 1 j 3 (by omega)]; exact k0) (by rw [hq 3 (by decide) (by decide)]; exact k0)
  obtain ⟨m2, e2, x2, y2⟩ := cl_cpH (m := m1) (kx := fun m24 => (lp_X0_copy_112 d j 4000 0 m24 (fun m32 => (lp_X0_copy_135 d j 4000 0 m32 (fun m40 => (some (m40))))))) hj hd hne b1 (by rw [y1 1 j 4 (by omega), hf 1 j 4 (by omega)]; exact k1) (by rw [y1 1 d 4 (by omega), hq 4 (by decide) (by decide)]; exact k1) (fun s hs => by
    rw [y1 4 _ 8 (by omega), hf 4 _ 8 (by omega)]
    rw [(gh s hs).1.1 8 (by decide)]
    exact (gh s hs).2.2.2.2.1)
  obtain ⟨m3, e3, x3, y3⟩ := cl_cpP (m := m2) (kx := fun m32 => (lp_X0_copy_135 d j 4000 0 m32 (fun m40 => (some (m40))))) hj hd hne b2 (by rw [y2 1 j 5 (by omega), y1 1 j 5 (by omega), hf 1 j 5 (by omega)]; exact k2) (by rw [y2 1 d 5 (by omega), y1 1 d 5 (by omega), hq 5 (by decide) (by decide)]; exact k2)
  obtain ⟨m4, e4, x4, y4⟩ := cl_cpW (m := m3) (kx := fun m40 => (some (m40))) hj hd hne b3 (by rw [y3 1 j 6 (by omega), y2 1 j 6 (by omega), y1 1 j 6 (by omega), hf 1 j 6 (by omega)]; exact k3) (by rw [y3 1 d 6 (by omega), y2 1 d 6 (by omega), y1 1 d 6 (by omega), hq 6 (by decide) (by decide)]; exact k3)
  refine ⟨m4, e1.trans (e2.trans (e3.trans e4)), fun q h1 h2 => ?_, ?_, fun k hk => ?_, fun s hs => ⟨fun k hk => ?_, fun k hk => ?_⟩, fun s hs => ⟨fun k hk => ?_, fun k hk => ⟨?_, ?_⟩⟩, fun s hs => ⟨?_, fun k hk => ?_⟩, fun s hs => ⟨?_, fun k hk => ⟨?_, ?_⟩⟩, fun r i k hr => ?_⟩
  · rw [y4 1 d q (by omega), y3 1 d q (by omega), y2 1 d q (by omega), y1 1 d q (by omega)]; exact hq q h1 h2
  · rw [y4 2 d 1 (by omega), y3 2 d 1 (by omega), y2 2 d 1 (by omega), y1 2 d 1 (by omega)]; exact h2
  · rw [y4 11 d k (by omega), y3 11 d k (by omega), y2 11 d k (by omega), y1 11 d k (by omega)]; exact h11 k hk
  · rw [y4 3 _ k (by omega), y3 3 _ k (by omega), y2 3 _ k (by omega), (x1 s hs).1 k hk]; exact hf 3 _ k (by omega)
  · rw [y4 12 _ k (by omega), y3 12 _ k (by omega), y2 12 _ k (by omega), (x1 s hs).2 k hk]; exact hf 12 _ k (by omega)
  · rw [y4 4 _ k (by omega), y3 4 _ k (by omega), (x2 s hs).1 k hk, y1 4 _ k (by omega)]; exact hf 4 _ k (by omega)
  · rw [y4 13 _ k (by omega), y3 13 _ k (by omega), ((x2 s hs).2 k hk).1, y1 13 _ k (by omega)]; exact hf 13 _ k (by omega)
  · rw [y4 14 _ k (by omega), y3 14 _ k (by omega), ((x2 s hs).2 k hk).2, y1 14 _ k (by omega)]; exact hf 14 _ k (by omega)
  · rw [y4 5 _ 1 (by omega), (x3 s hs).1, y2 5 _ 1 (by omega), y1 5 _ 1 (by omega)]; exact hf 5 _ 1 (by omega)
  · rw [y4 15 _ k (by omega), (x3 s hs).2 k hk, y2 15 _ k (by omega), y1 15 _ k (by omega)]; exact hf 15 _ k (by omega)
  · rw [(x4 s hs).1, y3 6 _ 2 (by omega), y2 6 _ 2 (by omega), y1 6 _ 2 (by omega)]; exact hf 6 _ 2 (by omega)
  · rw [((x4 s hs).2 k hk).1, y3 16 _ k (by omega), y2 16 _ k (by omega), y1 16 _ k (by omega)]; exact hf 16 _ k (by omega)
  · rw [((x4 s hs).2 k hk).2, y3 17 _ k (by omega), y2 17 _ k (by omega), y1 17 _ k (by omega)]; exact hf 17 _ k (by omega)
  · unfold cz_ at hr
    rw [y4 r i k (by omega), y3 r i k (by omega), y2 r i k (by omega), y1 r i k (by omega)]
    exact hf r i k (by omega)
/-- a row's part copied, in the reference -/
theorem rf_row {m : ev_m} {r ln n j d : Nat} (hne : j ≠ d) (hj : n * j + n ≤ ln) (hd : n * d + n ≤ ln) (hl : ln < 1000) : ∃ m', f_X10_copyRow r 0 ln m (nI n) (nI j) (nI d) = some m' ∧ (∀ k, k < n → m'.1 r 0 (n * d + k) = m.1 r 0 (n * j + k)) ∧ ∀ r' i k, ¬ (r' = r ∧ i = 0 ∧ n * d ≤ k ∧ k < n * d + n) → m'.1 r' i k = m.1 r' i k := by
  unfold f_X10_copyRow
  have hdis : n * j + n ≤ n * d ∨ n * d + n ≤ n * j := by
    rcases Nat.lt_or_ge j d with h | h
    · left
      have := Nat.mul_le_mul_left n (show j + 1 ≤ d from h)
      rw [Nat.mul_succ] at this
      exact this
    · right
      have := Nat.mul_le_mul_left n (show d + 1 ≤ j by omega)
      rw [Nat.mul_succ] at this
      exact this
  obtain ⟨m', e, h1, h2⟩ := lp_ixE (L := fun f i m => lp_X10_copyRow r 0 ln (nI n) (nI j) (nI d) f i m some) (kx := some) (T := fun k m' => (∀ i, i < k → m'.1 r 0 (n * d + i) = m.1 r 0 (n * j + i)) ∧ ∀ r' i k, ¬ (r' = r ∧ i = 0 ∧ n * d ≤ k ∧ k < n * d + n) → m'.1 r' i k = m.1 r' i k) (N := n)
    (by
      intro f m' _
      rw [lp_X10_copyRow, if_neg (nI_nlt (Nat.le_refl _) (by omega))])
    (by
      intro f k m' hk ⟨t1, t2⟩
      refine Or.inl ⟨ev_pim m' r 0 (n * d + k) (m'.1 r 0 (n * j + k)), ?_, fun i hi => ?_, fun r' i q h => ?_⟩
      · rw [lp_X10_copyRow, if_pos (nI_lt hk (by omega)), pk_mul, pk_mul, nI_add, nI_add, pq_ald (by omega) (by omega), pq_sb, pq_ast (by omega) (by omega), pq_sb, nI_1]
      · rw [pq_pim]
        by_cases e : i = k
        · rw [if_pos ⟨rfl, rfl, by rw [e]⟩, e]
          exact t2 r 0 (n * j + k) (by omega)
        · rw [if_neg (by omega)]
          exact t1 i (by omega)
      · rw [pq_pim, if_neg (by omega)]
        exact t2 r' i q h)
    n 4000 0 m (by omega) (by omega) ⟨fun i h => absurd h (Nat.not_lt_zero i), fun _ _ _ _ => rfl⟩
  exact ⟨m', e, h1, h2⟩
theorem rf_tapes {m : ev_m} {j d : Nat} {kx : ev_m → Option ev_m} (hne : j ≠ d) (hj : j < 4) (hd : d < 4) (hY : ∀ k, vp_nar .byte (m.1 30 0 k) = m.1 30 0 k) : ∃ m', lp_X10_copyAll_2 0 (nI j) (nI d) 4000 0 m kx = kx m' ∧ (∀ k, k < 600 → m'.1 30 0 (600 * d + k) = m.1 30 0 (600 * j + k)) ∧ (∀ r' i k, ¬ (r' = 30 ∧ i = 0 ∧ 600 * d ≤ k ∧ k < 600 * d + 600) → m'.1 r' i k = m.1 r' i k) := by
  obtain ⟨m', e, h1, h2⟩ := lp_ixE (L := fun f i m => lp_X10_copyAll_2 0 (nI j) (nI d) f i m kx) (kx := kx) (T := fun k m' => (∀ i, i < k → m'.1 30 0 (600 * d + i) = m.1 30 0 (600 * j + i)) ∧ ∀ r' i k, ¬ (r' = 30 ∧ i = 0 ∧ 600 * d ≤ k ∧ k < 600 * d + 600) → m'.1 r' i k = m.1 r' i k) (N := 600)
    (by
      intro f m' _
      rw [lp_X10_copyAll_2, if_neg (by decide)])
    (by
      intro f k m' hk ⟨t1, t2⟩
      refine Or.inl ⟨ev_pim m' 30 0 (600 * d + k) (m'.1 30 0 (600 * j + k)), ?_, fun i hi => ?_, fun r' i q h => ?_⟩
      · rw [lp_X10_copyAll_2, if_pos (show nI k < 600 from nI_lt (b := 600) hk (by decide)), show (600 : Int32) = nI 600 from rfl, pk_mul, pk_mul, nI_add, nI_add, pq_ald (by omega) (by omega), pq_sb]
        unfold ev_bst
        rw [nI_toInt (by omega), nI_clamp (by omega), if_pos (by omega), pq_sb, nI_1, t2 30 0 (600 * j + k) (by omega), hY]
      · rw [pq_pim]
        by_cases e : i = k
        · rw [if_pos ⟨rfl, rfl, by rw [e]⟩, e]
          exact t2 30 0 (600 * j + k) (by omega)
        · rw [if_neg (by omega)]
          exact t1 i (by omega)
      · rw [pq_pim, if_neg (by omega)]
        exact t2 r' i q h)
    600 4000 0 m (by decide) (by decide) ⟨fun i h => absurd h (Nat.not_lt_zero i), fun _ _ _ _ => rfl⟩
  exact ⟨m', e, h1, h2⟩
def rz_ (d r k : Nat) : Prop := (r = 30 ∧ 600 * d ≤ k ∧ k < 600 * d + 600) ∨ ((r = 31 ∨ r = 32 ∨ r = 33) ∧ k = d) ∨ (r = 34 ∧ 4 * d ≤ k ∧ k < 4 * d + 4) ∨ (r = 35 ∧ 46 * d ≤ k ∧ k < 46 * d + 46) ∨ (r = 36 ∧ 72 * d ≤ k ∧ k < 72 * d + 72) ∨ (r = 37 ∧ 122 * d ≤ k ∧ k < 122 * d + 122) ∨ (r = 38 ∧ 34 * d ≤ k ∧ k < 34 * d + 34)
theorem rf_copyA {m : ev_m} {j d : Nat} (hne : j ≠ d) (hj : j < 4) (hd : d < 4) (hY : ∀ k, vp_nar .byte (m.1 30 0 k) = m.1 30 0 k) : ∃ m', f_X10_copyAll m 0 (nI j) (nI d) = some m' ∧ (∀ k, k < 600 → m'.1 30 0 (600 * d + k) = m.1 30 0 (600 * j + k)) ∧ m'.1 31 0 d = m.1 31 0 j ∧ m'.1 32 0 d = m.1 32 0 j ∧ m'.1 33 0 d = m.1 33 0 j ∧ (∀ k, k < 4 → m'.1 34 0 (4 * d + k) = m.1 34 0 (4 * j + k)) ∧ (∀ k, k < 46 → m'.1 35 0 (46 * d + k) = m.1 35 0 (46 * j + k)) ∧ (∀ k, k < 72 → m'.1 36 0 (72 * d + k) = m.1 36 0 (72 * j + k)) ∧ (∀ k, k < 122 → m'.1 37 0 (122 * d + k) = m.1 37 0 (122 * j + k)) ∧ (∀ k, k < 34 → m'.1 38 0 (34 * d + k) = m.1 38 0 (34 * j + k)) ∧ (∀ r i k, ¬ rz_ d r k → m'.1 r i k = m.1 r i k) := by
  unfold f_X10_copyAll
  obtain ⟨m0, e0, x0, y0⟩ := rf_tapes (m := m) (kx := fun m9 => (f_X10_copyRow 31 0 4 m9 1 (nI j) (nI d)).bind (fun m10 => (f_X10_copyRow 32 0 4 m10 1 (nI j) (nI d)).bind (fun m11 => (f_X10_copyRow 33 0 4 m11 1 (nI j) (nI d)).bind (fun m12 => (f_X10_copyRow 34 0 16 m12 4 (nI j) (nI d)).bind (fun m13 => (f_X10_copyRow 35 0 184 m13 46 (nI j) (nI d)).bind (fun m14 => (f_X10_copyRow 36 0 288 m14 72 (nI j) (nI d)).bind (fun m15 => (f_X10_copyRow 37 0 488 m15 122 (nI j) (nI d)).bind (fun m16 => (f_X10_copyRow 38 0 136 m16 34 (nI j) (nI d)).bind (fun m17 => (some (m17))))))))))) hne hj hd hY
  obtain ⟨m1, e1, x1, y1⟩ := rf_row (m := m0) (r := 31) (ln := 4) (n := 1) hne (by omega) (by omega) (by omega)
  obtain ⟨m2, e2, x2, y2⟩ := rf_row (m := m1) (r := 32) (ln := 4) (n := 1) hne (by omega) (by omega) (by omega)
  obtain ⟨m3, e3, x3, y3⟩ := rf_row (m := m2) (r := 33) (ln := 4) (n := 1) hne (by omega) (by omega) (by omega)
  obtain ⟨m4, e4, x4, y4⟩ := rf_row (m := m3) (r := 34) (ln := 16) (n := 4) hne (by omega) (by omega) (by omega)
  obtain ⟨m5, e5, x5, y5⟩ := rf_row (m := m4) (r := 35) (ln := 184) (n := 46) hne (by omega) (by omega) (by omega)
  obtain ⟨m6, e6, x6, y6⟩ := rf_row (m := m5) (r := 36) (ln := 288) (n := 72) hne (by omega) (by omega) (by omega)
  obtain ⟨m7, e7, x7, y7⟩ := rf_row (m := m6) (r := 37) (ln := 488) (n := 122) hne (by omega) (by omega) (by omega)
  obtain ⟨m8, e8, x8, y8⟩ := rf_row (m := m7) (r := 38) (ln := 136) (n := 34) hne (by omega) (by omega) (by omega)
  have x1 := x1 0 (by decide)
  have x2 := x2 0 (by decide)
  have x3 := x3 0 (by decide)
  rw [show 1 * d + 0 = d by omega, show 1 * j + 0 = j by omega] at x1 x2 x3
  refine ⟨m8, ?_, fun k hk => ?_, ?_, ?_, ?_, fun k hk => ?_, fun k hk => ?_, fun k hk => ?_, fun k hk => ?_, fun k hk => ?_, fun r i k h => ?_⟩
  · rw [e0]
    try dsimp only
    rw [show f_X10_copyRow 31 0 4 m0 1 (nI j) (nI d) = _ from e1, pq_sb, show f_X10_copyRow 32 0 4 m1 1 (nI j) (nI d) = _ from e2, pq_sb, show f_X10_copyRow 33 0 4 m2 1 (nI j) (nI d) = _ from e3, pq_sb, show f_X10_copyRow 34 0 16 m3 4 (nI j) (nI d) = _ from e4, pq_sb, show f_X10_copyRow 35 0 184 m4 46 (nI j) (nI d) = _ from e5, pq_sb, show f_X10_copyRow 36 0 288 m5 72 (nI j) (nI d) = _ from e6, pq_sb, show f_X10_copyRow 37 0 488 m6 122 (nI j) (nI d) = _ from e7, pq_sb, show f_X10_copyRow 38 0 136 m7 34 (nI j) (nI d) = _ from e8, pq_sb]
  · rw [y8 30 0 _ (by omega), y7 30 0 _ (by omega), y6 30 0 _ (by omega), y5 30 0 _ (by omega), y4 30 0 _ (by omega), y3 30 0 _ (by omega), y2 30 0 _ (by omega), y1 30 0 _ (by omega), x0 k hk]
  · rw [y8 31 0 _ (by omega), y7 31 0 _ (by omega), y6 31 0 _ (by omega), y5 31 0 _ (by omega), y4 31 0 _ (by omega), y3 31 0 _ (by omega), y2 31 0 _ (by omega), x1, y0 31 0 _ (by omega)]
  · rw [y8 32 0 _ (by omega), y7 32 0 _ (by omega), y6 32 0 _ (by omega), y5 32 0 _ (by omega), y4 32 0 _ (by omega), y3 32 0 _ (by omega), x2, y1 32 0 _ (by omega), y0 32 0 _ (by omega)]
  · rw [y8 33 0 _ (by omega), y7 33 0 _ (by omega), y6 33 0 _ (by omega), y5 33 0 _ (by omega), y4 33 0 _ (by omega), x3, y2 33 0 _ (by omega), y1 33 0 _ (by omega), y0 33 0 _ (by omega)]
  · rw [y8 34 0 _ (by omega), y7 34 0 _ (by omega), y6 34 0 _ (by omega), y5 34 0 _ (by omega), x4 k hk, y3 34 0 _ (by omega), y2 34 0 _ (by omega), y1 34 0 _ (by omega), y0 34 0 _ (by omega)]
  · rw [y8 35 0 _ (by omega), y7 35 0 _ (by omega), y6 35 0 _ (by omega), x5 k hk, y4 35 0 _ (by omega), y3 35 0 _ (by omega), y2 35 0 _ (by omega), y1 35 0 _ (by omega), y0 35 0 _ (by omega)]
  · rw [y8 36 0 _ (by omega), y7 36 0 _ (by omega), x6 k hk, y5 36 0 _ (by omega), y4 36 0 _ (by omega), y3 36 0 _ (by omega), y2 36 0 _ (by omega), y1 36 0 _ (by omega), y0 36 0 _ (by omega)]
  · rw [y8 37 0 _ (by omega), x7 k hk, y6 37 0 _ (by omega), y5 37 0 _ (by omega), y4 37 0 _ (by omega), y3 37 0 _ (by omega), y2 37 0 _ (by omega), y1 37 0 _ (by omega), y0 37 0 _ (by omega)]
  · rw [x8 k hk, y7 38 0 _ (by omega), y6 38 0 _ (by omega), y5 38 0 _ (by omega), y4 38 0 _ (by omega), y3 38 0 _ (by omega), y2 38 0 _ (by omega), y1 38 0 _ (by omega), y0 38 0 _ (by omega)]
  · unfold rz_ at h
    rw [y8 r i k (by omega), y7 r i k (by omega), y6 r i k (by omega), y5 r i k (by omega), y4 r i k (by omega), y3 r i k (by omega), y2 r i k (by omega), y1 r i k (by omega), y0 r i k (by omega)]
/-- a book copied on both sides -/
theorem cp_both {m : ev_m} {j d : Nat} (hne : j ≠ d) (hj : j < 4) (hd : d < 4) (hK : iv_K m j) (hY : ∀ k, vp_nar .byte (m.1 30 0 k) = m.1 30 0 k) : ∃ m1, f_X0_copy m d (some j) = some m1 ∧ (∀ r i k, ¬ cz_ d r i → m1.1 r i k = m.1 r i k) ∧ ∀ m1', (∀ r i k, r ≠ 10 → r ≠ 22 → m1'.1 r i k = m1.1 r i k) → ∃ m2, f_X10_copyAll m1' 0 (nI j) (nI d) = some m2 ∧ iv_K m2 d ∧ (∀ r i k, ¬ rz_ d r k → m2.1 r i k = m1'.1 r i k) ∧ ∀ k, vp_nar .byte (m2.1 30 0 k) = m2.1 30 0 k := by
  obtain ⟨c0, c1, c2, c3, L, hB, t0, t1, t2, t3, t4, t5⟩ := hK
  obtain ⟨m1, e1, g1, g2, g11, gs, gh, gp, gw, gf⟩ := cl_copyB hj hd hne hB
  refine ⟨m1, e1, gf, fun m1' hm => ?_⟩
  have hmr : ∀ r i k, 30 ≤ r → m1'.1 r i k = m.1 r i k := fun r i k h => by
    rw [hm r i k (by omega) (by omega), gf r i k (by unfold cz_; omega)]
  have hY1 : ∀ k, vp_nar .byte (m1'.1 30 0 k) = m1'.1 30 0 k := fun k => by rw [hmr 30 0 k (by decide)]; exact hY k
  obtain ⟨m2, e2, x30, x31, x32, x33, x34, x35, x36, x37, x38, xf⟩ := rf_copyA hne hj hd hY1
  have hc : ∀ r i k, r < 30 → r ≠ 10 → r ≠ 22 → m2.1 r i k = m1.1 r i k := fun r i k h h2 h3 => by
    rw [xf r i k (by unfold rz_; omega), hm r i k h2 h3]
  have hBd : iv_B m2 d c0 c1 c2 c3 := by
    refine hB.mv (fun q h1 h2 => ?_) (fun s hs => ⟨fun k hk => ?_, fun k hk => ?_⟩) (fun s hs => ⟨fun k hk => ?_, fun k hk => ⟨?_, ?_⟩⟩) (fun s hs => ⟨?_, fun k hk => ?_⟩) (fun s hs => ⟨?_, fun k hk => ⟨?_, ?_⟩⟩) (fun k hk => ?_) (fun k hk => ?_) (fun k hk => ?_) (fun k hk => ?_) (fun k hk => ?_)
    · rw [hc 1 d q (by decide) (by decide) (by decide)]; exact g1 q (by omega) h2
    · rw [hc 3 _ k (by decide) (by decide) (by decide)]; exact (gs s hs).1 k hk
    · rw [hc 12 _ k (by decide) (by decide) (by decide)]; exact (gs s hs).2 k hk
    · rw [hc 4 _ k (by decide) (by decide) (by decide)]; exact (gh s hs).1 k hk
    · rw [hc 13 _ k (by decide) (by decide) (by decide)]; exact ((gh s hs).2 k hk).1
    · rw [hc 14 _ k (by decide) (by decide) (by decide)]; exact ((gh s hs).2 k hk).2
    · rw [hc 5 _ 1 (by decide) (by decide) (by decide)]; exact (gp s hs).1
    · rw [hc 15 _ k (by decide) (by decide) (by decide)]; exact (gp s hs).2 k hk
    · rw [hc 6 _ 2 (by decide) (by decide) (by decide)]; exact (gw s hs).1
    · rw [hc 16 _ k (by decide) (by decide) (by decide)]; exact ((gw s hs).2 k hk).1
    · rw [hc 17 _ k (by decide) (by decide) (by decide)]; exact ((gw s hs).2 k hk).2
    · rw [x34 k hk]; exact hmr 34 0 _ (by decide)
    · rw [x35 k hk]; exact hmr 35 0 _ (by decide)
    · rw [x36 k hk]; exact hmr 36 0 _ (by decide)
    · rw [x37 k hk]; exact hmr 37 0 _ (by decide)
    · rw [x38 k hk]; exact hmr 38 0 _ (by decide)
  refine ⟨m2, e2, ⟨c0, c1, c2, c3, L, hBd, t0, ?_, ?_, fun k hk => ?_, ?_, ?_⟩, xf, fun k => ?_⟩
  · rw [hc 2 d 1 (by decide) (by decide) (by decide), g2]; exact t1
  · rw [x31, hmr 31 0 _ (by decide)]; exact t2
  · rw [hc 11 d k (by decide) (by decide) (by decide), g11 k (by omega), x30 k (by omega), hmr 30 0 _ (by decide)]; exact t3 k hk
  · rw [hc 1 d 1 (by decide) (by decide) (by decide), g1 1 (by decide) (by decide), x32, hmr 32 0 _ (by decide)]; exact t4
  · rw [hc 1 d 2 (by decide) (by decide) (by decide), g1 2 (by decide) (by decide), x33, hmr 33 0 _ (by decide)]; exact t5
  · by_cases h : 600 * d ≤ k ∧ k < 600 * d + 600
    · have := x30 (k - 600 * d) (by omega)
      rw [show 600 * d + (k - 600 * d) = k by omega] at this
      rw [this]
      exact hY1 _
    · rw [xf 30 0 k (by unfold rz_; omega)]
      exact hY1 k
/-- another book, as it was -/
theorem iv_K.ot {m m' : ev_m} {b d : Nat} (h : iv_K m b) (hb : b ≠ d) (hF : ∀ r i k, ¬ cz_ d r i → ¬ rz_ d r k → r ≠ 10 → r ≠ 22 → r ≠ 52 → m'.1 r i k = m.1 r i k) : iv_K m' b := by
  obtain ⟨c0, c1, c2, c3, L, hB, t0, t1, t2, t3, t4, t5⟩ := h
  have hbb := hB.1
  refine ⟨c0, c1, c2, c3, L, hB.mv (fun q h1 h2 => ?_) (fun s hs => ⟨fun k hk => ?_, fun k hk => ?_⟩) (fun s hs => ⟨fun k hk => ?_, fun k hk => ⟨?_, ?_⟩⟩) (fun s hs => ⟨?_, fun k hk => ?_⟩) (fun s hs => ⟨?_, fun k hk => ⟨?_, ?_⟩⟩) (fun k hk => ?_) (fun k hk => ?_) (fun k hk => ?_) (fun k hk => ?_) (fun k hk => ?_), t0, ?_, ?_, fun k hk => ?_, ?_, ?_⟩
  all_goals first
    | exact hF _ _ _ (by unfold cz_; omega) (by unfold rz_; omega) (by omega) (by omega) (by omega)
    | skip
  · rw [hF 2 b 1 (by unfold cz_; omega) (by unfold rz_; omega) (by omega) (by omega) (by omega)]; exact t1
  · rw [hF 31 0 b (by unfold cz_; omega) (by unfold rz_; omega) (by omega) (by omega) (by omega)]; exact t2
  · rw [hF 11 b k (by unfold cz_; omega) (by unfold rz_; omega) (by omega) (by omega) (by omega), hF 30 0 _ (by unfold cz_; omega) (by unfold rz_; omega) (by omega) (by omega) (by omega)]; exact t3 k hk
  · rw [hF 1 b 1 (by unfold cz_; omega) (by unfold rz_; omega) (by omega) (by omega) (by omega), hF 32 0 b (by unfold cz_; omega) (by unfold rz_; omega) (by omega) (by omega) (by omega)]; exact t4
  · rw [hF 1 b 2 (by unfold cz_; omega) (by unfold rz_; omega) (by omega) (by omega) (by omega), hF 33 0 b (by unfold cz_; omega) (by unfold rz_; omega) (by omega) (by omega) (by omega)]; exact t5
theorem ard_n {n k : Nat} {g : Nat → Nat} (h : k < n) (hn : n < 1000) : ev_ard g n (nI k) = some (g k) := by
  unfold ev_ard
  rw [nI_toInt (by omega), nI_clamp (by omega), if_pos (by omega)]
theorem zst_n {m : ev_m} {r n k : Nat} (h : k < n) (hn : n < 1000) : ev_zst m r 0 n (nI k) 1 = some (ev_pim m r 0 k 1) := by
  unfold ev_zst
  rw [nI_toInt (by omega), nI_clamp (by omega), if_pos (by omega)]
  rfl
theorem in3 {m : ev_m} {x : Int32} : (∃ k : Nat, k < 3 ∧ x = nI k ∧ s_X10_in m x 0 2 = true ∧ ¬ x < 0 ∧ x < 3) ∨ (s_X10_in m x 0 2 = false ∧ (x < 0 ∨ (¬ x < 0 ∧ ¬ x < 3))) := by
  by_cases h0 : x < 0
  · right
    unfold s_X10_in
    rw [if_pos h0]
    exact ⟨rfl, Or.inl h0⟩
  · obtain ⟨k, hk, rfl⟩ := nI_of h0
    by_cases h3 : k < 3
    · left
      exact ⟨k, h3, rfl, in_T (a := 0) (b := 2) (by omega) (by omega) (by decide), h0, nI_lt (b := 3) h3 (by decide)⟩
    · right
      refine ⟨?_, Or.inr ⟨h0, nI_nlt (b := 3) (by omega) hk⟩⟩
      cases h : s_X10_in m (nI k) 0 2 with
      | false => rfl
      | true =>
        obtain ⟨i, -, h2, e⟩ := in_F (a := 0) (b := 2) (by decide) (by decide) h
        have := (nI_eq hk (by omega)).mp e
        omega
/-- IMAGE -/
theorem k_image {m : ev_m} (hI : iv_ m) (x : Int32) : kd_ m (fun m => f_X9_image m 0 x) (fun m => f_X10_image m 0 x) := by
  obtain ⟨hK, hG, hY⟩ := id hI
  rcases in3 (m := m) (x := x) with ⟨k, hk, rfl, hin, h0, h3⟩ | ⟨hin, hcl⟩
  · have hin' : ∀ m : ev_m, s_X10_in m (nI k) 0 2 = true := fun _ => hin
    obtain ⟨m1, e1, f1, hm⟩ := cp_both (j := 0) (d := k + 1) (by omega) (by omega) (by omega) hK hY
    obtain ⟨m2, e2, k2, f2, y2⟩ := hm (ev_pim (ev_pim m1 22 0 k 1) 10 0 0 0) (fun r i q h1 h2 => by rw [pq_pim, if_neg (by omega), pq_pim, if_neg (by omega)])
    have hfin : ∀ r i q, ¬ cz_ (k + 1) r i → ¬ rz_ (k + 1) r q → r ≠ 10 → r ≠ 22 → r ≠ 52 → (ev_pim m2 52 0 k 1).1 r i q = m.1 r i q := fun r i q h1 h2 h3 h4 h5 => by
      rw [pq_pim, if_neg (by omega), f2 r i q h2, pq_pim, if_neg (by omega), pq_pim, if_neg (by omega), f1 r i q h1]
    refine ⟨true, ev_pim m1 22 0 k 1, ev_pim m2 52 0 k 1, ?_, ?_, hK.ot (by omega) hfin, fun q hq => ?_, fun q => ?_⟩
    · try dsimp only
      unfold f_X9_image
      rw [if_neg h0, if_pos h3, ard_n hk (by decide), pq_sb, pq_sb, e1, pq_sb, zst_n hk (by decide), pq_sb]
    · try dsimp only
      unfold f_X10_image
      rw [pq_let, if_pos (hin' _), nI_1, show f_X10_copyAll (ev_pim (ev_pim m1 22 0 k 1) 10 0 0 0) 0 0 (nI (k + 1)) = _ from e2, pq_sb, zst_n hk (by decide), pq_sb]
    · by_cases e : q = k
      · subst e
        right
        refine ⟨?_, ?_, ?_⟩
        · rw [pq_pim, if_neg (by omega), f2 22 0 q (by unfold rz_; omega), pq_pim, if_neg (by omega), pq_pim, if_pos ⟨rfl, rfl, rfl⟩]
        · rw [pq_pim, if_pos ⟨rfl, rfl, rfl⟩]
        · exact k2.ot (d := 100) (by omega) (fun r i j h1 h2 h3 h4 h5 => by rw [pq_pim, if_neg (by omega)])
      · have a1 : (ev_pim m2 52 0 k 1).1 22 0 q = m.1 22 0 q := by
          rw [pq_pim, if_neg (by omega), f2 22 0 q (by unfold rz_; omega), pq_pim, if_neg (by omega), pq_pim, if_neg (by omega), f1 22 0 q (by unfold cz_; omega)]
        have a2 : (ev_pim m2 52 0 k 1).1 52 0 q = m.1 52 0 q := by
          rw [pq_pim, if_neg (by omega), f2 52 0 q (by unfold rz_; omega), pq_pim, if_neg (by omega), pq_pim, if_neg (by omega), f1 52 0 q (by unfold cz_; omega)]
        rcases hG q hq with ⟨g1, g2⟩ | ⟨g1, g2, g3⟩
        · left
          rw [a1, a2]
          exact ⟨g1, g2⟩
        · right
          rw [a1, a2]
          exact ⟨g1, g2, g3.ot (by omega) hfin⟩
    · rw [pq_pim, if_neg (by omega)]
      exact y2 q
  · have hin' : ∀ m : ev_m, ¬ s_X10_in m x 0 2 = true := fun _ => by
      intro h
      rw [show s_X10_in m x 0 2 = true from h] at hin
      cases hin
    refine ⟨false, m, ev_pim m 10 0 0 0, ?_, ?_, hI.fr PI_pim⟩
    · try dsimp only
      unfold f_X9_image
      rcases hcl with h | ⟨h, h2⟩
      · rw [if_pos h]
      · rw [if_neg h, if_neg h2]
    · try dsimp only
      unfold f_X10_image
      rw [pq_let, if_neg (hin' _)]
/-- AGAIN -/
theorem k_again {m : ev_m} (hI : iv_ m) (x : Int32) : kd_ m (fun m => f_X9_again m 0 x) (fun m => f_X10_again m 0 x) := by
  obtain ⟨hK, hG, hY⟩ := id hI
  rcases in3 (m := m) (x := x) with ⟨k, hk, rfl, hin, h0, h3⟩ | ⟨hin, hcl⟩
  · have hin' : ∀ m : ev_m, s_X10_in m (nI k) 0 2 = true := fun _ => hin
    rcases hG k hk with ⟨g1, g2⟩ | ⟨g1, g2, g3⟩
    · refine ⟨false, m, ev_pim m 10 0 0 0, ?_, ?_, hI.fr PI_pim⟩
      · try dsimp only
        unfold f_X9_again
        rw [if_neg h0, if_pos h3, pq_ald hk (by decide), pq_sb, g1, if_pos rfl]
      · try dsimp only
        unfold f_X10_again
        rw [pq_let, if_pos (hin' _), pq_ald hk (by decide), pq_sb, show (ev_pim m 10 0 0 0).1 52 0 k = 0 by rw [pq_pim, if_neg (by omega)]; exact g2, if_pos rfl]
    · obtain ⟨m1, e1, f1, hm⟩ := cp_both (j := k + 1) (d := 0) (by omega) (by omega) (by omega) g3 hY
      obtain ⟨m2, e2, k2, f2, y2⟩ := hm (ev_pim m1 10 0 0 0) (fun r i q h1 h2 => by rw [pq_pim, if_neg (by omega)])
      have hfin : ∀ r i q, ¬ cz_ 0 r i → ¬ rz_ 0 r q → r ≠ 10 → m2.1 r i q = m.1 r i q := fun r i q h1 h2 h3 => by
        rw [f2 r i q h2, pq_pim, if_neg (by omega), f1 r i q h1]
      refine ⟨true, m1, m2, ?_, ?_, k2, fun q hq => ?_, y2⟩
      · try dsimp only
        unfold f_X9_again
        rw [if_neg h0, if_pos h3, pq_ald hk (by decide), pq_sb, g1, if_neg (by decide), ard_n hk (by decide), pq_sb, e1, pq_sb]
      · try dsimp only
        unfold f_X10_again
        rw [pq_let, if_pos (hin' _), pq_ald hk (by decide), pq_sb, show (ev_pim m1 10 0 0 0).1 52 0 k = 1 by rw [pq_pim, if_neg (by omega), f1 52 0 k (by unfold cz_; omega)]; exact g2, if_neg (by decide), nI_1, show f_X10_copyAll (ev_pim m1 10 0 0 0) 0 (nI (k + 1)) 0 = _ from e2, pq_sb]
      · have a1 : m2.1 22 0 q = m.1 22 0 q := hfin 22 0 q (by unfold cz_; omega) (by unfold rz_; omega) (by omega)
        have a2 : m2.1 52 0 q = m.1 52 0 q := hfin 52 0 q (by unfold cz_; omega) (by unfold rz_; omega) (by omega)
        rcases hG q hq with ⟨g1, g2⟩ | ⟨g1, g2, g3⟩
        · left
          rw [a1, a2]
          exact ⟨g1, g2⟩
        · right
          rw [a1, a2]
          exact ⟨g1, g2, g3.ot (d := 0) (by omega) (fun r i j h1 h2 h3 h4 h5 => hfin r i j h1 h2 h3)⟩
  · have hin' : ∀ m : ev_m, ¬ s_X10_in m x 0 2 = true := fun _ => by
      intro h
      rw [show s_X10_in m x 0 2 = true from h] at hin
      cases hin
    refine ⟨false, m, ev_pim m 10 0 0 0, ?_, ?_, hI.fr PI_pim⟩
    · try dsimp only
      unfold f_X9_again
      rcases hcl with h | ⟨h, h2⟩
      · rw [if_pos h]
      · rw [if_neg h, if_neg h2]
    · try dsimp only
      unfold f_X10_again
      rw [pq_let, if_neg (hin' _)]
