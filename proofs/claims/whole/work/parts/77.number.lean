/-! pure: texts: faults, numbers, words -/
def tk_ (B : Nat → Int32) (L : Nat) (t : Nat × Nat × Int32) : Prop := t.1 ≤ L ∧ t = xn_p B L t.1
theorem tk_n {B : Nat → Int32} {L e : Nat} (he : e ≤ L) : tk_ B L (xn_ B L e) := ⟨(xn_0le (B := B) he).2, rfl⟩
theorem tk_b {B : Nat → Int32} {L : Nat} {t : Nat × Nat × Int32} (hB : okB_ B L) (h : tk_ B L t) : t.1 ≤ t.2.1 ∧ t.2.1 ≤ L ∧ (t.2.2 ≠ 0 → t.1 < t.2.1) := by
  have := xn_bp (p := t.1) hB h.1
  rw [← h.2] at this
  exact this
theorem tk_num {B : Nat → Int32} {L : Nat} {t : Nat × Nat × Int32} (hB : okB_ B L) (h : tk_ B L t) (h2 : t.2.2 = 2) : t.2.1 - t.1 ≤ 4 ∧ ∀ i, t.1 ≤ i → i < t.2.1 → ∃ v : Nat, 48 ≤ v ∧ v ≤ 57 ∧ B i = nI v := by
  obtain ⟨hp, e⟩ := h
  rw [e] at h2 ⊢
  generalize t.1 = p at *
  unfold xn_p at h2 ⊢
  try dsimp only at h2 ⊢
  have hk : xk_ (B p) = 2 ∧ ¬ 4 < xn_q B L p 2 - p := by
    by_cases q : xk_ (B p) = 2 ∧ 4 < xn_q B L p 2 - p
    · rw [if_pos q] at h2
      exact absurd h2 (by decide)
    · rw [if_neg q] at h2
      exact ⟨h2, fun z => q ⟨h2, z⟩⟩
  rw [if_neg (by rw [hk.1]; decide), if_pos (Or.inr hk.1), hk.1]
  refine ⟨by omega, fun i h1 h3 => ?_⟩
  have hi : xk_ (B i) = 2 := by
    by_cases e : i = p
    · rw [e]; exact hk.1
    · exact xr_in B 2 _ _ i (by omega) h3
  obtain ⟨-, v, hv, ev⟩ := xB_v (p := i) hB (by rw [hi]; decide)
  rw [ev] at hi
  have := (xk_tab ⟨v, hv⟩).2.2.2.1.mp hi
  exact ⟨v, this.1, this.2, ev⟩
theorem tk_word {B : Nat → Int32} {L : Nat} {t : Nat × Nat × Int32} (hB : okB_ B L) (h : tk_ B L t) (h2 : t.2.2 = 1) : ∀ i, t.1 ≤ i → i < t.2.1 → ∃ v : Nat, 97 ≤ v ∧ v ≤ 122 ∧ B i = nI v := by
  obtain ⟨hp, e⟩ := h
  rw [e] at h2 ⊢
  generalize t.1 = p at *
  unfold xn_p at h2 ⊢
  try dsimp only at h2 ⊢
  have hk : xk_ (B p) = 1 := by
    by_cases q : xk_ (B p) = 2 ∧ 4 < xn_q B L p 2 - p
    · rw [if_pos q] at h2
      exact absurd h2 (by decide)
    · rw [if_neg q] at h2
      exact h2
  rw [if_neg (by rw [hk]; decide), if_pos (Or.inl hk), hk]
  intro i h1 h3
  have hi : xk_ (B i) = 1 := by
    by_cases e : i = p
    · rw [e]; exact hk
    · exact xr_in B 1 _ _ i (by omega) h3
  obtain ⟨-, v, hv, ev⟩ := xB_v (p := i) hB (by rw [hi]; decide)
  rw [ev] at hi
  have := (xk_tab ⟨v, hv⟩).2.2.1.mp hi
  exact ⟨v, this.1, this.2, ev⟩
/-- the first fault by place, of one place the least -/
def nt_ (f p : Nat) (s : Nat × Nat) : Nat × Nat := if s.1 = 0 ∨ p < s.2 ∨ (p = s.2 ∧ f < s.1) then (f, p) else s
def fb_ok (s : Nat × Nat) : Prop := s.1 ≤ 4 ∧ s.2 ≤ 700
theorem nt_ok {f p : Nat} {s : Nat × Nat} (h : fb_ok s) (hf : f ≤ 4) (hp : p ≤ 700) : fb_ok (nt_ f p s) := by
  unfold nt_
  split
  · exact ⟨hf, hp⟩
  · exact h
theorem nt_ne {f p : Nat} {s : Nat × Nat} (hf : f ≠ 0) : (nt_ f p s).1 ≠ 0 := by
  unfold nt_
  split
  · exact hf
  · rename_i h
    intro e
    exact h (Or.inl e)
theorem nt_comm {f p g q : Nat} {s : Nat × Nat} (hf : f ≠ 0) (hg : g ≠ 0) : nt_ f p (nt_ g q s) = nt_ g q (nt_ f p s) := by
  obtain ⟨a, b⟩ := s
  unfold nt_
  by_cases h1 : a = 0 ∨ q < b ∨ (q = b ∧ g < a)
  · by_cases h2 : a = 0 ∨ p < b ∨ (p = b ∧ f < a)
    · rw [if_pos h1, if_pos h2]
      dsimp only
      by_cases h3 : g = 0 ∨ p < q ∨ (p = q ∧ f < g)
      · rw [if_pos h3]
        by_cases h4 : f = 0 ∨ q < p ∨ (q = p ∧ g < f)
        · omega
        · rw [if_neg h4]
      · rw [if_neg h3]
        by_cases h4 : f = 0 ∨ q < p ∨ (q = p ∧ g < f)
        · rw [if_pos h4]
        · rw [if_neg h4]
          have e1 : p = q := by omega
          have e2 : f = g := by omega
          rw [e1, e2]
    · rw [if_pos h1, if_neg h2, if_pos h1]
      dsimp only at *
      rw [if_neg (by omega)]
  · by_cases h2 : a = 0 ∨ p < b ∨ (p = b ∧ f < a)
    · rw [if_neg h1, if_pos h2]
      dsimp only at *
      rw [if_neg (by omega)]
    · rw [if_neg h1, if_neg h2, if_neg h1]
/-- a fault behind one that is known changes nothing -/
theorem nt_old {f p g q : Nat} {s : Nat × Nat} (hg : g ≠ 0) (h : q < p) : nt_ f p (nt_ g q s) = nt_ g q s := by
  obtain ⟨a, b⟩ := s
  unfold nt_
  by_cases h1 : a = 0 ∨ q < b ∨ (q = b ∧ g < a)
  · rw [if_pos h1]
    dsimp only
    rw [if_neg (by omega)]
  · rw [if_neg h1, if_neg (by dsimp only at *; omega)]
def fc_ (m : ev_m) (s : Nat × Nat) : Prop := m.1 7 0 4 = nI s.1 ∧ m.1 7 0 5 = if s.1 = 0 then -1 else nI s.2
def fr_ (m : ev_m) (s : Nat × Nat) : Prop := m.1 10 0 17 = nI s.1 ∧ (s.1 ≠ 0 → m.1 10 0 18 = nI s.2)
theorem cl_note {m : ev_m} {s : Nat × Nat} {f p : Nat} (h : fc_ m s) (hs : fb_ok s) (hf : f ≤ 4) (hf0 : f ≠ 0) (hp : p ≤ 700) : fc_ (s_X4_note m 0 (nI f) (nI p)) (nt_ f p s) ∧ (s_X4_note m 0 (nI f) (nI p)).2 = m.2 ∧ ∀ r i k, ¬ (r = 7 ∧ i = 0 ∧ (k = 4 ∨ k = 5)) → (s_X4_note m 0 (nI f) (nI p)).1 r i k = m.1 r i k := by
  obtain ⟨a, b⟩ := s
  obtain ⟨h4, h5⟩ := h
  obtain ⟨b1, b2⟩ := hs
  dsimp only at *
  have hj : fc_ (jn_X4_note_41 m 0 (nI f) (nI p)) (f, p) ∧ (jn_X4_note_41 m 0 (nI f) (nI p)).2 = m.2 ∧ ∀ r i k, ¬ (r = 7 ∧ i = 0 ∧ (k = 4 ∨ k = 5)) → (jn_X4_note_41 m 0 (nI f) (nI p)).1 r i k = m.1 r i k := by
    unfold jn_X4_note_41
    rw [pq_let, pq_let]
    refine ⟨⟨?_, ?_⟩, rfl, fun r i k hr => ?_⟩
    · rw [pq_pim, if_neg (by decide), pq_pim, if_pos ⟨rfl, rfl, rfl⟩]
    · rw [pq_pim, if_pos ⟨rfl, rfl, rfl⟩]
      dsimp only
      rw [if_neg hf0]
    · rw [pq_pim, if_neg (by omega), pq_pim, if_neg (by omega)]
  unfold s_X4_note nt_
  rw [h4, h5, pq_let]
  by_cases ha : a = 0
  · subst ha
    rw [if_pos (show nI 0 = 0 from rfl), if_pos (Or.inl rfl)]
    exact hj
  · rw [if_neg (nI_ne0 (by omega) (by omega)), if_neg ha]
    dsimp only
    by_cases hc : p < b ∨ (p = b ∧ f < a)
    · have e : (if nI p < nI b then 1 else if nI p = nI b then (if nI f < nI a then 1 else 0) else 0 : Int32) = 1 := by
        rcases hc with q | ⟨q, q2⟩
        · rw [if_pos (nI_lt q (by omega))]
        · rw [if_neg (nI_nlt (by omega) (by omega)), if_pos (by rw [q]), if_pos (nI_lt q2 (by omega))]
      rw [e, if_neg (by decide), if_pos (Or.inr hc)]
      exact hj
    · have e : (if nI p < nI b then 1 else if nI p = nI b then (if nI f < nI a then 1 else 0) else 0 : Int32) = 0 := by
        rw [if_neg (nI_nlt (by omega) (by omega))]
        by_cases q : p = b
        · rw [if_pos (by rw [q]), if_neg (nI_nlt (by omega) (by omega))]
        · rw [if_neg (fun z => q ((nI_eq (by omega) (by omega)).mp z))]
      rw [e, if_pos rfl, if_neg (fun z => z.elim ha hc)]
      refine ⟨⟨h4, ?_⟩, rfl, fun _ _ _ _ => rfl⟩
      rw [h5]
theorem rf_later {m : ev_m} {s : Nat × Nat} {f p : Nat} (h : fr_ m s) (hs : fb_ok s) (hf : f ≤ 4) (hf0 : f ≠ 0) (hp : p ≤ 700) : fr_ (s_X10_later m 0 (nI f) (nI p)) (nt_ f p s) ∧ (s_X10_later m 0 (nI f) (nI p)).2 = m.2 ∧ ∀ r i k, ¬ (r = 10 ∧ i = 0 ∧ (k = 17 ∨ k = 18)) → (s_X10_later m 0 (nI f) (nI p)).1 r i k = m.1 r i k := by
  obtain ⟨a, b⟩ := s
  obtain ⟨h4, h5⟩ := h
  obtain ⟨b1, b2⟩ := hs
  dsimp only at *
  have hj : fr_ (jn_X10_later_31 m 0 (nI f) (nI p)) (f, p) ∧ (jn_X10_later_31 m 0 (nI f) (nI p)).2 = m.2 ∧ ∀ r i k, ¬ (r = 10 ∧ i = 0 ∧ (k = 17 ∨ k = 18)) → (jn_X10_later_31 m 0 (nI f) (nI p)).1 r i k = m.1 r i k := by
    unfold jn_X10_later_31
    rw [pq_let, pq_let]
    refine ⟨⟨?_, fun _ => ?_⟩, rfl, fun r i k hr => ?_⟩
    · rw [pq_pim, if_neg (by decide), pq_pim, if_pos ⟨rfl, rfl, rfl⟩]
    · rw [pq_pim, if_pos ⟨rfl, rfl, rfl⟩]
    · rw [pq_pim, if_neg (by omega), pq_pim, if_neg (by omega)]
  unfold s_X10_later nt_
  rw [h4]
  by_cases ha : a = 0
  · subst ha
    rw [if_pos (show nI 0 = 0 from rfl), if_pos (Or.inl rfl)]
    exact hj
  · rw [if_neg (nI_ne0 (by omega) (by omega)), h5 ha]
    dsimp only
    by_cases hc : p < b ∨ (p = b ∧ f < a)
    · rw [if_pos (Or.inr hc)]
      rcases hc with q | ⟨q, q2⟩
      · rw [if_pos (nI_lt q (by omega))]
        exact hj
      · rw [if_neg (nI_nlt (by omega) (by omega)), if_pos (by rw [q]), if_pos (nI_lt q2 (by omega))]
        exact hj
    · rw [if_neg (show ¬ nI p < nI b from nI_nlt (by omega) (by omega)), if_neg (show ¬ (a = 0 ∨ p < b ∨ (p = b ∧ f < a)) from fun z => z.elim ha hc)]
      have hrest : fr_ m (a, b) ∧ m.2 = m.2 ∧ ∀ r i k, ¬ (r = 10 ∧ i = 0 ∧ (k = 17 ∨ k = 18)) → m.1 r i k = m.1 r i k := ⟨⟨h4, h5⟩, rfl, fun _ _ _ _ => rfl⟩
      by_cases q : p = b
      · rw [if_pos (show nI p = nI b by rw [q]), if_neg (show ¬ nI f < nI a from nI_nlt (by omega) (by omega))]
        exact hrest
      · rw [if_neg (show ¬ nI p = nI b from fun z => q ((nI_eq (by omega) (by omega)).mp z))]
        exact hrest
/-- where a text stands, in the class, in the reference -/
def RC_ (m : ev_m) (B : Nat → Int32) (L : Nat) (t : Nat × Nat × Int32) (s : Nat × Nat) : Prop := xs_c m t ∧ xt_c m B L ∧ fc_ m s ∧ tk_ B L t ∧ fb_ok s
def RR_ (m : ev_m) (B : Nat → Int32) (L : Nat) (t : Nat × Nat × Int32) (s : Nat × Nat) : Prop := xs_r m B t ∧ xt_r m B L ∧ fr_ m s ∧ tk_ B L t ∧ fb_ok s
theorem RC_.fr {m m' : ev_m} {B : Nat → Int32} {L : Nat} {t : Nat × Nat × Int32} {s : Nat × Nat} (h : RC_ m B L t s) (hF : ∀ r i k, (r = 7 ∧ i = 0 ∧ (4 ≤ k ∧ k < 10)) ∨ ((r = 2 ∨ r = 11) ∧ i = 4) → m'.1 r i k = m.1 r i k) : RC_ m' B L t s := by
  obtain ⟨⟨a1, a2, a3⟩, ⟨b1, b2⟩, ⟨c1, c2⟩, d, e⟩ := h
  exact ⟨⟨(hF 7 0 8 (by omega)).trans a1, (hF 7 0 9 (by omega)).trans a2, (hF 7 0 7 (by omega)).trans a3⟩, ⟨(hF 2 4 1 (by omega)).trans b1, fun k hk => by rw [hF 11 4 k (by omega)]; exact b2 k hk⟩, ⟨(hF 7 0 4 (by omega)).trans c1, (hF 7 0 5 (by omega)).trans c2⟩, d, e⟩
theorem RR_.fr {m m' : ev_m} {B : Nat → Int32} {L : Nat} {t : Nat × Nat × Int32} {s : Nat × Nat} (h : RR_ m B L t s) (h2 : m'.2 = m.2) (hF : ∀ r i k, (r = 10 ∧ i = 0 ∧ (10 ≤ k ∧ k < 19)) ∨ (r = 30 ∧ i = 0) → m'.1 r i k = m.1 r i k) : RR_ m' B L t s := by
  obtain ⟨⟨a1, a2, a3, a4, a5⟩, ⟨b1, b2⟩, ⟨c1, c2⟩, d, e⟩ := h
  exact ⟨⟨(hF 10 0 12 (by omega)).trans a1, (hF 10 0 10 (by omega)).trans a2, (hF 10 0 13 (by omega)).trans a3, fun q => (hF 10 0 14 (by omega)).trans (a4 q), fun q => by rw [h2]; exact a5 q⟩, ⟨(hF 10 0 11 (by omega)).trans b1, fun k hk => by rw [hF 30 0 k (by omega)]; exact b2 k hk⟩, ⟨(hF 10 0 17 (by omega)).trans c1, fun q => (hF 10 0 18 (by omega)).trans (c2 q)⟩, d, e⟩
/-- the next token -/
theorem cl_nextR {m : ev_m} {B : Nat → Int32} {L : Nat} {t : Nat × Nat × Int32} {s : Nat × Nat} (hB : okB_ B L) (h : RC_ m B L t s) : ∃ m', f_X4_next m 0 = some m' ∧ RC_ m' B L (xn_ B L t.2.1) s ∧ m'.2 = m.2 ∧ xF_c m m' := by
  obtain ⟨a, b, c, d, e⟩ := h
  have hb := tk_b hB d
  obtain ⟨m', e1, x1, x2, x3, x4⟩ := cl_next hB b hb.2.1 a.2.1
  exact ⟨m', e1, ⟨x1, x2, ⟨(x4 7 0 4 (by decide)).trans c.1, (x4 7 0 5 (by decide)).trans c.2⟩, tk_n hb.2.1, e⟩, x3, x4⟩
theorem rf_nextR {m : ev_m} {B : Nat → Int32} {L : Nat} {t : Nat × Nat × Int32} {s : Nat × Nat} (hB : okB_ B L) (h : RR_ m B L t s) : ∃ m', f_X10_token m 0 = some m' ∧ RR_ m' B L (xn_ B L t.2.1) s ∧ xF_r m m' := by
  obtain ⟨a, b, c, d, e⟩ := h
  have hb := tk_b hB d
  obtain ⟨m', e1, x1, x2, x3⟩ := rf_token hB b hb.2.1 a.2.1
  exact ⟨m', e1, ⟨x1, x2, ⟨(x3 10 0 17 (by decide)).trans c.1, fun q => (x3 10 0 18 (by decide)).trans (c.2 q)⟩, tk_n hb.2.1, e⟩, x3⟩
def vn_ (B : Nat → Int32) (t : Nat × Nat × Int32) : Nat := xv_ B t.1 (t.2.1 - t.1)
theorem xv_lt {B : Nat → Int32} {p : Nat} : ∀ n, (∀ i, p ≤ i → i < p + n → ∃ v : Nat, 48 ≤ v ∧ v ≤ 57 ∧ B i = nI v) → xv_ B p n < 10 ^ n
  | 0, _ => by show 0 < 1; omega
  | n + 1, h => by
    have ih := xv_lt n (fun i h1 h2 => h i h1 (by omega))
    obtain ⟨v, h1, h2, e⟩ := h (p + n) (by omega) (by omega)
    rw [xv_, e, nI_clamp (by omega), Nat.pow_succ]
    omega
theorem vn_lt {B : Nat → Int32} {L : Nat} {t : Nat × Nat × Int32} (hB : okB_ B L) (h : tk_ B L t) (h2 : t.2.2 = 2) : vn_ B t < 10000 := by
  obtain ⟨h4, hd⟩ := tk_num hB h h2
  have hb := tk_b hB h
  have := xv_lt (B := B) (p := t.1) (t.2.1 - t.1) (fun i h1 h3 => hd i h1 (by omega))
  have h10 : 10 ^ (t.2.1 - t.1) ≤ 10 ^ 4 := Nat.pow_le_pow_right (by decide) h4
  unfold vn_
  omega
theorem cl_val_l {m : ev_m} {B : Nat → Int32} {L : Nat} {t : Nat × Nat × Int32} {x14 x15 x16 : Int32} {kx : Int32 → Option (Bool × ev_m)} (hB : okB_ B L) (ht : xt_c m B L) (hs : xs_c m t) (htk : tk_ B L t) (h2 : t.2.2 = 2) : ∀ n f i, t.1 + i + n = t.2.1 → n < f → lp_X4_takeNumber_55 m 0 x14 x15 x16 f (nI (xv_ B t.1 i)) (nI (t.1 + i)) kx = kx (nI (vn_ B t)) := by
  intro n
  have hL := hB.1
  have hb := tk_b hB htk
  obtain ⟨h4, hd⟩ := tk_num hB htk h2
  induction n with
  | zero =>
    intro f i hi hf
    obtain ⟨g, rfl⟩ : ∃ g, f = g + 1 := ⟨f - 1, by omega⟩
    rw [lp_X4_takeNumber_55, hs.2.1, if_neg (nI_nlt (by omega) (by omega))]
    unfold vn_
    rw [show t.2.1 - t.1 = i by omega]
  | succ n ih =>
    intro f i hi hf
    obtain ⟨g, rfl⟩ : ∃ g, f = g + 1 := ⟨f - 1, by omega⟩
    obtain ⟨v, h1, h3, e⟩ := hd (t.1 + i) (by omega) (by omega)
    rw [lp_X4_takeNumber_55, hs.2.1, if_pos (nI_lt (by omega) (by omega)), cl_byteAt ht hB (by omega), pq_sb, e, show (10 : Int32) = nI 10 from rfl, pk_mul, nI_add, show (48 : Int32) = nI 48 from rfl, pk_sub (by omega), pq_let, nI_1]
    have hv : 10 * xv_ B t.1 i + v - 48 = xv_ B t.1 (i + 1) := by
      rw [xv_, e, nI_clamp (by omega)]
      omega
    rw [hv]
    exact ih g (i + 1) (by omega) (by omega)
/-- a number, in the class: what stands behind its sign -/
theorem cl_num_c {m : ev_m} {B : Nat → Int32} {L : Nat} {t : Nat × Nat × Int32} {s : Nat × Nat} {lo hi x9 v : Int32} (hB : okB_ B L) (h : RC_ m B L t s) (h2 : t.2.2 = 2) (hv : v = if x9 = 0 then nI (vn_ B t) else -nI (vn_ B t)) : ∃ m', jn_X4_takeNumber_36 m 0 lo hi x9 = some (true, m') ∧ RC_ m' B L (xn_ B L t.2.1) (if v < lo ∨ hi < v then nt_ 2 t.1 s else s) ∧ m'.1 7 0 10 = v ∧ m'.1 7 0 11 = m.1 7 0 11 ∧ ∀ r i k, ¬ (r = 7 ∧ i = 0) → m'.1 r i k = m.1 r i k := by
  obtain ⟨a, b, c, d, e⟩ := id h
  have hb := tk_b hB d
  have hL := hB.1
  unfold jn_X4_takeNumber_36
  rw [a.2.2, if_pos h2, a.1, pq_let]
  have e1 := cl_val_l (x14 := lo) (x15 := hi) (x16 := x9) (kx := fun x23 => ev_let (if x9 = 0 then x23 else (-x23) : Int32) (fun x25 => ev_let (ev_pim m 7 0 10 x25) (fun m26 => (if (m26.1 7 0 10) < lo then (jn_X4_takeNumber_123 m26 0) else (if hi < (m26.1 7 0 10) then (jn_X4_takeNumber_123 m26 0) else (jn_X4_takeNumber_132 m26 0)))))) hB b a d h2 (t.2.1 - t.1) 4000 0 (by omega) (by omega)
  have e1 : lp_X4_takeNumber_55 m 0 lo hi x9 4000 0 (nI t.1) _ = _ := e1
  rw [e1, pq_let, ← hv, pq_let, show (ev_pim m 7 0 10 v).1 7 0 10 = v by rw [pq_pim, if_pos ⟨rfl, rfl, rfl⟩]]
  have h' : RC_ (ev_pim m 7 0 10 v) B L t s := h.fr (fun r i k q => by rw [pq_pim, if_neg (by omega)])
  have hgo : ∀ M s', RC_ M B L t s' → ∃ m', jn_X4_takeNumber_132 M 0 = some (true, m') ∧ RC_ m' B L (xn_ B L t.2.1) s' ∧ xF_c M m' := by
    intro M s' hM
    obtain ⟨m', e2, x1, x2, x3⟩ := cl_nextR hB hM
    unfold jn_X4_takeNumber_132
    rw [e2, pq_sb]
    exact ⟨m', rfl, x1, x3⟩
  have hbad : ∃ m', jn_X4_takeNumber_123 (ev_pim m 7 0 10 v) 0 = some (true, m') ∧ RC_ m' B L (xn_ B L t.2.1) (nt_ 2 t.1 s) ∧ m'.1 7 0 10 = v ∧ m'.1 7 0 11 = m.1 7 0 11 ∧ ∀ r i k, ¬ (r = 7 ∧ i = 0) → m'.1 r i k = m.1 r i k := by
    unfold jn_X4_takeNumber_123
    rw [h'.1.1, pq_let]
    obtain ⟨n1, n2, n3⟩ := cl_note (f := 2) (p := t.1) h'.2.2.1 e (by decide) (by decide) (by omega)
    obtain ⟨m', e2, x1, x2⟩ := hgo (s_X4_note (ev_pim m 7 0 10 v) 0 (nI 2) (nI t.1)) (nt_ 2 t.1 s) ⟨⟨(n3 7 0 8 (by decide)).trans h'.1.1, (n3 7 0 9 (by decide)).trans h'.1.2.1, (n3 7 0 7 (by decide)).trans h'.1.2.2⟩, ⟨(n3 2 4 1 (by decide)).trans h'.2.1.1, fun k hk => by rw [n3 11 4 k (by omega)]; exact h'.2.1.2 k hk⟩, n1, d, nt_ok e (by decide) (by omega)⟩
    refine ⟨m', e2, x1, ?_, ?_, fun r i k hr => ?_⟩
    · rw [x2 7 0 10 (by decide), n3 7 0 10 (by decide), pq_pim, if_pos ⟨rfl, rfl, rfl⟩]
    · rw [x2 7 0 11 (by decide), n3 7 0 11 (by decide), pq_pim, if_neg (by decide)]
    · rw [x2 r i k (by omega), n3 r i k (by omega), pq_pim, if_neg (by omega)]
  by_cases q1 : v < lo
  · rw [if_pos q1, if_pos (Or.inl q1)]
    exact hbad
  · rw [if_neg q1]
    by_cases q2 : hi < v
    · rw [if_pos q2, if_pos (Or.inr q2)]
      exact hbad
    · rw [if_neg q2, if_neg (fun z => z.elim q1 q2)]
      obtain ⟨m', e2, x1, x2⟩ := hgo _ _ h'
      refine ⟨m', e2, x1, ?_, ?_, fun r i k hr => ?_⟩
      · rw [x2 7 0 10 (by decide), pq_pim, if_pos ⟨rfl, rfl, rfl⟩]
      · rw [x2 7 0 11 (by decide), pq_pim, if_neg (by decide)]
      · rw [x2 r i k (by omega), pq_pim, if_neg (by omega)]
theorem cl_num_f {m : ev_m} {B : Nat → Int32} {L : Nat} {t : Nat × Nat × Int32} {s : Nat × Nat} {lo hi x9 : Int32} (h : RC_ m B L t s) (h2 : t.2.2 ≠ 2) : jn_X4_takeNumber_36 m 0 lo hi x9 = some (false, m) := by
  unfold jn_X4_takeNumber_36
  rw [h.1.2.2, if_neg h2]
/-- the token of the number: behind a sign -/
def sg_ (B : Nat → Int32) (L : Nat) (t : Nat × Nat × Int32) : Nat × Nat × Int32 := if t.2.2 = 3 then xn_ B L t.2.1 else t
def sv_ (B : Nat → Int32) (L : Nat) (t : Nat × Nat × Int32) : Int32 := if t.2.2 = 3 then -nI (vn_ B (sg_ B L t)) else nI (vn_ B (sg_ B L t))
theorem cl_num {m : ev_m} {B : Nat → Int32} {L : Nat} {t : Nat × Nat × Int32} {s : Nat × Nat} {lo hi : Int32} (hB : okB_ B L) (h : RC_ m B L t s) : (t.2.2 = 2 → ∃ m', f_X4_takeNumber m 0 0 lo hi = some (true, m') ∧ RC_ m' B L (xn_ B L t.2.1) (if nI (vn_ B t) < lo ∨ hi < nI (vn_ B t) then nt_ 2 t.1 s else s) ∧ m'.1 7 0 10 = nI (vn_ B t) ∧ ∀ r i k, ¬ (r = 7 ∧ i = 0) → m'.1 r i k = m.1 r i k) ∧ (t.2.2 ≠ 2 → ∃ m', f_X4_takeNumber m 0 0 lo hi = some (false, m') ∧ m'.1 7 0 8 = nI t.1 ∧ ∀ r i k, ¬ (r = 7 ∧ i = 0) → m'.1 r i k = m.1 r i k) := by
  have h' : RC_ (ev_pim m 7 0 11 (m.1 7 0 8)) B L t s := h.fr (fun r i k q => by rw [pq_pim, if_neg (by omega)])
  unfold f_X4_takeNumber
  rw [pq_let, if_pos rfl, pq_let, if_pos rfl]
  constructor
  · intro h2
    obtain ⟨m', e, x1, x2, x3, x4⟩ := cl_num_c (lo := lo) (hi := hi) (x9 := 0) (v := nI (vn_ B t)) hB h' h2 (by rw [if_pos rfl])
    refine ⟨m', e, x1, x2, fun r i k hr => ?_⟩
    rw [x4 r i k hr, pq_pim, if_neg (by omega)]
  · intro h2
    refine ⟨_, cl_num_f h' h2, h'.1.1, fun r i k hr => by rw [pq_pim, if_neg (by omega)]⟩
theorem cl_sgn {m : ev_m} {B : Nat → Int32} {L : Nat} {t : Nat × Nat × Int32} {s : Nat × Nat} {lo hi : Int32} (hB : okB_ B L) (h : RC_ m B L t s) : ((sg_ B L t).2.2 = 2 → ∃ m', f_X4_takeNumber m 0 1 lo hi = some (true, m') ∧ RC_ m' B L (xn_ B L (sg_ B L t).2.1) (if sv_ B L t < lo ∨ hi < sv_ B L t then nt_ 2 (sg_ B L t).1 s else s) ∧ m'.1 7 0 10 = sv_ B L t ∧ m'.1 7 0 11 = nI t.1 ∧ ∀ r i k, ¬ (r = 7 ∧ i = 0) → m'.1 r i k = m.1 r i k) ∧ ((sg_ B L t).2.2 ≠ 2 → ∃ m', f_X4_takeNumber m 0 1 lo hi = some (false, m') ∧ m'.1 7 0 8 = nI (sg_ B L t).1 ∧ ∀ r i k, ¬ (r = 7 ∧ i = 0) → m'.1 r i k = m.1 r i k) := by
  have h' : RC_ (ev_pim m 7 0 11 (m.1 7 0 8)) B L t s := h.fr (fun r i k q => by rw [pq_pim, if_neg (by omega)])
  have h11 : (ev_pim m 7 0 11 (m.1 7 0 8)).1 7 0 11 = nI t.1 := by rw [pq_pim, if_pos ⟨rfl, rfl, rfl⟩]; exact h.1.1
  have hF : ∀ r i k, ¬ (r = 7 ∧ i = 0) → (ev_pim m 7 0 11 (m.1 7 0 8)).1 r i k = m.1 r i k := fun r i k hr => by rw [pq_pim, if_neg (by omega)]
  unfold f_X4_takeNumber
  rw [pq_let, if_neg (by decide), h'.1.2.2]
  generalize ev_pim m 7 0 11 (m.1 7 0 8) = M at *
  unfold sg_ sv_ sg_
  by_cases h3 : t.2.2 = 3
  · rw [if_pos h3, if_pos h3, if_pos h3, pq_let, if_neg (by decide)]
    obtain ⟨m1, e1, x1, x2, x3⟩ := cl_nextR hB h'
    rw [e1, pq_sb]
    constructor
    · intro h2
      obtain ⟨m', e, y1, y2, y3, y4⟩ := cl_num_c (lo := lo) (hi := hi) (x9 := 1) (v := -nI (vn_ B (xn_ B L t.2.1))) hB x1 h2 (by rw [if_neg (by decide)])
      refine ⟨m', e, y1, y2, ?_, fun r i k hr => ?_⟩
      · rw [y3, x3 7 0 11 (by decide)]
        exact h11
      · rw [y4 r i k hr, x3 r i k (by omega)]
        exact hF r i k hr
    · intro h2
      refine ⟨m1, cl_num_f x1 h2, x1.1.1, fun r i k hr => ?_⟩
      rw [x3 r i k (by omega)]
      exact hF r i k hr
  · rw [if_neg h3, if_neg h3, if_neg h3, pq_let, if_pos rfl]
    constructor
    · intro h2
      obtain ⟨m', e, x1, x2, x3, x4⟩ := cl_num_c (lo := lo) (hi := hi) (x9 := 0) (v := nI (vn_ B t)) hB h' h2 (by rw [if_pos rfl])
      refine ⟨m', e, x1, x2, x3.trans h11, fun r i k hr => ?_⟩
      rw [x4 r i k hr]
      exact hF r i k hr
    · intro h2
      exact ⟨M, cl_num_f h' h2, h'.1.1, hF⟩
theorem kr_2 {k : Int32} (h : k = 0 ∨ k = 1 ∨ k = 2 ∨ k = 3 ∨ k = 4 ∨ k = 5 ∨ k = 6) : (kr_ k = 3 ↔ k = 2) ∧ (kr_ k = 5 ↔ k = 3) ∧ (kr_ k = 2 ↔ k = 1) ∧ (kr_ k = 0 ↔ k = 0) ∧ (kr_ k = 4 ↔ k = 4) := by
  rcases h with rfl | rfl | rfl | rfl | rfl | rfl | rfl <;> decide
theorem tk_k {B : Nat → Int32} {L : Nat} {t : Nat × Nat × Int32} (hB : okB_ B L) (h : tk_ B L t) : t.2.2 = 0 ∨ t.2.2 = 1 ∨ t.2.2 = 2 ∨ t.2.2 = 3 ∨ t.2.2 = 4 ∨ t.2.2 = 5 ∨ t.2.2 = 6 := by
  rw [h.2]
  have := xk_of hB t.1
  unfold xn_p
  try dsimp only
  split
  · exact Or.inr (Or.inr (Or.inr (Or.inr (Or.inr (Or.inr rfl)))))
  · exact this
/-- numbers, in the reference -/
theorem rf_num {m : ev_m} {B : Nat → Int32} {L : Nat} {t : Nat × Nat × Int32} {s : Nat × Nat} {lo hi : Int32} (hB : okB_ B L) (h : RR_ m B L t s) : (t.2.2 = 2 → ∃ m', f_X10_number m 0 lo hi = some (true, m') ∧ RR_ m' B L (xn_ B L t.2.1) (if nI (vn_ B t) < lo ∨ hi < nI (vn_ B t) then nt_ 2 t.1 s else s) ∧ m'.1 10 0 20 = nI (vn_ B t) ∧ ∀ r i k, ¬ (r = 10 ∧ i = 0) → m'.1 r i k = m.1 r i k) ∧ (t.2.2 ≠ 2 → f_X10_number m 0 lo hi = some (false, ev_pim m 10 0 16 (nI t.1))) := by
  obtain ⟨a, b, c, d, e⟩ := id h
  have hkk := kr_2 (tk_k hB d)
  have hb := tk_b hB d
  have hL := hB.1
  unfold f_X10_number
  rw [a.2.2.1]
  constructor
  · intro h2
    have hval := a.2.2.2.1 h2
    rw [if_pos (hkk.1.mpr h2), pq_let]
    have h' : RR_ (ev_pim m 10 0 20 (m.1 10 0 14)) B L t s := h.fr rfl (fun r i k q => by rw [pq_pim, if_neg (by omega)])
    have e20 : (ev_pim m 10 0 20 (m.1 10 0 14)).1 10 0 20 = nI (vn_ B t) := by rw [pq_pim, if_pos ⟨rfl, rfl, rfl⟩]; exact hval
    have hF : ∀ r i k, ¬ (r = 10 ∧ i = 0) → (ev_pim m 10 0 20 (m.1 10 0 14)).1 r i k = m.1 r i k := fun r i k hr => by rw [pq_pim, if_neg (by omega)]
    rw [h'.1.2.2.2.1 h2]
    generalize ev_pim m 10 0 20 (m.1 10 0 14) = M at *
    show ∃ m', (if s_X10_in M (nI (vn_ B t)) lo hi = true then jn_X10_number_42 M 0 else ev_let (s_X10_later M 0 2 (M.1 10 0 12)) (fun m7 => jn_X10_number_42 m7 0)) = some (true, m') ∧ _
    have hgo : ∀ N s', RR_ N B L t s' → ∃ m', jn_X10_number_42 N 0 = some (true, m') ∧ RR_ m' B L (xn_ B L t.2.1) s' ∧ xF_r N m' := by
      intro N s' hN
      obtain ⟨m', e2, x1, x2⟩ := rf_nextR hB hN
      unfold jn_X10_number_42
      rw [e2, pq_sb]
      exact ⟨m', rfl, x1, x2⟩
    by_cases q : nI (vn_ B t) < lo ∨ hi < nI (vn_ B t)
    · rw [if_pos q, if_neg (q.elim (fun z => in_n1 z) (fun z => in_n2 z)), h'.1.1, pq_let]
      obtain ⟨n1, n2, n3⟩ := rf_later (f := 2) (p := t.1) h'.2.2.1 e (by decide) (by decide) (by omega)
      obtain ⟨m', e2, x1, x2⟩ := hgo (s_X10_later M 0 (nI 2) (nI t.1)) (nt_ 2 t.1 s) ⟨⟨(n3 10 0 12 (by decide)).trans h'.1.1, (n3 10 0 10 (by decide)).trans h'.1.2.1, (n3 10 0 13 (by decide)).trans h'.1.2.2.1, fun z => (n3 10 0 14 (by decide)).trans (h'.1.2.2.2.1 z), fun z => by rw [n2]; exact h'.1.2.2.2.2 z⟩, ⟨(n3 10 0 11 (by decide)).trans h'.2.1.1, fun k hk => by rw [n3 30 0 k (by omega)]; exact h'.2.1.2 k hk⟩, n1, d, nt_ok e (by decide) (by omega)⟩
      refine ⟨m', e2, x1, ?_, fun r i k hr => ?_⟩
      · rw [x2 10 0 20 (by decide), n3 10 0 20 (by decide)]
        exact e20
      · rw [x2 r i k (by omega), n3 r i k (by omega)]
        exact hF r i k hr
    · rw [if_neg q, if_pos (in_y (fun z => q (Or.inl z)) (fun z => q (Or.inr z)))]
      obtain ⟨m', e2, x1, x2⟩ := hgo M s h'
      refine ⟨m', e2, x1, ?_, fun r i k hr => ?_⟩
      · rw [x2 10 0 20 (by decide)]
        exact e20
      · rw [x2 r i k (by omega)]
        exact hF r i k hr
  · intro h2
    rw [if_neg (fun q => h2 (hkk.1.mp q))]
    unfold s_X10_stops
    rw [a.1, pq_let, pq_let]
theorem rf_sgn {m : ev_m} {B : Nat → Int32} {L : Nat} {t : Nat × Nat × Int32} {s : Nat × Nat} {hi : Int32} {h0 : Nat} (hB : okB_ B L) (h : RR_ m B L t s) (hhi : hi = nI h0) (hh0 : h0 < 10000) : ((sg_ B L t).2.2 = 2 → ∃ m', f_X10_signed m 0 hi = some (true, m') ∧ RR_ m' B L (xn_ B L (sg_ B L t).2.1) (if sv_ B L t < -hi ∨ hi < sv_ B L t then nt_ 2 (sg_ B L t).1 s else s) ∧ m'.1 10 0 20 = sv_ B L t ∧ ∀ r i k, ¬ (r = 10 ∧ i = 0) → m'.1 r i k = m.1 r i k) ∧ ((sg_ B L t).2.2 ≠ 2 → ∃ m', f_X10_signed m 0 hi = some (false, m') ∧ m'.1 10 0 16 = nI (sg_ B L t).1 ∧ ∀ r i k, ¬ (r = 10 ∧ i = 0) → m'.1 r i k = m.1 r i k) := by
  obtain ⟨a, b, c, d, e⟩ := id h
  have hkk := kr_2 (tk_k hB d)
  have hb := tk_b hB d
  unfold f_X10_signed
  rw [a.2.2.1]
  -- behind the sign
  have key : ∀ (M : ev_m) (t' : Nat × Nat × Int32) (x6 v : Int32), RR_ M B L t' s → (∀ r i k, ¬ (r = 10 ∧ i = 0) → M.1 r i k = m.1 r i k) → (v = if x6 = 0 then nI (vn_ B t') else -nI (vn_ B t')) → (t'.2.2 = 2 → ∃ m', jn_X10_signed_22 M 0 hi x6 = some (true, m') ∧ RR_ m' B L (xn_ B L t'.2.1) (if v < -hi ∨ hi < v then nt_ 2 t'.1 s else s) ∧ m'.1 10 0 20 = v ∧ ∀ r i k, ¬ (r = 10 ∧ i = 0) → m'.1 r i k = m.1 r i k) ∧ (t'.2.2 ≠ 2 → ∃ m', jn_X10_signed_22 M 0 hi x6 = some (false, m') ∧ m'.1 10 0 16 = nI t'.1 ∧ ∀ r i k, ¬ (r = 10 ∧ i = 0) → m'.1 r i k = m.1 r i k) := by
    intro M t' x6 v hM hF hv
    obtain ⟨n1, n2⟩ := rf_num (lo := 0) (hi := hi) hB hM
    unfold jn_X10_signed_22
    constructor
    · intro h2
      have hlt := vn_lt hB hM.2.2.2.1 h2
      obtain ⟨m', e1, x1, x2, x3⟩ := n1 h2
      rw [e1, pq_sb, pq_let, x2, ← hv, pq_let, pq_let]
      have hn : (-nI h0).toInt = -(h0 : Int) := by rw [fb_negI (by rw [nI_toInt (by omega)]; omega), nI_toInt (by omega)]
      have hn2 : (-nI (vn_ B t')).toInt = -(vn_ B t' : Int) := by rw [fb_negI (by rw [nI_toInt (by omega)]; omega), nI_toInt (by omega)]
      have hc : (nI (vn_ B t') < 0 ∨ hi < nI (vn_ B t')) ↔ (v < -hi ∨ hi < v) := by
        rw [hv, hhi]
        by_cases q : x6 = 0
        · rw [if_pos q]
          simp only [fa_lt, hn, nI_toInt (show vn_ B t' < 2 ^ 31 by omega), nI_toInt (show h0 < 2 ^ 31 by omega), show (0 : Int32).toInt = 0 from rfl]
          omega
        · rw [if_neg q]
          simp only [fa_lt, hn, hn2, nI_toInt (show vn_ B t' < 2 ^ 31 by omega), nI_toInt (show h0 < 2 ^ 31 by omega), show (0 : Int32).toInt = 0 from rfl]
          omega
      refine ⟨_, rfl, ?_, by rw [pq_pim, if_pos ⟨rfl, rfl, rfl⟩], fun r i k hr => ?_⟩
      · have hs' : (if nI (vn_ B t') < 0 ∨ hi < nI (vn_ B t') then nt_ 2 t'.1 s else s) = (if v < -hi ∨ hi < v then nt_ 2 t'.1 s else s) := by
          by_cases q : v < -hi ∨ hi < v
          · rw [if_pos q, if_pos (hc.mpr q)]
          · rw [if_neg q, if_neg (fun z => q (hc.mp z))]
        rw [hs'] at x1
        exact x1.fr rfl (fun r i k q => by rw [pq_pim, if_neg (by omega)])
      · rw [pq_pim, if_neg (by omega), x3 r i k hr]
        exact hF r i k hr
    · intro h2
      rw [n2 h2, pq_sb, pq_let, pq_let, pq_let]
      refine ⟨_, rfl, ?_, fun r i k hr => ?_⟩
      · rw [pq_pim, if_neg (by decide), pq_pim, if_pos ⟨rfl, rfl, rfl⟩]
      · rw [pq_pim, if_neg (by omega), pq_pim, if_neg (by omega)]
        exact hF r i k hr
  unfold sg_ sv_ sg_
  by_cases h3 : t.2.2 = 3
  · rw [if_pos h3, if_pos h3, if_pos (hkk.2.1.mpr h3), pq_let, if_neg (by decide)]
    obtain ⟨m1, e1, x1, x2⟩ := rf_nextR hB h
    rw [e1, pq_sb]
    exact key m1 _ 1 _ x1 (fun r i k hr => x2 r i k (by omega)) (by rw [if_neg (by decide)])
  · rw [if_neg h3, if_neg h3, if_neg (fun q => h3 (hkk.2.1.mp q)), pq_let, if_pos rfl]
    exact key m _ 0 _ h (fun _ _ _ _ => rfl) (by rw [if_pos rfl])
