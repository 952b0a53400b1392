/-! pure: texts: bytes and tokens; B: the bytes, -1 behind the L-th -/
def okB_ (B : Nat → Int32) (L : Nat) : Prop := L ≤ 600 ∧ (∀ k, k < L → ∃ v : Nat, v < 256 ∧ B k = nI v) ∧ ∀ k, L ≤ k → B k = -1
def xt_c (m : ev_m) (B : Nat → Int32) (L : Nat) : Prop := m.1 2 4 1 = nI L ∧ ∀ k, k < L → m.1 11 4 k &&& 255 = B k
def xt_r (m : ev_m) (B : Nat → Int32) (L : Nat) : Prop := m.1 10 0 11 = nI L ∧ ∀ k, k < L → m.1 30 0 k &&& 255 = B k
def xk_49 (x : Int32) : Int32 := if x = 45 then 3 else if x = 59 then 4 else 6
def xk_35 (x : Int32) : Int32 := if x < 48 then xk_49 x else if 57 < x then xk_49 x else 2
/-- the kind of a byte -/
def xk_ (x : Int32) : Int32 := if x = -1 then 0 else if x = 10 then 5 else if x = 32 then 5 else if x < 97 then xk_35 x else if 122 < x then xk_35 x else 1
theorem xk_c (m : ev_m) (x : Int32) : s_X4_kindOf m x = xk_ x := rfl
theorem xk_tab : ∀ v : Fin 256, (xk_ (nI v.val) ≠ 0) ∧ (xk_ (nI v.val) = 5 ↔ nI v.val = 10 ∨ nI v.val = 32) ∧ (xk_ (nI v.val) = 1 ↔ 97 ≤ v.val ∧ v.val ≤ 122) ∧ (xk_ (nI v.val) = 2 ↔ 48 ≤ v.val ∧ v.val ≤ 57) ∧ (xk_ (nI v.val) = 3 ↔ nI v.val = 45) ∧ (xk_ (nI v.val) = 4 ↔ nI v.val = 59) ∧ (xk_ (nI v.val) = 1 ∨ xk_ (nI v.val) = 2 ∨ xk_ (nI v.val) = 3 ∨ xk_ (nI v.val) = 4 ∨ xk_ (nI v.val) = 5 ∨ xk_ (nI v.val) = 6) := by decide +kernel
theorem xk_m1 : xk_ (-1) = 0 := by decide
theorem xB_cases {B : Nat → Int32} {L : Nat} (hB : okB_ B L) (p : Nat) : (B p = -1 ∧ L ≤ p) ∨ (p < L ∧ ∃ v : Nat, v < 256 ∧ B p = nI v) := by
  by_cases h : p < L
  · exact Or.inr ⟨h, hB.2.1 p h⟩
  · exact Or.inl ⟨hB.2.2 p (by omega), by omega⟩
theorem xk_5 {B : Nat → Int32} {L : Nat} (hB : okB_ B L) (p : Nat) : xk_ (B p) = 5 ↔ B p = 10 ∨ B p = 32 := by
  rcases xB_cases hB p with ⟨h, -⟩ | ⟨-, v, hv, h⟩
  · rw [h]; decide
  · rw [h]; exact (xk_tab ⟨v, hv⟩).2.1
theorem xk_0 {B : Nat → Int32} {L : Nat} (hB : okB_ B L) (p : Nat) : (xk_ (B p) = 0 ↔ B p < 0) ∧ (xk_ (B p) = 0 ↔ L ≤ p) := by
  rcases xB_cases hB p with ⟨h, hl⟩ | ⟨hl, v, hv, h⟩
  · rw [h]
    exact ⟨by decide, ⟨fun _ => hl, fun _ => by decide⟩⟩
  · rw [h]
    exact ⟨⟨fun q => absurd q (xk_tab ⟨v, hv⟩).1, fun q => absurd q (nI_pos (by omega))⟩, ⟨fun q => absurd q (xk_tab ⟨v, hv⟩).1, fun q => by omega⟩⟩
theorem xk_1 {B : Nat → Int32} {L : Nat} (hB : okB_ B L) (m : ev_m) (p : Nat) : xk_ (B p) = 1 ↔ s_X10_in m (B p) 97 122 = true := by
  rcases xB_cases hB p with ⟨h, hl⟩ | ⟨hl, v, hv, h⟩
  · rw [h]
    exact ⟨fun q => absurd q (by decide), fun q => absurd q (by show ¬ s_X10_in m (-1) 97 122 = true; unfold s_X10_in; decide)⟩
  · rw [h]
    refine (xk_tab ⟨v, hv⟩).2.2.1.trans ⟨fun q => in_T (a := 97) (b := 122) q.1 q.2 (by decide), fun q => ?_⟩
    obtain ⟨n, h1, h2, e⟩ := in_F (a := 97) (b := 122) (by decide) (by decide) q
    have := (nI_eq (by omega) (by omega)).mp e
    subst this
    exact ⟨h1, h2⟩
theorem xk_2 {B : Nat → Int32} {L : Nat} (hB : okB_ B L) (m : ev_m) (p : Nat) : xk_ (B p) = 2 ↔ s_X10_in m (B p) 48 57 = true := by
  rcases xB_cases hB p with ⟨h, hl⟩ | ⟨hl, v, hv, h⟩
  · rw [h]
    exact ⟨fun q => absurd q (by decide), fun q => absurd q (by show ¬ s_X10_in m (-1) 48 57 = true; unfold s_X10_in; decide)⟩
  · rw [h]
    refine (xk_tab ⟨v, hv⟩).2.2.2.1.trans ⟨fun q => in_T (a := 48) (b := 57) q.1 q.2 (by decide), fun q => ?_⟩
    obtain ⟨n, h1, h2, e⟩ := in_F (a := 48) (b := 57) (by decide) (by decide) q
    have := (nI_eq (by omega) (by omega)).mp e
    subst this
    exact ⟨h1, h2⟩
/-- a run of one kind -/
def xr_ (B : Nat → Int32) (k : Int32) : Nat → Nat → Nat
  | 0, p => p
  | n + 1, p => if xk_ (B p) = k then xr_ B k n (p + 1) else p
theorem xr_ge (B : Nat → Int32) (k : Int32) : ∀ n p, p ≤ xr_ B k n p ∧ xr_ B k n p ≤ p + n
  | 0, p => ⟨Nat.le_refl _, Nat.le_refl _⟩
  | n + 1, p => by
    have := xr_ge B k n (p + 1)
    rw [xr_]
    split <;> omega
theorem xr_in (B : Nat → Int32) (k : Int32) : ∀ n p i, p ≤ i → i < xr_ B k n p → xk_ (B i) = k
  | 0, p, i, h1, h2 => by rw [xr_] at h2; omega
  | n + 1, p, i, h1, h2 => by
    rw [xr_] at h2
    split at h2
    · rename_i hk
      by_cases e : i = p
      · rw [e]; exact hk
      · exact xr_in B k n (p + 1) i (by omega) h2
    · omega
theorem xr_out {B : Nat → Int32} {k : Int32} {L : Nat} (hB : okB_ B L) (hk : k ≠ 0) : ∀ n p, p + n = L ∨ (n = 0 ∧ L ≤ p) → xk_ (B (xr_ B k n p)) ≠ k
  | 0, p, h => by
    rw [xr_, ((xk_0 hB p).2.mpr (by omega))]
    exact fun e => hk e.symm
  | n + 1, p, h => by
    rw [xr_]
    split
    · exact xr_out hB hk n (p + 1) (by omega)
    · assumption
def xn_0 (B : Nat → Int32) (L e : Nat) : Nat := xr_ B 5 (L - e) e
def xn_q (B : Nat → Int32) (L p : Nat) (k : Int32) : Nat := xr_ B k (L - (p + 1)) (p + 1)
/-- the token that begins at p: its first byte, the byte behind it, its kind -/
def xn_p (B : Nat → Int32) (L p : Nat) : Nat × Nat × Int32 := (p, if xk_ (B p) = 0 then p else if xk_ (B p) = 1 ∨ xk_ (B p) = 2 then xn_q B L p (xk_ (B p)) else p + 1, if xk_ (B p) = 2 ∧ 4 < xn_q B L p 2 - p then 6 else xk_ (B p))
/-- the token behind e -/
def xn_ (B : Nat → Int32) (L e : Nat) : Nat × Nat × Int32 := xn_p B L (xn_0 B L e)
def xw_ (B : Nat → Int32) (p : Nat) : Nat → Nat
  | 0 => 0
  | n + 1 => 256 * xw_ B p n + (B (p + n)).toNatClampNeg
def xv_ (B : Nat → Int32) (p : Nat) : Nat → Nat
  | 0 => 0
  | n + 1 => 10 * xv_ B p n + ((B (p + n)).toNatClampNeg - 48)
/-- the byte, in the class, in the reference -/
theorem cl_byteAt {m : ev_m} {B : Nat → Int32} {L p : Nat} (h : xt_c m B L) (hB : okB_ B L) (hp : p < 2 ^ 20) : f_X6_byteAt m 4 (nI p) = some (B p) := by
  unfold f_X6_byteAt
  rw [if_neg (nI_pos (by omega)), h.1]
  by_cases hl : p < L
  · rw [if_pos (nI_lt hl (by have := hB.1; omega)), if_pos (show nI p < 600 from nI_lt (b := 600) (by have := hB.1; omega) (by decide)), pq_ald (by have := hB.1; omega) (by decide), pq_sb, h.2 p hl]
  · rw [if_neg (nI_nlt (by omega) (by omega)), hB.2.2 p (by omega)]
theorem rf_see {m : ev_m} {B : Nat → Int32} {L p : Nat} (h : xt_r m B L) (hB : okB_ B L) (hp : p < 2 ^ 20) (h10 : m.1 10 0 10 = nI p) : f_X10_see m 0 = some (B p) := by
  unfold f_X10_see
  rw [h10, h.1]
  by_cases hl : p < L
  · rw [if_pos (nI_lt hl (by have := hB.1; omega)), pq_ald (by have := hB.1; omega) (by decide), pq_sb, h.2 p hl]
  · rw [if_neg (nI_nlt (by omega) (by omega)), hB.2.2 p (by omega)]
theorem pim_pim (m : ev_m) (r i j : Nat) (x y : Int32) : ev_pim (ev_pim m r i j x) r i j y = ev_pim m r i j y := by
  unfold ev_pim
  refine Prod.ext ?_ rfl
  funext a b c
  unfold ev_u
  try dsimp only
  split <;> rfl
theorem xt_c.pim {m : ev_m} {B : Nat → Int32} {L j : Nat} {x : Int32} (h : xt_c m B L) : xt_c (ev_pim m 7 0 j x) B L := ⟨by rw [pq_pim, if_neg (by omega)]; exact h.1, fun k hk => by rw [pq_pim, if_neg (by omega)]; exact h.2 k hk⟩
/-- the class's blanks -/
theorem cl_skip_l {B : Nat → Int32} {L : Nat} {kx : ev_m → Option ev_m} (hB : okB_ B L) : ∀ n f m p, p + n = L ∨ (n = 0 ∧ L ≤ p) → p < 2 ^ 19 → n < f → xt_c m B L → m.1 7 0 9 = nI p → lp_X4_next_0 0 f m kx = kx (ev_pim m 7 0 9 (nI (xr_ B 5 n p))) := by
  intro n
  have hL := hB.1
  induction n with
  | zero =>
    intro f m p hp hp2 hf ht h9
    obtain ⟨g, rfl⟩ : ∃ g, f = g + 1 := ⟨f - 1, by omega⟩
    have e : ev_pim m 7 0 9 (nI (xr_ B 5 0 p)) = m := by
      unfold ev_pim
      refine Prod.ext ?_ rfl
      funext a b c
      unfold ev_u
      try dsimp only
      split
      · rename_i q
        rw [q.1, q.2.1, q.2.2, h9]
        rfl
      · rfl
    rw [lp_X4_next_0, h9, ht.1, if_neg (nI_nlt (by omega) (by omega)), e]
  | succ n ih =>
    intro f m p hp hp2 hf ht h9
    obtain ⟨g, rfl⟩ : ∃ g, f = g + 1 := ⟨f - 1, by omega⟩
    rw [lp_X4_next_0, h9, ht.1, if_pos (nI_lt (by omega) (by omega)), cl_byteAt ht hB (by omega), pq_sb, xk_c, xr_]
    by_cases h : xk_ (B p) = 5
    · rw [if_pos h, if_pos h, pq_let, nI_1, ih g _ (p + 1) (by omega) (by omega) (by omega) ht.pim (by rw [pq_pim, if_pos ⟨rfl, rfl, rfl⟩]), pim_pim]
    · rw [if_neg h, if_neg h]
      have e : ev_pim m 7 0 9 (nI p) = m := by
        unfold ev_pim
        refine Prod.ext ?_ rfl
        funext a b c
        unfold ev_u
        try dsimp only
        split
        · rename_i q
          rw [q.1, q.2.1, q.2.2, h9]
        · rfl
      rw [e]
/-- the class's rows of letters, of digits -/
theorem cl_row_l {B : Nat → Int32} {L : Nat} {k : Int32} {kx : ev_m → Option ev_m} (hB : okB_ B L) : ∀ n f m p, p + n = L ∨ (n = 0 ∧ L ≤ p) → p < 2 ^ 19 → n < f → xt_c m B L → m.1 7 0 9 = nI p → m.1 7 0 7 = k → lp_X4_next_111 0 1 f m kx = kx (ev_pim m 7 0 9 (nI (xr_ B k n p))) := by
  intro n
  have hL := hB.1
  have hself : ∀ (m : ev_m) p, m.1 7 0 9 = nI p → ev_pim m 7 0 9 (nI p) = m := by
    intro m p h9
    unfold ev_pim
    refine Prod.ext ?_ rfl
    funext a b c
    unfold ev_u
    try dsimp only
    split
    · rename_i q
      rw [q.1, q.2.1, q.2.2, h9]
    · rfl
  induction n with
  | zero =>
    intro f m p hp hp2 hf ht h9 h7
    obtain ⟨g, rfl⟩ : ∃ g, f = g + 1 := ⟨f - 1, by omega⟩
    rw [lp_X4_next_111, if_neg (by decide), h9, ht.1, if_neg (nI_nlt (by omega) (by omega)), xr_, hself m p h9]
  | succ n ih =>
    intro f m p hp hp2 hf ht h9 h7
    obtain ⟨g, rfl⟩ : ∃ g, f = g + 1 := ⟨f - 1, by omega⟩
    rw [lp_X4_next_111, if_neg (by decide), h9, ht.1, if_pos (nI_lt (by omega) (by omega)), cl_byteAt ht hB (by omega), pq_sb, xk_c, h7, xr_]
    by_cases h : xk_ (B p) = k
    · rw [if_pos h, if_pos h, pq_let, nI_1, ih g _ (p + 1) (by omega) (by omega) (by omega) ht.pim (by rw [pq_pim, if_pos ⟨rfl, rfl, rfl⟩]) (by rw [pq_pim, if_neg (by decide)]; exact h7), pim_pim]
    · rw [if_neg h, if_neg h, hself m p h9]
/-- where the reading stands, in the class -/
def xs_c (m : ev_m) (t : Nat × Nat × Int32) : Prop := m.1 7 0 8 = nI t.1 ∧ m.1 7 0 9 = nI t.2.1 ∧ m.1 7 0 7 = t.2.2
def xF_c (m m' : ev_m) : Prop := (∀ r i k, ¬ (r = 7 ∧ i = 0 ∧ (k = 7 ∨ k = 8 ∨ k = 9)) → m'.1 r i k = m.1 r i k)
theorem xk_of {B : Nat → Int32} {L : Nat} (hB : okB_ B L) (p : Nat) : xk_ (B p) = 0 ∨ xk_ (B p) = 1 ∨ xk_ (B p) = 2 ∨ xk_ (B p) = 3 ∨ xk_ (B p) = 4 ∨ xk_ (B p) = 5 ∨ xk_ (B p) = 6 := by
  rcases xB_cases hB p with ⟨h, hl⟩ | ⟨hl, v, hv, h⟩
  · rw [h]
    exact Or.inl xk_m1
  · rw [h]
    exact Or.inr (xk_tab ⟨v, hv⟩).2.2.2.2.2.2
theorem xn_bp {B : Nat → Int32} {L p : Nat} (hB : okB_ B L) (hp : p ≤ L) : p ≤ (xn_p B L p).2.1 ∧ (xn_p B L p).2.1 ≤ L ∧ ((xn_p B L p).2.2 ≠ 0 → p < (xn_p B L p).2.1) := by
  have h2 := (xk_0 hB p).2
  unfold xn_p
  try dsimp only
  generalize hk : xk_ (B p) = k at *
  have h3 := xr_ge B k (L - (p + 1)) (p + 1)
  by_cases h0 : k = 0
  · rw [if_pos h0]
    have : ¬ (k = 2 ∧ 4 < xn_q B L p 2 - p) := fun q => by rw [h0] at q; exact absurd q.1 (by decide)
    rw [if_neg this]
    exact ⟨Nat.le_refl _, hp, fun q => absurd h0 q⟩
  · rw [if_neg h0]
    have hl : ¬ L ≤ p := fun q => h0 (h2.mpr q)
    have h4 : xn_q B L p k = xr_ B k (L - (p + 1)) (p + 1) := rfl
    rw [h4]
    split <;> omega
theorem xn_0le {B : Nat → Int32} {L e : Nat} (he : e ≤ L) : e ≤ xn_0 B L e ∧ xn_0 B L e ≤ L := by
  have := xr_ge B 5 (L - e) e
  unfold xn_0
  omega
theorem xn_0k {B : Nat → Int32} {L e : Nat} (hB : okB_ B L) (he : e ≤ L) : xk_ (B (xn_0 B L e)) ≠ 5 := xr_out hB (by decide) (L - e) e (by omega)
theorem xn_bd {B : Nat → Int32} {L e : Nat} (hB : okB_ B L) (he : e ≤ L) : e ≤ (xn_ B L e).1 ∧ (xn_ B L e).1 ≤ (xn_ B L e).2.1 ∧ (xn_ B L e).2.1 ≤ L ∧ ((xn_ B L e).2.2 ≠ 0 → (xn_ B L e).1 < (xn_ B L e).2.1) := by
  obtain ⟨h1, h2⟩ := xn_0le (B := B) he
  obtain ⟨g1, g2, g3⟩ := xn_bp (p := xn_0 B L e) hB h2
  exact ⟨h1, g1, g2, g3⟩
theorem cl_next_p {m : ev_m} {B : Nat → Int32} {L p : Nat} (hB : okB_ B L) (ht : xt_c m B L) (hp : p ≤ L) (h9 : m.1 7 0 9 = nI p) : ∃ m', jn_X4_next_45 m 0 = some m' ∧ xs_c m' (xn_p B L p) ∧ xt_c m' B L ∧ m'.2 = m.2 ∧ xF_c m m' := by
  have hL := hB.1
  have h0 := (xk_0 hB p).2
  unfold jn_X4_next_45
  rw [pq_let, show (ev_pim m 7 0 8 (m.1 7 0 9)).1 7 0 8 = nI p by rw [pq_pim, if_pos ⟨rfl, rfl, rfl⟩]; exact h9, cl_byteAt ht.pim hB (by omega), pq_sb, xk_c, pq_let, show ∀ x, (ev_pim (ev_pim m 7 0 8 (m.1 7 0 9)) 7 0 7 x).1 7 0 7 = x from fun x => by rw [pq_pim, if_pos ⟨rfl, rfl, rfl⟩], h9]
  unfold xn_p
  generalize hk : xk_ (B p) = k at *
  by_cases k0 : k = 0
  · rw [if_pos k0]
    refine ⟨_, rfl, ⟨?_, ?_, ?_⟩, ht.pim.pim, rfl, fun r i j h => ?_⟩
    · rw [pq_pim, if_neg (by decide), pq_pim, if_pos ⟨rfl, rfl, rfl⟩]
    · rw [pq_pim, if_neg (by decide), pq_pim, if_neg (by decide), h9]
      try dsimp only
      rw [if_pos k0]
    · rw [pq_pim, if_pos ⟨rfl, rfl, rfl⟩]
      try dsimp only
      rw [if_neg (fun q => by rw [k0] at q; exact absurd q.1 (by decide))]
    · rw [pq_pim, if_neg (by omega), pq_pim, if_neg (by omega)]
  · rw [if_neg k0, pq_let, show (ev_pim (ev_pim m 7 0 8 (nI p)) 7 0 7 k).1 7 0 9 = nI p by rw [pq_pim, if_neg (by decide), pq_pim, if_neg (by decide)]; exact h9, nI_1, pq_let]
    have hl : p < L := by
      apply Nat.lt_of_not_le
      intro q
      exact k0 (h0.mpr q)
    have g9 : (ev_pim (ev_pim (ev_pim m 7 0 8 (nI p)) 7 0 7 k) 7 0 9 (nI (p + 1))).1 7 0 9 = nI (p + 1) := by rw [pq_pim, if_pos ⟨rfl, rfl, rfl⟩]
    have g7 : (ev_pim (ev_pim (ev_pim m 7 0 8 (nI p)) 7 0 7 k) 7 0 9 (nI (p + 1))).1 7 0 7 = k := by rw [pq_pim, if_neg (by decide), pq_pim, if_pos ⟨rfl, rfl, rfl⟩]
    by_cases k12 : k = 1 ∨ k = 2
    · have hq := xr_ge B k (L - (p + 1)) (p + 1)
      have eq : xn_q B L p k = xr_ B k (L - (p + 1)) (p + 1) := rfl
      rw [show (if k = 1 then 1 else if k = 2 then 1 else 0 : Int32) = 1 by
        rcases k12 with q | q <;> rw [q] <;> rfl, cl_row_l hB (L - (p + 1)) 4000 _ (p + 1) (by omega) (by omega) (by omega) ht.pim.pim.pim g9 g7, pim_pim, ← eq]
      rw [← eq] at hq
      generalize hqq : xn_q B L p k = q at *
      unfold jn_X4_next_163
      rw [show (ev_pim (ev_pim (ev_pim m 7 0 8 (nI p)) 7 0 7 k) 7 0 9 (nI q)).1 7 0 7 = k by rw [pq_pim, if_neg (by decide), pq_pim, if_pos ⟨rfl, rfl, rfl⟩], show (ev_pim (ev_pim (ev_pim m 7 0 8 (nI p)) 7 0 7 k) 7 0 9 (nI q)).1 7 0 9 = nI q by rw [pq_pim, if_pos ⟨rfl, rfl, rfl⟩], show (ev_pim (ev_pim (ev_pim m 7 0 8 (nI p)) 7 0 7 k) 7 0 9 (nI q)).1 7 0 8 = nI p by rw [pq_pim, if_neg (by decide), pq_pim, if_neg (by decide), pq_pim, if_pos ⟨rfl, rfl, rfl⟩], pk_sub (by omega)]
      by_cases k2 : k = 2
      · subst k2
        rw [if_pos rfl]
        by_cases h4 : 4 < q - p
        · rw [if_pos (show 4 < nI (q - p) from nI_lt (a := 4) h4 (by omega)), pq_let]
          refine ⟨_, rfl, ⟨?_, ?_, ?_⟩, ht.pim.pim.pim.pim, rfl, fun r i j h => ?_⟩
          · rw [pq_pim, if_neg (by decide), pq_pim, if_neg (by decide), pq_pim, if_neg (by decide), pq_pim, if_pos ⟨rfl, rfl, rfl⟩]
          · rw [pq_pim, if_neg (by decide), pq_pim, if_pos ⟨rfl, rfl, rfl⟩]
            try dsimp only
            rw [if_neg (by decide), if_pos (Or.inr rfl)]
          · rw [pq_pim, if_pos ⟨rfl, rfl, rfl⟩]
            try dsimp only
            rw [hqq, if_pos ⟨rfl, h4⟩]
          · rw [pq_pim, if_neg (by omega), pq_pim, if_neg (by omega), pq_pim, if_neg (by omega), pq_pim, if_neg (by omega)]
        · rw [if_neg (show ¬ 4 < nI (q - p) from nI_nlt (a := 4) (by omega) (by decide))]
          refine ⟨_, rfl, ⟨?_, ?_, ?_⟩, ht.pim.pim.pim, rfl, fun r i j h => ?_⟩
          · rw [pq_pim, if_neg (by decide), pq_pim, if_neg (by decide), pq_pim, if_pos ⟨rfl, rfl, rfl⟩]
          · rw [pq_pim, if_pos ⟨rfl, rfl, rfl⟩]
            try dsimp only
            rw [if_neg (by decide), if_pos (Or.inr rfl)]
          · rw [pq_pim, if_neg (by decide), pq_pim, if_pos ⟨rfl, rfl, rfl⟩]
            try dsimp only
            rw [hqq, if_neg (fun z => h4 z.2)]
          · rw [pq_pim, if_neg (by omega), pq_pim, if_neg (by omega), pq_pim, if_neg (by omega)]
      · rw [if_neg k2]
        refine ⟨_, rfl, ⟨?_, ?_, ?_⟩, ht.pim.pim.pim, rfl, fun r i j h => ?_⟩
        · rw [pq_pim, if_neg (by decide), pq_pim, if_neg (by decide), pq_pim, if_pos ⟨rfl, rfl, rfl⟩]
        · rw [pq_pim, if_pos ⟨rfl, rfl, rfl⟩]
          try dsimp only
          rw [if_neg k0, if_pos k12]
        · rw [pq_pim, if_neg (by decide), pq_pim, if_pos ⟨rfl, rfl, rfl⟩]
          try dsimp only
          rw [if_neg (fun z => k2 z.1)]
        · rw [pq_pim, if_neg (by omega), pq_pim, if_neg (by omega), pq_pim, if_neg (by omega)]
    · have k1 : k ≠ 1 := fun q => k12 (Or.inl q)
      have k2 : k ≠ 2 := fun q => k12 (Or.inr q)
      rw [if_neg k1, if_neg k2, lp_X4_next_111, if_pos rfl]
      unfold jn_X4_next_163
      rw [g7, if_neg k2]
      refine ⟨_, rfl, ⟨?_, ?_, ?_⟩, ht.pim.pim.pim, rfl, fun r i j h => ?_⟩
      · rw [pq_pim, if_neg (by decide), pq_pim, if_neg (by decide), pq_pim, if_pos ⟨rfl, rfl, rfl⟩]
      · rw [pq_pim, if_pos ⟨rfl, rfl, rfl⟩]
        try dsimp only
        rw [if_neg k0, if_neg k12]
      · rw [pq_pim, if_neg (by decide), pq_pim, if_pos ⟨rfl, rfl, rfl⟩]
        try dsimp only
        rw [if_neg (fun z => k2 z.1)]
      · rw [pq_pim, if_neg (by omega), pq_pim, if_neg (by omega), pq_pim, if_neg (by omega)]
/-- next -/
theorem cl_next {m : ev_m} {B : Nat → Int32} {L e : Nat} (hB : okB_ B L) (ht : xt_c m B L) (he : e ≤ L) (h9 : m.1 7 0 9 = nI e) : ∃ m', f_X4_next m 0 = some m' ∧ xs_c m' (xn_ B L e) ∧ xt_c m' B L ∧ m'.2 = m.2 ∧ xF_c m m' := by
  have hL := hB.1
  obtain ⟨h1, h2⟩ := xn_0le (B := B) he
  unfold f_X4_next
  rw [h9, ht.1]
  by_cases hl : e < L
  · rw [if_pos (nI_lt hl (by omega)), cl_byteAt ht hB (by omega), pq_sb, xk_c]
    by_cases h5 : xk_ (B e) = 5
    · have hx : xn_0 B L e = xr_ B 5 (L - (e + 1)) (e + 1) := by
        unfold xn_0
        rw [show L - e = L - (e + 1) + 1 by omega, xr_, if_pos h5]
      rw [if_pos h5, pq_let, nI_1, cl_skip_l hB (L - (e + 1)) 4000 _ (e + 1) (by omega) (by omega) (by omega) ht.pim (by rw [pq_pim, if_pos ⟨rfl, rfl, rfl⟩]), pim_pim, ← hx]
      obtain ⟨m', e1, x1, x2, x3, x4⟩ := cl_next_p hB (ht.pim (j := 9) (x := nI (xn_0 B L e))) h2 (by rw [pq_pim, if_pos ⟨rfl, rfl, rfl⟩])
      refine ⟨m', e1, x1, x2, x3, fun r i j h => ?_⟩
      rw [x4 r i j h, pq_pim, if_neg (by omega)]
    · have hx : xn_0 B L e = e := by
        unfold xn_0
        rw [show L - e = L - (e + 1) + 1 by omega, xr_, if_neg h5]
      rw [if_neg h5]
      unfold xn_
      rw [hx]
      exact cl_next_p hB ht he h9
  · have hx : xn_0 B L e = e := by
      unfold xn_0
      rw [show L - e = 0 by omega, xr_]
    rw [if_neg (nI_nlt (by omega) (by omega))]
    unfold xn_
    rw [hx]
    exact cl_next_p hB ht he h9
/-- kinds, as the reference tells them -/
def kr_ (k : Int32) : Int32 := if k = 0 then 0 else if k = 1 then 2 else if k = 2 then 3 else if k = 3 then 5 else if k = 4 then 4 else 1
def xs_r (m : ev_m) (B : Nat → Int32) (t : Nat × Nat × Int32) : Prop := m.1 10 0 12 = nI t.1 ∧ m.1 10 0 10 = nI t.2.1 ∧ m.1 10 0 13 = kr_ t.2.2 ∧ (t.2.2 = 2 → m.1 10 0 14 = nI (xv_ B t.1 (t.2.1 - t.1))) ∧ (t.2.2 = 1 → m.2.1 10 0 15 = if 8 < t.2.1 - t.1 then 0 else lN (xw_ B t.1 (t.2.1 - t.1)))
def xF_r (m m' : ev_m) : Prop := (∀ r i k, ¬ (r = 10 ∧ i = 0 ∧ (k = 10 ∨ k = 12 ∨ k = 13 ∨ k = 14)) → m'.1 r i k = m.1 r i k)
theorem xt_r.pim {m : ev_m} {B : Nat → Int32} {L j : Nat} {x : Int32} (h : xt_r m B L) (hj : j ≠ 11) : xt_r (ev_pim m 10 0 j x) B L := ⟨by rw [pq_pim, if_neg (by omega)]; exact h.1, fun k hk => by rw [pq_pim, if_neg (by omega)]; exact h.2 k hk⟩
theorem xt_r.plm {m : ev_m} {B : Nat → Int32} {L j : Nat} {x : Int64} (h : xt_r m B L) : xt_r (ev_plm m 10 0 j x) B L := h
theorem xw_shl (a : Nat) : lN a <<< ((8 : Int32).toInt64 &&& 63) = lN (2 ^ 8 * a) := by
  rw [show ((8 : Int32).toInt64 &&& 63) = (8 : Int64) by decide]
  apply Int64.toBitVec_inj.1
  rw [Int64.toBitVec_shiftLeft, show (8 : Int64).toBitVec.smod 64 = 8#64 by decide]
  show BitVec.ofNat 64 a <<< 8#64 = BitVec.ofNat 64 (2 ^ 8 * a)
  apply BitVec.eq_of_toNat_eq
  rw [BitVec.shiftLeft_eq', BitVec.toNat_shiftLeft, BitVec.toNat_ofNat, BitVec.toNat_ofNat, Nat.shiftLeft_eq, BitVec.toNat_ofNat, show (8 % 2 ^ 64 : Nat) = 8 from rfl]
  omega
theorem xB_v {B : Nat → Int32} {L p : Nat} (hB : okB_ B L) (hk : xk_ (B p) ≠ 0) : p < L ∧ ∃ v : Nat, v < 256 ∧ B p = nI v := by
  rcases xB_cases hB p with ⟨h, hl⟩ | h
  · exact absurd ((xk_0 hB p).2.mpr hl) hk
  · exact h
/-- letters -/
theorem rf_letters {B : Nat → Int32} {L p : Nat} {K : Int32 → ev_m → Option ev_m} (hB : okB_ B L) (hp : p ≤ L) : ∀ n f i m, p + i + n = L ∨ (n = 0 ∧ L ≤ p + i) → p + i ≤ L → n < f → xt_r m B L → m.1 10 0 10 = nI (p + i) → (i ≤ 8 → m.2.1 10 0 15 = lN (xw_ B p i)) →
    ∃ m', lp_X10_token_74 0 f (nI i) m K = K (nI (xr_ B 1 n (p + i) - p)) m' ∧ xt_r m' B L ∧ m'.1 10 0 10 = nI (xr_ B 1 n (p + i)) ∧ (xr_ B 1 n (p + i) - p ≤ 8 → m'.2.1 10 0 15 = lN (xw_ B p (xr_ B 1 n (p + i) - p))) ∧ (∀ r i k, ¬ (r = 10 ∧ i = 0 ∧ k = 10) → m'.1 r i k = m.1 r i k) := by
  intro n
  have hL := hB.1
  induction n with
  | zero =>
    intro f i m hi hi2 hf ht h10 hw
    obtain ⟨g, rfl⟩ : ∃ g, f = g + 1 := ⟨f - 1, by omega⟩
    have hno : ¬ s_X10_in m (B (p + i)) 97 122 = true := fun q => absurd ((xk_1 hB m _).mpr q) (xr_out (k := 1) hB (by decide) 0 (p + i) (by omega))
    rw [lp_X10_token_74, rf_see ht hB (by omega) h10, pq_sb, if_neg hno, xr_, show p + i - p = i by omega]
    exact ⟨m, rfl, ht, h10, hw, fun _ _ _ _ => rfl⟩
  | succ n ih =>
    intro f i m hi hi2 hf ht h10 hw
    obtain ⟨g, rfl⟩ : ∃ g, f = g + 1 := ⟨f - 1, by omega⟩
    rw [lp_X10_token_74, rf_see ht hB (by omega) h10, pq_sb, xr_]
    by_cases h : xk_ (B (p + i)) = 1
    · obtain ⟨hl, v, hv, ev⟩ := xB_v (p := p + i) hB (by rw [h]; decide)
      rw [if_pos ((xk_1 hB m _).mp h), if_pos h, pq_sb, pq_let, pq_let, show ∀ w, (ev_plm m 10 0 15 w).1 10 0 10 = nI (p + i) from fun _ => h10, nI_1, nI_1]
      obtain ⟨m', e, x1, x2, x3, x4⟩ := ih g (i + 1) (ev_pim (ev_plm m 10 0 15 ((m.2.1 10 0 15 <<< ((8 : Int32).toInt64 &&& 63)) ||| (B (p + i)).toInt64)) 10 0 10 (nI (p + i + 1))) (by omega) (by omega) (by omega) (ht.plm.pim (by decide)) (by rw [pq_pim, if_pos ⟨rfl, rfl, rfl⟩]; rfl) (fun h8 => by
        show (ev_plm m 10 0 15 _).2.1 10 0 15 = _
        rw [pq_plml, if_pos ⟨rfl, rfl, rfl⟩, hw (by omega), xw_shl, ev, nI_l (by omega), fb_or_sumL _ (by omega), xw_, ev, nI_clamp (by omega)])
      refine ⟨m', e, x1, x2, x3, fun r j k hr => ?_⟩
      rw [x4 r j k hr, pq_pim, if_neg hr]
      rfl
    · rw [if_neg (fun q => h ((xk_1 hB m _).mpr q)), if_neg h, show p + i - p = i by omega]
      exact ⟨m, rfl, ht, h10, hw, fun _ _ _ _ => rfl⟩
/-- digits -/
theorem rf_digits {B : Nat → Int32} {L p : Nat} {K : Int32 → ev_m → Option ev_m} (hB : okB_ B L) (hp : p ≤ L) : ∀ n f i m, p + i + n = L ∨ (n = 0 ∧ L ≤ p + i) → p + i ≤ L → n < f → xt_r m B L → m.1 10 0 10 = nI (p + i) → m.1 10 0 14 = nI (xv_ B p (min i 4)) →
    ∃ m', lp_X10_token_163 0 f (nI i) m K = K (nI (xr_ B 2 n (p + i) - p)) m' ∧ xt_r m' B L ∧ m'.1 10 0 10 = nI (xr_ B 2 n (p + i)) ∧ m'.1 10 0 14 = nI (xv_ B p (min (xr_ B 2 n (p + i) - p) 4)) ∧ m'.2 = m.2 ∧ (∀ r i k, ¬ (r = 10 ∧ i = 0 ∧ (k = 10 ∨ k = 14)) → m'.1 r i k = m.1 r i k) := by
  intro n
  have hL := hB.1
  induction n with
  | zero =>
    intro f i m hi hi2 hf ht h10 hw
    obtain ⟨g, rfl⟩ : ∃ g, f = g + 1 := ⟨f - 1, by omega⟩
    have hno : ¬ s_X10_in m (B (p + i)) 48 57 = true := fun q => absurd ((xk_2 hB m _).mpr q) (xr_out (k := 2) hB (by decide) 0 (p + i) (by omega))
    rw [lp_X10_token_163, rf_see ht hB (by omega) h10, pq_sb, if_neg hno, xr_, show p + i - p = i by omega]
    exact ⟨m, rfl, ht, h10, hw, rfl, fun _ _ _ _ => rfl⟩
  | succ n ih =>
    intro f i m hi hi2 hf ht h10 hw
    obtain ⟨g, rfl⟩ : ∃ g, f = g + 1 := ⟨f - 1, by omega⟩
    rw [lp_X10_token_163, rf_see ht hB (by omega) h10, pq_sb, xr_]
    by_cases h : xk_ (B (p + i)) = 2
    · obtain ⟨hl, v, hv, ev⟩ := xB_v (p := p + i) hB (by rw [h]; decide)
      have hv2 : 48 ≤ v ∧ v ≤ 57 := by
        rw [ev] at h
        exact (xk_tab ⟨v, hv⟩).2.2.2.1.mp h
      have hstep : ∀ x, x = nI (xv_ B p (min (i + 1) 4)) → ∃ m', jn_X10_token_205_163 m 0 (nI i) x 0 (fun z0 z1 => lp_X10_token_163 0 g z0 z1 K) K = K (nI (xr_ B 2 n (p + i + 1) - p)) m' ∧ xt_r m' B L ∧ m'.1 10 0 10 = nI (xr_ B 2 n (p + i + 1)) ∧ m'.1 10 0 14 = nI (xv_ B p (min (xr_ B 2 n (p + i + 1) - p) 4)) ∧ m'.2 = m.2 ∧ (∀ r i k, ¬ (r = 10 ∧ i = 0 ∧ (k = 10 ∨ k = 14)) → m'.1 r i k = m.1 r i k) := by
        intro x hx
        subst hx
        unfold jn_X10_token_205_163
        rw [pq_let, pq_let, show ∀ w, (ev_pim m 10 0 14 w).1 10 0 10 = nI (p + i) from fun _ => by rw [pq_pim, if_neg (by decide)]; exact h10, nI_1, nI_1]
        obtain ⟨m', e, x1, x2, x3, x4, x5⟩ := ih g (i + 1) (ev_pim (ev_pim m 10 0 14 (nI (xv_ B p (min (i + 1) 4)))) 10 0 10 (nI (p + i + 1))) (by omega) (by omega) (by omega) ((ht.pim (by decide)).pim (by decide)) (by rw [pq_pim, if_pos ⟨rfl, rfl, rfl⟩]; rfl) (by rw [pq_pim, if_neg (by decide), pq_pim, if_pos ⟨rfl, rfl, rfl⟩])
        refine ⟨m', e, x1, x2, x3, x4, fun r j k hr => ?_⟩
        rw [x5 r j k hr, pq_pim, if_neg (by omega), pq_pim, if_neg (by omega)]
      rw [if_pos ((xk_2 hB m _).mp h), if_pos h]
      by_cases h4 : i < 4
      · rw [if_pos (show nI i < 4 from nI_lt (b := 4) h4 (by decide)), pq_sb]
        refine hstep _ ?_
        rw [hw, show min i 4 = i by omega, show min (i + 1) 4 = i + 1 by omega, ev, show (10 : Int32) = nI 10 from rfl, pk_mul, nI_add, show (48 : Int32) = nI 48 from rfl, pk_sub (by omega), xv_, ev, nI_clamp (by omega), show 10 * xv_ B p i + v - 48 = 10 * xv_ B p i + (v - 48) by omega]
      · rw [if_neg (show ¬ nI i < 4 from nI_nlt (b := 4) (by omega) (by omega))]
        refine hstep _ ?_
        rw [hw, show min i 4 = 4 by omega, show min (i + 1) 4 = 4 by omega]
    · rw [if_neg (fun q => h ((xk_2 hB m _).mpr q)), if_neg h, show p + i - p = i by omega]
      exact ⟨m, rfl, ht, h10, hw, rfl, fun _ _ _ _ => rfl⟩
def RT_ (m : ev_m) : Option ev_m := ev_let (ev_pim m 10 0 12 (m.1 10 0 10)) (fun m62 => (f_X10_see m62 0).bind (fun x63 => ev_let (ev_plm m62 10 0 15 0) (fun m64 => (if x63 < 0 then ev_let (ev_pim m64 10 0 13 0) (fun m91 => (some (m91))) else (if (s_X10_in m64 x63 97 122) = true then (lp_X10_token_74 0 4000 0 m64 (fun x85 m86 => ev_let (if 8 < x85 then 0 else (m86.2.1 10 0 15) : Int64) (fun y88 => ev_let (ev_plm m86 10 0 15 y88) (fun m89 => ev_let (ev_pim m89 10 0 13 2) (fun m90 => (some (m90))))))) else (if (s_X10_in m64 x63 48 57) = true then ev_let (ev_pim m64 10 0 14 0) (fun m73 => (lp_X10_token_163 0 4000 0 m73 (fun x77 m78 => ev_let (if 4 < x77 then 1 else 3 : Int32) (fun x80 => ev_let (ev_pim m78 10 0 13 x80) (fun m81 => (some (m81))))))) else ev_let (ev_pim m64 10 0 10 ((m64.1 10 0 10) + 1)) (fun m68 => ev_let (if x63 = 59 then 4 else (if x63 = 45 then 5 else 1) : Int32) (fun x71 => ev_let (ev_pim m68 10 0 13 x71) (fun m72 => (some (m72)))))))))))
theorem rf_token_p {m : ev_m} {B : Nat → Int32} {L p : Nat} (hB : okB_ B L) (ht : xt_r m B L) (hp : p ≤ L) (h5 : xk_ (B p) ≠ 5) (h10 : m.1 10 0 10 = nI p) : ∃ m', RT_ m = some m' ∧ xs_r m' B (xn_p B L p) ∧ xt_r m' B L ∧ xF_r m m' := by
  have hL := hB.1
  unfold RT_
  rw [pq_let, h10, rf_see (p := p) (ht.pim (by decide)) hB (by omega) (by rw [pq_pim, if_neg (by decide)]; exact h10), pq_sb, pq_let]
  have a10 : (ev_plm (ev_pim m 10 0 12 (nI p)) 10 0 15 0).1 10 0 10 = nI p := by
    show (ev_pim m 10 0 12 (nI p)).1 10 0 10 = _
    rw [pq_pim, if_neg (by decide)]
    exact h10
  have a12 : (ev_plm (ev_pim m 10 0 12 (nI p)) 10 0 15 0).1 10 0 12 = nI p := by
    show (ev_pim m 10 0 12 (nI p)).1 10 0 12 = _
    rw [pq_pim, if_pos ⟨rfl, rfl, rfl⟩]
  have aF : ∀ r i k, ¬ (r = 10 ∧ i = 0 ∧ k = 12) → (ev_plm (ev_pim m 10 0 12 (nI p)) 10 0 15 0).1 r i k = m.1 r i k := fun r i k h => by
    show (ev_pim m 10 0 12 (nI p)).1 r i k = _
    rw [pq_pim, if_neg h]
  have a15 : (ev_plm (ev_pim m 10 0 12 (nI p)) 10 0 15 0).2.1 10 0 15 = 0 := by rw [pq_plml, if_pos ⟨rfl, rfl, rfl⟩]
  have aT : xt_r (ev_plm (ev_pim m 10 0 12 (nI p)) 10 0 15 0) B L := (ht.pim (by decide)).plm
  generalize ev_plm (ev_pim m 10 0 12 (nI p)) 10 0 15 0 = M at *
  have h0 := xk_0 hB p
  have hkk := xk_of hB p
  unfold xn_p
  by_cases k0 : xk_ (B p) = 0
  · rw [if_pos (h0.1.mp k0), pq_let]
    have hne : ¬ (xk_ (B p) = 2 ∧ 4 < xn_q B L p 2 - p) := fun q => by rw [k0] at q; exact absurd q.1 (by decide)
    refine ⟨_, rfl, ⟨?_, ?_, ?_, ?_, ?_⟩, aT.pim (by decide), fun r i k h => ?_⟩
    · rw [pq_pim, if_neg (by decide)]; exact a12
    · rw [pq_pim, if_neg (by decide)]
      try dsimp only
      rw [if_pos k0]
      exact a10
    · rw [pq_pim, if_pos ⟨rfl, rfl, rfl⟩]
      try dsimp only
      rw [if_neg hne, k0]
      rfl
    · intro q
      try dsimp only at q
      rw [if_neg hne, k0] at q
      exact absurd q (by decide)
    · intro q
      try dsimp only at q
      rw [if_neg hne, k0] at q
      exact absurd q (by decide)
    · rw [pq_pim, if_neg (by omega)]
      exact aF r i k (by omega)
  · have hlt : ¬ L ≤ p := fun q => k0 (h0.2.mpr q)
    rw [if_neg (fun q => k0 (h0.1.mpr q))]
    by_cases k1 : xk_ (B p) = 1
    · rw [if_pos ((xk_1 hB M p).mp k1)]
      have hq : xn_q B L p 1 = xr_ B 1 (L - (p + 0)) (p + 0) := by
        unfold xn_q
        rw [show p + 0 = p from rfl, show L - p = L - (p + 1) + 1 by omega, xr_, if_pos k1]
      obtain ⟨m', e, x1, x2, x3, x4⟩ := rf_letters (K := fun x85 m86 => ev_let (if 8 < x85 then 0 else (m86.2.1 10 0 15) : Int64) (fun y88 => ev_let (ev_plm m86 10 0 15 y88) (fun m89 => ev_let (ev_pim m89 10 0 13 2) (fun m90 => (some (m90)))))) hB hp (L - (p + 0)) 4000 0 M (by omega) (by omega) (by omega) aT a10 (fun _ => by rw [a15]; rfl)
      rw [← hq] at e x2 x3
      have hge : p + 1 ≤ xn_q B L p 1 ∧ xn_q B L p 1 ≤ L := by
        have := xr_ge B 1 (L - (p + 1)) (p + 1)
        unfold xn_q
        omega
      have hne : ¬ (xk_ (B p) = 2 ∧ 4 < xn_q B L p 2 - p) := fun q => by rw [k1] at q; exact absurd q.1 (by decide)
      refine ⟨ev_pim (ev_plm m' 10 0 15 (if 8 < nI (xn_q B L p 1 - p) then 0 else (m'.2.1 10 0 15))) 10 0 13 2, ?_, ⟨?_, ?_, ?_, ?_, ?_⟩, x1.plm.pim (by decide), fun r i k h => ?_⟩
      · refine Eq.trans e ?_
        rw [pq_let, pq_let, pq_let]
      · rw [pq_pim, if_neg (by decide)]
        show m'.1 10 0 12 = _
        rw [x4 10 0 12 (by decide)]
        exact a12
      · rw [pq_pim, if_neg (by decide)]
        try dsimp only
        rw [if_neg k0, if_pos (Or.inl k1), k1]
        exact x2
      · rw [pq_pim, if_pos ⟨rfl, rfl, rfl⟩]
        try dsimp only
        rw [if_neg hne, k1]
        rfl
      · intro q
        try dsimp only at q
        rw [if_neg hne, k1] at q
        exact absurd q (by decide)
      · intro _
        show (ev_plm m' 10 0 15 _).2.1 10 0 15 = _
        rw [pq_plml, if_pos ⟨rfl, rfl, rfl⟩]
        try dsimp only
        rw [if_neg k0, if_pos (Or.inl k1), k1]
        by_cases h8 : 8 < xn_q B L p 1 - p
        · rw [if_pos (show 8 < nI (xn_q B L p 1 - p) from nI_lt (a := 8) h8 (by omega)), if_pos h8]
        · rw [if_neg (show ¬ 8 < nI (xn_q B L p 1 - p) from nI_nlt (a := 8) (by omega) (by decide)), if_neg h8, x3 (by omega)]
      · rw [pq_pim, if_neg (by omega)]
        show m'.1 r i k = _
        rw [x4 r i k (by omega)]
        exact aF r i k (by omega)
    · rw [if_neg (fun q => k1 ((xk_1 hB M p).mpr q))]
      by_cases k2 : xk_ (B p) = 2
      · rw [if_pos ((xk_2 hB M p).mp k2), pq_let]
        have hq : xn_q B L p 2 = xr_ B 2 (L - (p + 0)) (p + 0) := by
          unfold xn_q
          rw [show p + 0 = p from rfl, show L - p = L - (p + 1) + 1 by omega, xr_, if_pos k2]
        obtain ⟨m', e, x1, x2, x3, x4, x5⟩ := rf_digits (K := fun x77 m78 => ev_let (if 4 < x77 then 1 else 3 : Int32) (fun x80 => ev_let (ev_pim m78 10 0 13 x80) (fun m81 => (some (m81))))) hB hp (L - (p + 0)) 4000 0 (ev_pim M 10 0 14 0) (by omega) (by omega) (by omega) (aT.pim (by decide)) (by rw [pq_pim, if_neg (by decide)]; exact a10) (by rw [pq_pim, if_pos ⟨rfl, rfl, rfl⟩]; rfl)
        rw [← hq] at e x2 x3
        have hge : p + 1 ≤ xn_q B L p 2 ∧ xn_q B L p 2 ≤ L := by
          have := xr_ge B 2 (L - (p + 1)) (p + 1)
          unfold xn_q
          omega
        refine ⟨ev_pim m' 10 0 13 (if 4 < nI (xn_q B L p 2 - p) then 1 else 3), ?_, ⟨?_, ?_, ?_, ?_, ?_⟩, x1.pim (by decide), fun r i k h => ?_⟩
        · refine Eq.trans e ?_
          rw [pq_let, pq_let]
        · rw [pq_pim, if_neg (by decide), x5 10 0 12 (by decide), pq_pim, if_neg (by decide)]
          exact a12
        · rw [pq_pim, if_neg (by decide)]
          try dsimp only
          rw [if_neg k0, if_pos (Or.inr k2), k2]
          exact x2
        · rw [pq_pim, if_pos ⟨rfl, rfl, rfl⟩]
          try dsimp only
          by_cases h4 : 4 < xn_q B L p 2 - p
          · rw [if_pos (show 4 < nI (xn_q B L p 2 - p) from nI_lt (a := 4) h4 (by omega)), if_pos ⟨k2, h4⟩]
            rfl
          · rw [if_neg (show ¬ 4 < nI (xn_q B L p 2 - p) from nI_nlt (a := 4) (by omega) (by decide)), if_neg (fun q => h4 q.2), k2]
            rfl
        · intro q
          try dsimp only at q ⊢
          rw [pq_pim, if_neg (by decide), if_neg k0, if_pos (Or.inr k2), k2, x3]
          by_cases h4 : 4 < xn_q B L p 2 - p
          · rw [if_pos ⟨k2, h4⟩] at q
            exact absurd q (by decide)
          · rw [show min (xn_q B L p 2 - p) 4 = xn_q B L p 2 - p by omega]
        · intro q
          try dsimp only at q
          by_cases h4 : 4 < xn_q B L p 2 - p
          · rw [if_pos ⟨k2, h4⟩] at q
            exact absurd q (by decide)
          · rw [if_neg (fun z => h4 z.2), k2] at q
            exact absurd q (by decide)
        · rw [pq_pim, if_neg (by omega), x5 r i k (by omega), pq_pim, if_neg (by omega)]
          exact aF r i k (by omega)
      · rw [if_neg (fun q => k2 ((xk_2 hB M p).mpr q)), pq_let, a10, nI_1, pq_let, pq_let]
        have hne : ¬ (xk_ (B p) = 2 ∧ 4 < xn_q B L p 2 - p) := fun q => k2 q.1
        have hn12 : ¬ (xk_ (B p) = 1 ∨ xk_ (B p) = 2) := fun q => q.elim k1 k2
        refine ⟨_, rfl, ⟨?_, ?_, ?_, ?_, ?_⟩, (aT.pim (by decide)).pim (by decide), fun r i k h => ?_⟩
        · rw [pq_pim, if_neg (by decide), pq_pim, if_neg (by decide)]
          exact a12
        · rw [pq_pim, if_neg (by decide), pq_pim, if_pos ⟨rfl, rfl, rfl⟩]
          try dsimp only
          rw [if_neg k0, if_neg hn12]
        · rw [pq_pim, if_pos ⟨rfl, rfl, rfl⟩]
          try dsimp only
          rw [if_neg hne]
          obtain ⟨hl, v, hv, ev⟩ := xB_v (p := p) hB k0
          have tb := xk_tab ⟨v, hv⟩
          rw [ev] at k0 k1 k2 h5 hkk ⊢
          rcases hkk with q | q | q | q | q | q | q
          · exact absurd q k0
          · exact absurd q k1
          · exact absurd q k2
          · rw [q, tb.2.2.2.2.1.mp q]; decide
          · rw [q, tb.2.2.2.2.2.1.mp q]; decide
          · exact absurd q h5
          · rw [q, if_neg (fun z => by rw [tb.2.2.2.2.2.1.mpr z] at q; exact absurd q (by decide)), if_neg (fun z => by rw [tb.2.2.2.2.1.mpr z] at q; exact absurd q (by decide))]
            decide
        · intro q
          try dsimp only at q
          rw [if_neg hne] at q
          exact absurd q k2
        · intro q
          try dsimp only at q
          rw [if_neg hne] at q
          exact absurd q k1
        · rw [pq_pim, if_neg (by omega), pq_pim, if_neg (by omega)]
          exact aF r i k (by omega)
/-- blanks, in the reference -/
theorem rf_skip_l {B : Nat → Int32} {L : Nat} {kx : ev_m → Option ev_m} (hB : okB_ B L) : ∀ n f m p, p + n = L ∨ (n = 0 ∧ L ≤ p) → p ≤ L → n < f → xt_r m B L → m.1 10 0 10 = nI p → ∃ m', lp_X10_token_0 0 f m kx = kx m' ∧ xt_r m' B L ∧ m'.1 10 0 10 = nI (xr_ B 5 n p) ∧ m'.2 = m.2 ∧ (∀ r i k, ¬ (r = 10 ∧ i = 0 ∧ k = 10) → m'.1 r i k = m.1 r i k) := by
  intro n
  have hL := hB.1
  induction n with
  | zero =>
    intro f m p hp hp2 hf ht h10
    obtain ⟨g, rfl⟩ : ∃ g, f = g + 1 := ⟨f - 1, by omega⟩
    have hno := xr_out (k := 5) hB (by decide) 0 p (by omega)
    rw [xr_] at hno
    have h5 := (not_congr (xk_5 hB p)).mp hno
    rw [lp_X10_token_0, rf_see ht hB (by omega) h10, pq_sb, if_neg (fun q => h5 (Or.inl q)), pq_sb, if_neg (fun q => h5 (Or.inr q)), xr_]
    exact ⟨m, rfl, ht, h10, rfl, fun _ _ _ _ => rfl⟩
  | succ n ih =>
    intro f m p hp hp2 hf ht h10
    obtain ⟨g, rfl⟩ : ∃ g, f = g + 1 := ⟨f - 1, by omega⟩
    rw [lp_X10_token_0, rf_see ht hB (by omega) h10, pq_sb, pq_sb, xr_]
    have hgo : xk_ (B p) = 5 → ∃ m', jn_X10_token_18_0 m 0 (fun z0 => lp_X10_token_0 0 g z0 kx) kx = kx m' ∧ xt_r m' B L ∧ m'.1 10 0 10 = nI (xr_ B 5 n (p + 1)) ∧ m'.2 = m.2 ∧ (∀ r i k, ¬ (r = 10 ∧ i = 0 ∧ k = 10) → m'.1 r i k = m.1 r i k) := by
      intro h
      unfold jn_X10_token_18_0
      rw [pq_let, h10, nI_1]
      obtain ⟨m', e, x1, x2, x3, x4⟩ := ih g (ev_pim m 10 0 10 (nI (p + 1))) (p + 1) (by omega) (by omega) (by omega) (ht.pim (by decide)) (by rw [pq_pim, if_pos ⟨rfl, rfl, rfl⟩])
      refine ⟨m', e, x1, x2, x3, fun r i k h => ?_⟩
      rw [x4 r i k h, pq_pim, if_neg h]
    by_cases h : xk_ (B p) = 5
    · rw [if_pos h]
      rcases (xk_5 hB p).mp h with q | q
      · rw [if_pos q]
        exact hgo h
      · rw [if_neg (by rw [q]; decide), if_pos q]
        exact hgo h
    · have h5 := (not_congr (xk_5 hB p)).mp h
      rw [if_neg h, if_neg (fun q => h5 (Or.inl q)), if_neg (fun q => h5 (Or.inr q))]
      exact ⟨m, rfl, ht, h10, rfl, fun _ _ _ _ => rfl⟩
theorem rf_token {m : ev_m} {B : Nat → Int32} {L e : Nat} (hB : okB_ B L) (ht : xt_r m B L) (he : e ≤ L) (h10 : m.1 10 0 10 = nI e) : ∃ m', f_X10_token m 0 = some m' ∧ xs_r m' B (xn_ B L e) ∧ xt_r m' B L ∧ xF_r m m' := by
  have hL := hB.1
  obtain ⟨h1, h2⟩ := xn_0le (B := B) he
  have h5 := xn_0k hB he
  have hf : f_X10_token m 0 = (f_X10_see m 0).bind (fun x1 => (if x1 = 10 then (jn_X10_token_18 m 0) else (f_X10_see m 0).bind (fun x60 => (if x60 = 32 then (jn_X10_token_18 m 0) else RT_ m)))) := rfl
  have hj : jn_X10_token_18 m 0 = lp_X10_token_0 0 4000 (ev_pim m 10 0 10 ((m.1 10 0 10) + 1)) RT_ := by
    unfold jn_X10_token_18
    rw [pq_let]
    exact congrArg (fun z => lp_X10_token_0 0 4000 (ev_pim m 10 0 10 ((m.1 10 0 10) + 1)) z) (funext fun m14 => rfl)
  rw [hf, hj, rf_see ht hB (by omega) h10, pq_sb, pq_sb]
  have hgo : xk_ (B e) = 5 → ∃ m', lp_X10_token_0 0 4000 (ev_pim m 10 0 10 ((m.1 10 0 10) + 1)) RT_ = some m' ∧ xs_r m' B (xn_ B L e) ∧ xt_r m' B L ∧ xF_r m m' := by
    intro h
    have hl : e < L := (xB_v hB (by rw [h]; decide)).1
    have hx : xn_0 B L e = xr_ B 5 (L - (e + 1)) (e + 1) := by
      unfold xn_0
      rw [show L - e = L - (e + 1) + 1 by omega, xr_, if_pos h]
    rw [h10, nI_1]
    obtain ⟨m2, e2, x1, x2, x3, x4⟩ := rf_skip_l (kx := RT_) hB (L - (e + 1)) 4000 (ev_pim m 10 0 10 (nI (e + 1))) (e + 1) (by omega) (by omega) (by omega) (ht.pim (by decide)) (by rw [pq_pim, if_pos ⟨rfl, rfl, rfl⟩])
    rw [← hx] at x2
    obtain ⟨m3, e3, y1, y2, y3⟩ := rf_token_p hB x1 h2 h5 x2
    refine ⟨m3, e2.trans e3, y1, y2, fun r i k hr => ?_⟩
    rw [y3 r i k hr, x4 r i k (by omega), pq_pim, if_neg (by omega)]
  by_cases h : xk_ (B e) = 5
  · rcases (xk_5 hB e).mp h with q | q
    · rw [if_pos q]
      exact hgo h
    · rw [if_neg (by rw [q]; decide), if_pos q]
      exact hgo h
  · have hx : xn_0 B L e = e := by
      unfold xn_0
      cases hn : L - e with
      | zero => rw [xr_]
      | succ n => rw [xr_, if_neg h]
    have h5' := (not_congr (xk_5 hB e)).mp h
    rw [if_neg (fun q => h5' (Or.inl q)), if_neg (fun q => h5' (Or.inr q))]
    unfold xn_
    rw [hx]
    exact rf_token_p hB ht he h h10
