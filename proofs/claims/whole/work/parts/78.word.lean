/-! pure: texts: words -/
def sl_ (j : Nat) : Nat := ev_strL.getD j 0
def sb_ (j k : Nat) : Int32 := (ev_strB.getD j []).getD k 0
def sn_ (j k : Nat) : Nat := (sb_ j k).toNatClampNeg
theorem sl_tab : ∀ j : Fin 22, 1 ≤ sl_ j.val ∧ sl_ j.val ≤ 5 := by decide
theorem sb_tab : ∀ j : Fin 22, ∀ k : Fin 5, k.val < sl_ j.val → sb_ j.val k.val = nI (sn_ j.val k.val) ∧ 1 ≤ sn_ j.val k.val ∧ sn_ j.val k.val < 256 := by decide +kernel
theorem sd_tab : ∀ i j : Fin 22, sl_ i.val = sl_ j.val → (∀ k : Fin 5, k.val < sl_ i.val → sb_ i.val k.val = sb_ j.val k.val) → i = j := by decide +kernel
def tm_ (B : Nat → Int32) (p j : Nat) : Nat → Nat → Bool
  | _, 0 => true
  | i, n + 1 => if B (p + i) = sb_ j i then tm_ B p j (i + 1) n else false
theorem tm_t {B : Nat → Int32} {p j : Nat} : ∀ n i, tm_ B p j i n = true ↔ ∀ k, i ≤ k → k < i + n → B (p + k) = sb_ j k
  | 0, i => ⟨fun _ k h1 h2 => by omega, fun _ => rfl⟩
  | n + 1, i => by
    rw [tm_]
    by_cases h : B (p + i) = sb_ j i
    · rw [if_pos h, tm_t n (i + 1)]
      constructor
      · intro q k h1 h2
        by_cases e : k = i
        · rw [e]; exact h
        · exact q k (by omega) (by omega)
      · intro q k h1 h2
        exact q k (by omega) (by omega)
    · rw [if_neg h]
      exact ⟨fun q => (by cases q), fun q => absurd (q i (Nat.le_refl _) (by omega)) h⟩
/-- the token is word j -/
def tK_ (B : Nat → Int32) (t : Nat × Nat × Int32) (j : Nat) : Bool := decide (t.2.1 - t.1 = sl_ j) && tm_ B t.1 j 0 (sl_ j)
theorem tK_t {B : Nat → Int32} {t : Nat × Nat × Int32} {j : Nat} : tK_ B t j = true ↔ t.2.1 - t.1 = sl_ j ∧ ∀ k, k < sl_ j → B (t.1 + k) = sb_ j k := by
  unfold tK_
  rw [Bool.and_eq_true, decide_eq_true_eq, tm_t]
  constructor
  · rintro ⟨a, b⟩
    exact ⟨a, fun k hk => b k (by omega) (by omega)⟩
  · rintro ⟨a, b⟩
    exact ⟨a, fun k _ hk => b k (by omega)⟩
/-- no token is two words -/
theorem tK_one {B : Nat → Int32} {t : Nat × Nat × Int32} {i j : Nat} (hi : i < 22) (hj : j < 22) (h1 : tK_ B t i = true) (h2 : tK_ B t j = true) : i = j := by
  rw [tK_t] at h1 h2
  have := sd_tab ⟨i, hi⟩ ⟨j, hj⟩ (h1.1.symm.trans h2.1) (fun k hk => by
    dsimp only at hk ⊢
    rw [← h1.2 k.val hk, h2.2 k.val (by omega)])
  exact congrArg Fin.val this
theorem cl_word_l {m : ev_m} {B : Nat → Int32} {L j : Nat} {t : Nat × Nat × Int32} (hB : okB_ B L) (ht : xt_c m B L) (hs : xs_c m t) (hj : j < 22) (hp : t.1 ≤ L) : ∀ n f i, i + n = sl_ j → n < f → lp_X4_isWord_24 m 0 j f (nI i) (fun _ => some true) = some (tm_ B t.1 j i n) := by
  intro n
  have hL := hB.1
  have h5 := sl_tab ⟨j, hj⟩
  have hlo : ev_slo j = some (nI (sl_ j)) := by
    unfold ev_slo
    rw [if_pos hj]
    rfl
  dsimp only at h5
  induction n with
  | zero =>
    intro f i hi hf
    obtain ⟨g, rfl⟩ : ∃ g, f = g + 1 := ⟨f - 1, by omega⟩
    rw [lp_X4_isWord_24, hlo, pq_sb, if_neg (nI_nlt (by omega) (by omega)), tm_]
  | succ n ih =>
    intro f i hi hf
    obtain ⟨g, rfl⟩ : ∃ g, f = g + 1 := ⟨f - 1, by omega⟩
    have hsc : ev_sc j (nI i) = some (sb_ j i) := by
      unfold ev_sc
      exact pq_ald (f := fun k => (ev_strB.getD j []).getD k 0) (n := ev_strL.getD j 0) (k := i) (show i < sl_ j by omega) (show sl_ j < 2 ^ 31 by omega)
    rw [lp_X4_isWord_24, hlo, pq_sb, if_pos (nI_lt (by omega) (by omega)), hs.1, nI_add, cl_byteAt ht hB (by omega), pq_sb, hsc, pq_sb, tm_, nI_1]
    by_cases h : B (t.1 + i) = sb_ j i
    · rw [if_pos h, if_pos h]
      exact ih g (i + 1) (by omega) (by omega)
    · rw [if_neg h, if_neg h]
theorem cl_isWord {m : ev_m} {B : Nat → Int32} {L j : Nat} {t : Nat × Nat × Int32} {s : Nat × Nat} (hB : okB_ B L) (h : RC_ m B L t s) (hj : j < 22) : f_X4_isWord m 0 j = some (tK_ B t j) := by
  have hb := tk_b hB h.2.2.2.1
  have hL := hB.1
  have h5 := sl_tab ⟨j, hj⟩
  dsimp only at h5
  have hlo : ev_slo j = some (nI (sl_ j)) := by
    unfold ev_slo
    rw [if_pos hj]
    rfl
  unfold f_X4_isWord
  rw [hlo, pq_sb, h.1.2.1, h.1.1, pk_sub hb.1]
  unfold tK_
  by_cases e : t.2.1 - t.1 = sl_ j
  · rw [if_pos (by rw [e]), decide_eq_true e]
    exact cl_word_l hB h.2.1 h.1 hj h.2.2.2.1.1 (sl_ j) 4000 0 (by omega) (by omega)
  · rw [if_neg (fun z => e ((nI_eq (by omega) (by omega)).mp z)), decide_eq_false e]
    rfl
/-- words as numbers -/
def dw_ (g : Nat → Nat) : Nat → Nat
  | 0 => 0
  | n + 1 => 256 * dw_ g n + g n
theorem dw_inj {g h : Nat → Nat} : ∀ {n k}, (∀ i, i < n → 1 ≤ g i ∧ g i < 256) → (∀ i, i < k → 1 ≤ h i ∧ h i < 256) → dw_ g n = dw_ h k → n = k ∧ ∀ i, i < n → g i = h i
  | 0, 0, _, _, _ => ⟨rfl, fun i hi => absurd hi (Nat.not_lt_zero i)⟩
  | 0, k + 1, _, hh, e => by
    have := hh k (by omega)
    rw [dw_, dw_] at e
    omega
  | n + 1, 0, hg, _, e => by
    have := hg n (by omega)
    rw [dw_, dw_] at e
    omega
  | n + 1, k + 1, hg, hh, e => by
    have h1 := hg n (by omega)
    have h2 := hh k (by omega)
    rw [dw_, dw_] at e
    obtain ⟨e1, e2⟩ := dw_inj (n := n) (k := k) (fun i hi => hg i (by omega)) (fun i hi => hh i (by omega)) (by omega)
    subst e1
    refine ⟨rfl, fun i hi => ?_⟩
    by_cases q : i = n
    · rw [q]; omega
    · exact e2 i (by omega)
theorem dw_c {g h : Nat → Nat} : ∀ n, (∀ i, i < n → g i = h i) → dw_ g n = dw_ h n
  | 0, _ => rfl
  | n + 1, e => by rw [dw_, dw_, dw_c n (fun i hi => e i (by omega)), e n (by omega)]
theorem xw_d (B : Nat → Int32) (p : Nat) : ∀ n, xw_ B p n = dw_ (fun i => (B (p + i)).toNatClampNeg) n
  | 0 => rfl
  | n + 1 => by rw [xw_, dw_, xw_d B p n]
theorem dw_lt {g : Nat → Nat} : ∀ n, (∀ i, i < n → g i ≤ 122) → dw_ g (n + 1) ≤ dw_ g (n + 1) ∧ dw_ g n < 256 ^ n
  | 0, _ => ⟨Nat.le_refl _, by show 0 < 1; omega⟩
  | n + 1, h => by
    have := (dw_lt n (fun i hi => h i (by omega))).2
    have h2 := h n (by omega)
    refine ⟨Nat.le_refl _, ?_⟩
    rw [dw_, Nat.pow_succ]
    omega
theorem dw_63 {g : Nat → Nat} {n : Nat} (hn : n ≤ 8) (h : ∀ i, i < n → g i ≤ 122) : dw_ g n < 2 ^ 63 := by
  -- the highest digit is below 128
  have key : ∀ n, (∀ i, i < n → g i ≤ 122) → dw_ g n < 123 * 256 ^ (n - 1) := by
    intro n
    induction n with
    | zero =>
      intro _
      show 0 < 123 * 1
      omega
    | succ n ih =>
      intro h
      rcases Nat.eq_zero_or_pos n with e | e
      · subst e
        have := h 0 (by omega)
        show 256 * 0 + g 0 < 123 * 1
        omega
      · have h1 := ih (fun i hi => h i (by omega))
        have h2 := h n (by omega)
        obtain ⟨k, rfl⟩ : ∃ k, n = k + 1 := ⟨n - 1, by omega⟩
        rw [dw_, show k + 1 + 1 - 1 = k + 1 by omega, Nat.pow_succ]
        rw [show k + 1 - 1 = k by omega] at h1
        omega
  have h1 := key n h
  have h2 : 256 ^ (n - 1) ≤ 256 ^ 7 := Nat.pow_le_pow_right (by decide) (by omega)
  omega
/-- the words' numbers, as the reference has them -/
def W_ (j : Nat) : Int64 := ([7562593, 1953854062, 1667329133, 7102823, 1836020596, 1734697330, 7501154, 2003398244, 1953655149, 495873782388, 1937006962, 6709618, 487301145451, 1650812270, 1684365668, 482905517684, 513021013607, 499985311076, 495740088435, 1700885369, 7499639, 7168366] : List Int64).getD j 0
theorem W_tab : ∀ j : Fin 22, W_ j.val = lN (dw_ (sn_ j.val) (sl_ j.val)) ∧ 0 < dw_ (sn_ j.val) (sl_ j.val) ∧ dw_ (sn_ j.val) (sl_ j.val) < 2 ^ 63 := by decide +kernel
/-- the word that the reference has of a token, against word j -/
def wo_ (B : Nat → Int32) (t : Nat × Nat × Int32) : Int64 := if t.2.2 = 1 then (if 8 < t.2.1 - t.1 then 0 else lN (xw_ B t.1 (t.2.1 - t.1))) else 0
theorem wo_t {B : Nat → Int32} {L j : Nat} {t : Nat × Nat × Int32} (hB : okB_ B L) (h : tk_ B L t) (h1 : t.2.2 = 1) (hj : j < 22) : wo_ B t = W_ j ↔ tK_ B t j = true := by
  have hw := tk_word hB h h1
  have hb := tk_b hB h
  obtain ⟨w1, w2, w3⟩ := W_tab ⟨j, hj⟩
  have h5 := sl_tab ⟨j, hj⟩
  dsimp only at w1 w2 w3 h5
  unfold wo_
  rw [if_pos h1, tK_t, w1]
  have hdig : ∀ i, i < t.2.1 - t.1 → 1 ≤ (B (t.1 + i)).toNatClampNeg ∧ (B (t.1 + i)).toNatClampNeg ≤ 122 ∧ B (t.1 + i) = nI (B (t.1 + i)).toNatClampNeg := fun i hi => by
    obtain ⟨v, v1, v2, e⟩ := hw (t.1 + i) (by omega) (by omega)
    rw [e, nI_clamp (by omega)]
    exact ⟨by omega, v2, rfl⟩
  have hsd : ∀ i, i < sl_ j → sb_ j i = nI (sn_ j i) ∧ 1 ≤ sn_ j i ∧ sn_ j i < 256 := fun i hi => sb_tab ⟨j, hj⟩ ⟨i, by omega⟩ hi
  by_cases h8 : 8 < t.2.1 - t.1
  · rw [if_pos h8]
    constructor
    · intro e
      have := (fb_lN_inj (a := 0) (by decide) w3).mp e
      omega
    · rintro ⟨e, -⟩
      omega
  · rw [if_neg h8, xw_d, fb_lN_inj (dw_63 (by omega) (fun i hi => (hdig i hi).2.1)) w3]
    constructor
    · intro e
      obtain ⟨e1, e2⟩ := dw_inj (fun i hi => ⟨(hdig i hi).1, by have := (hdig i hi).2.1; omega⟩) (fun i hi => (hsd i hi).2) e
      refine ⟨e1, fun k hk => ?_⟩
      rw [(hdig k (by omega)).2.2, (hsd k hk).1, e2 k (by omega)]
    · rintro ⟨e1, e2⟩
      rw [e1]
      exact dw_c _ (fun i hi => by
        try dsimp only
        rw [e2 i hi]
        rfl)
theorem wo_n {B : Nat → Int32} {j : Nat} {t : Nat × Nat × Int32} (h1 : t.2.2 ≠ 1) (hj : j < 22) : wo_ B t ≠ W_ j := by
  obtain ⟨w1, w2, w3⟩ := W_tab ⟨j, hj⟩
  dsimp only at w1 w2 w3
  unfold wo_
  rw [if_neg h1, w1]
  intro e
  have := (fb_lN_inj (a := 0) (by decide) w3).mp e
  omega
