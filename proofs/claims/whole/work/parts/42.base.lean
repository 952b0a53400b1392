/-! pure: reading memories that were written; small words -/
theorem pq_pim (m : ev_m) (r i j : Nat) (x : Int32) (a b c : Nat) : (ev_pim m r i j x).1 a b c = if a = r ∧ b = i ∧ c = j then x else m.1 a b c := rfl
theorem pq_pim2 (m : ev_m) (r i j : Nat) (x : Int32) : (ev_pim m r i j x).2 = m.2 := rfl
theorem pq_plm (m : ev_m) (r i j : Nat) (x : Int64) : (ev_plm m r i j x).1 = m.1 := rfl
theorem pq_plml (m : ev_m) (r i j : Nat) (x : Int64) (a b c : Nat) : (ev_plm m r i j x).2.1 a b c = if a = r ∧ b = i ∧ c = j then x else m.2.1 a b c := rfl
theorem pq_plmr (m : ev_m) (r i j : Nat) (x : Int64) : (ev_plm m r i j x).2.2 = m.2.2 := rfl
theorem pq_pom (m : ev_m) (r i j : Nat) (x : Option Nat) : (ev_pom m r i j x).1 = m.1 := rfl
theorem pq_poml (m : ev_m) (r i j : Nat) (x : Option Nat) : (ev_pom m r i j x).2.1 = m.2.1 := rfl
theorem pq_pomr (m : ev_m) (r i j : Nat) (x : Option Nat) (a b c : Nat) : (ev_pom m r i j x).2.2 a b c = if a = r ∧ b = i ∧ c = j then x else m.2.2 a b c := rfl
theorem pq_prm (m : ev_m) (r i : Nat) (g : Nat → Int32) (a b c : Nat) : (ev_prm m r i g).1 a b c = if a = r ∧ b = i then g c else m.1 a b c := rfl
theorem pq_prm2 (m : ev_m) (r i : Nat) (g : Nat → Int32) : (ev_prm m r i g).2 = m.2 := rfl
theorem pq_let {α β : Type} (a : α) (f : α → β) : ev_let a f = f a := rfl
theorem pq_on0 {α : Type} (a : α) (f : Nat → α) : ev_on none a f = a := rfl
theorem pq_on1 {α : Type} (j : Nat) (a : α) (f : Nat → α) : ev_on (some j) a f = f j := rfl
theorem pq_sb {α β : Type} (a : α) (f : α → Option β) : (some a).bind f = f a := rfl
theorem pq_ald {f : Nat → Int32} {n k : Nat} (h : k < n) (hn : n < 2 ^ 31) : ev_ald f n (nI k) = some (f k) := by
  unfold ev_ald
  rw [nI_toInt (by omega), nI_clamp (by omega), if_pos (by omega)]
theorem pq_ast {m : ev_m} {r i n k : Nat} {y : Int32} (h : k < n) (hn : n < 2 ^ 31) : ev_ast m r i n (nI k) y = some (ev_pim m r i k y) := by
  unfold ev_ast
  rw [nI_toInt (by omega), nI_clamp (by omega), if_pos (by omega)]
theorem pq_at {f : Nat → Int32} {n k : Nat} (h : k < n) (hn : n < 2 ^ 31) : ev_at f n (nI k) = f k := by
  unfold ev_at
  rw [nI_toInt (by omega), nI_clamp (by omega), if_pos (by omega)]
theorem pq_put {m : ev_m} {r i n k : Nat} {y : Int32} (h : k < n) (hn : n < 2 ^ 31) : ev_put m r i n (nI k) y = ev_pim m r i k y := by
  unfold ev_put
  rw [nI_toInt (by omega), nI_clamp (by omega), if_pos (by omega)]
theorem pq_lt0 {k : Nat} (h : k < 2 ^ 31) : ¬ nI k < 0 := nI_pos h
/-- a counted loop: what W says of i .. n -/
theorem pq_up {W : Nat → Nat → Prop} (n : Nat) (h0 : ∀ f, W (f + 1) n) (hs : ∀ f i, i < n → W f (i + 1) → W (f + 1) i) : ∀ (d f i : Nat), i + d = n → d < f → W f i := by
  intro d
  induction d with
  | zero =>
    intro f i h hf
    obtain ⟨g, rfl⟩ : ∃ g, f = g + 1 := ⟨f - 1, by omega⟩
    rw [show i = n by omega]
    exact h0 g
  | succ d ih =>
    intro f i h hf
    obtain ⟨g, rfl⟩ : ∃ g, f = g + 1 := ⟨f - 1, by omega⟩
    exact hs g i (by omega) (ih g (i + 1) (by omega) (by omega))
/-- nothing of the regions in P is changed -/
def pq_Fr (P : Nat → Nat → Bool) (m m' : ev_m) : Prop := ∀ r i k, P r i = true → m'.1 r i k = m.1 r i k
theorem pq_Fr.refl (P : Nat → Nat → Bool) (m : ev_m) : pq_Fr P m m := fun _ _ _ _ => rfl
theorem pq_Fr.trans {P : Nat → Nat → Bool} {m m' m'' : ev_m} (h : pq_Fr P m m') (h2 : pq_Fr P m' m'') : pq_Fr P m m'' := fun r i k q => (h2 r i k q).trans (h r i k q)
theorem pq_Fr.sub {P P' : Nat → Nat → Bool} {m m' : ev_m} (hs : ∀ r i, P' r i = true → P r i = true) (h : pq_Fr P m m') : pq_Fr P' m m' := fun r i k q => h r i k (hs r i q)
theorem pq_Fr.pim {P : Nat → Nat → Bool} {m m' : ev_m} (h : pq_Fr P m m') {r i j : Nat} {x : Int32} (hp : P r i = false) : pq_Fr P m (ev_pim m' r i j x) := by
  intro a b c q
  rw [pq_pim, if_neg (fun e => by rw [e.1, e.2.1, hp] at q; cases q)]
  exact h a b c q
theorem pq_Fr.plm {P : Nat → Nat → Bool} {m m' : ev_m} (h : pq_Fr P m m') {r i j : Nat} {x : Int64} : pq_Fr P m (ev_plm m' r i j x) := h
theorem pq_Fr.pom {P : Nat → Nat → Bool} {m m' : ev_m} (h : pq_Fr P m m') {r i j : Nat} {x : Option Nat} : pq_Fr P m (ev_pom m' r i j x) := h
theorem pq_Fr.prm {P : Nat → Nat → Bool} {m m' : ev_m} (h : pq_Fr P m m') {r i : Nat} {g : Nat → Int32} (hp : P r i = false) : pq_Fr P m (ev_prm m' r i g) := by
  intro a b c q
  rw [pq_prm, if_neg (fun e => by rw [e.1, e.2, hp] at q; cases q)]
  exact h a b c q
theorem pq_Fr.put {P : Nat → Nat → Bool} {m m' : ev_m} (h : pq_Fr P m m') {r i n : Nat} {x y : Int32} (hp : P r i = false) : pq_Fr P m (ev_put m' r i n x y) := by
  unfold ev_put
  split
  · exact h.pim hp
  · exact h
/-- the words of the physics -/
def pu_sg (x : Int32) : Int32 := if 0 < x then 1 else (if x < 0 then (-1) else 0)
def pu_pl (x : Int32) : Int32 := if x < 0 then -x else x
def pu_wi (x w : Int32) : Int32 := if w < x then w else (if x < (-w) then -w else x)
theorem pu_sg_r (m : ev_m) (x : Int32) : s_X10_signOf m x = pu_sg x := rfl
theorem pu_pl_r (m : ev_m) (x : Int32) : s_X10_plain m x = pu_pl x := rfl
theorem pu_wi_r (m : ev_m) (x w : Int32) : s_X10_within m x w = pu_wi x w := rfl
theorem pu_wi_c (m : ev_m) {x w : Int32} (h : 0 ≤ w.toInt) : s_X9_within m x w = pu_wi x w := by
  have hn : (-w).toInt = -w.toInt := fb_negI (by omega)
  unfold s_X9_within pu_wi
  simp only [fa_lt, hn]
  by_cases h1 : x.toInt < w.toInt
  · rw [if_pos h1]
    by_cases h2 : -w.toInt < x.toInt
    · rw [if_pos h2, if_neg (by omega), if_neg (by omega)]
    · rw [if_neg h2, if_neg (by omega)]
      by_cases h3 : x.toInt < -w.toInt
      · rw [if_pos h3]
      · rw [if_neg h3, fa_eq, hn]
        omega
  · rw [if_neg h1]
    by_cases h2 : -w.toInt < w.toInt
    · rw [if_pos h2]
      by_cases h3 : w.toInt < x.toInt
      · rw [if_pos h3]
      · rw [if_neg h3, if_neg (by omega), fa_eq]
        omega
    · rw [if_neg h2]
      by_cases h3 : w.toInt < x.toInt
      · rw [if_pos h3, fa_eq, hn]
        omega
      · rw [if_neg h3, if_neg (by omega), fa_eq, hn]
        omega
theorem pu_wi_b {x w : Int32} (h : 0 ≤ w.toInt) : -w.toInt ≤ (pu_wi x w).toInt ∧ (pu_wi x w).toInt ≤ w.toInt := by
  have hn : (-w).toInt = -w.toInt := fb_negI (by omega)
  unfold pu_wi
  simp only [fa_lt, hn]
  split
  · omega
  · split
    · rw [hn]; omega
    · omega
theorem pu_wi_0 {w : Int32} (h : 0 ≤ w.toInt) : pu_wi 0 w = 0 := by
  have hn : (-w).toInt = -w.toInt := fb_negI (by omega)
  have h0 : (0 : Int32).toInt = 0 := rfl
  unfold pu_wi
  simp only [fa_lt, hn, h0]
  rw [if_neg (by omega), if_neg (by omega)]
theorem pu_pl_i {x : Int32} (h : -2147483648 < x.toInt) : (pu_pl x).toInt = if x.toInt < 0 then -x.toInt else x.toInt := by
  have hn : (-x).toInt = -x.toInt := fb_negI (by omega)
  have h0 : (0 : Int32).toInt = 0 := rfl
  unfold pu_pl
  simp only [fa_lt, h0]
  split <;> simp_all
