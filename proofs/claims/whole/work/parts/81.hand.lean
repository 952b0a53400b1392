/-! pure: texts: lines of hands -/
theorem RR_.later {M : ev_m} {B : Nat → Int32} {L f p : Nat} {t : Nat × Nat × Int32} {s : Nat × Nat} (g : RR_ M B L t s) (hf : f ≤ 4) (hf0 : f ≠ 0) (hp : p ≤ 700) : RR_ (s_X10_later M 0 (nI f) (nI p)) B L t (nt_ f p s) ∧ ∀ r i k, ¬ (r = 10 ∧ i = 0) → (s_X10_later M 0 (nI f) (nI p)).1 r i k = M.1 r i k := by
  obtain ⟨n1, n2, n3⟩ := rf_later (f := f) (p := p) g.2.2.1 g.2.2.2.2 hf hf0 hp
  exact ⟨⟨⟨(n3 10 0 12 (by decide)).trans g.1.1, (n3 10 0 10 (by decide)).trans g.1.2.1, (n3 10 0 13 (by decide)).trans g.1.2.2.1, fun z => (n3 10 0 14 (by decide)).trans (g.1.2.2.2.1 z), fun z => by rw [n2]; exact g.1.2.2.2.2 z⟩, ⟨(n3 10 0 11 (by decide)).trans g.2.1.1, fun k hk => by rw [n3 30 0 k (by omega)]; exact g.2.1.2 k hk⟩, n1, g.2.2.2.1, nt_ok g.2.2.2.2 hf hp⟩, fun r i k hr => n3 r i k (by omega)⟩
theorem RC_.note {m : ev_m} {B : Nat → Int32} {L f p : Nat} {t : Nat × Nat × Int32} {s : Nat × Nat} (h : RC_ m B L t s) (hf : f ≤ 4) (hf0 : f ≠ 0) (hp : p ≤ 700) : RC_ (s_X4_note m 0 (nI f) (nI p)) B L t (nt_ f p s) ∧ ∀ r i k, ¬ (r = 7 ∧ i = 0) → (s_X4_note m 0 (nI f) (nI p)).1 r i k = m.1 r i k := by
  obtain ⟨n1, n2, n3⟩ := cl_note (f := f) (p := p) h.2.2.1 h.2.2.2.2 hf hf0 hp
  exact ⟨⟨⟨(n3 7 0 8 (by decide)).trans h.1.1, (n3 7 0 9 (by decide)).trans h.1.2.1, (n3 7 0 7 (by decide)).trans h.1.2.2⟩, ⟨(n3 2 4 1 (by decide)).trans h.2.1.1, fun k hk => by rw [n3 11 4 k (by omega)]; exact h.2.1.2 k hk⟩, n1, h.2.2.2.1, nt_ok h.2.2.2.2 hf hp⟩, fun r i k hr => n3 r i k (by omega)⟩
theorem nt_if {c : Prop} [Decidable c] {f p g q : Nat} {s : Nat × Nat} (hf : f ≠ 0) (hg : g ≠ 0) : (if c then nt_ f p (nt_ g q s) else nt_ g q s) = nt_ g q (if c then nt_ f p s else s) := by
  split
  · exact nt_comm hf hg
  · rfl
theorem star_nt {p1 p2 v1 v2 : Nat} {s : Nat × Nat} (hp : p1 < p2) (h1 : v1 < 10000) : (if nI v2 < (if nI v1 < 999 then nI v1 else 999) ∨ 999 < nI v2 then nt_ 2 p2 (if nI v1 < 0 ∨ 999 < nI v1 then nt_ 2 p1 s else s) else (if nI v1 < 0 ∨ 999 < nI v1 then nt_ 2 p1 s else s)) = (if nI v2 < nI v1 ∨ 999 < nI v2 then nt_ 2 p2 (if nI v1 < 0 ∨ 999 < nI v1 then nt_ 2 p1 s else s) else (if nI v1 < 0 ∨ 999 < nI v1 then nt_ 2 p1 s else s)) := by
  by_cases q : v1 ≤ 999
  · have e : (if nI v1 < 999 then nI v1 else 999 : Int32) = nI v1 := by
      by_cases z : v1 < 999
      · rw [if_pos (show nI v1 < 999 from nI_lt (b := 999) z (by decide))]
      · rw [if_neg (show ¬ nI v1 < 999 from nI_nlt (b := 999) (by omega) (by omega)), show v1 = 999 by omega]
        rfl
    rw [e]
  · rw [if_pos (show nI v1 < 0 ∨ 999 < nI v1 from Or.inr (nI_lt (a := 999) (by omega) (by omega))), nt_old (by decide) hp, ite_self, ite_self]
/-- a hand's draft -/
def DH_ (m M : ev_m) (c : Nat) : Prop := c ≤ 4 ∧ M.1 39 0 9 = nI c ∧ (∀ k, k < 10 → m.1 4 17 k = M.1 39 0 k) ∧ ∀ k, k < c → m.1 13 17 k = M.1 39 0 (10 + 2 * k) ∧ m.1 14 17 k = M.1 39 0 (11 + 2 * k)
theorem DH_.fr {m m' M M' : ev_m} {c : Nat} (h : DH_ m M c) (hc : ∀ r i k, ¬ (r = 7 ∧ i = 0) → m'.1 r i k = m.1 r i k) (hr : ∀ r i k, ¬ (r = 10 ∧ i = 0) → M'.1 r i k = M.1 r i k) : DH_ m' M' c := by
  obtain ⟨h0, h1, h2, h3⟩ := h
  refine ⟨h0, (hr 39 0 _ (by omega)).trans h1, fun k hk => by rw [hc 4 17 k (by omega), hr 39 0 k (by omega)]; exact h2 k hk, fun k hk => ?_⟩
  rw [hc 13 17 k (by omega), hc 14 17 k (by omega), hr 39 0 _ (by omega), hr 39 0 _ (by omega)]
  exact h3 k hk
def pD_ (D : Nat → Int32) : Prop := (0 ≤ (D 3).toInt ∧ (D 3).toInt ≤ 999) ∧ (1 ≤ (D 4).toInt ∧ (D 4).toInt ≤ 999) ∧ (0 ≤ (D 6).toInt ∧ (D 6).toInt ≤ 999) ∧ (D 8 = 0 ∨ D 8 = 1)
def JD_ (s : Nat × Nat) (m M : ev_m) : Prop := ∃ c, DH_ m M c ∧ (s.1 = 0 → pD_ (M.1 39 0))
theorem JD_.fr {s : Nat × Nat} {m m' M M' : ev_m} (h : JD_ s m M) (hc : ∀ r i k, ¬ (r = 7 ∧ i = 0) → m'.1 r i k = m.1 r i k) (hr : ∀ r i k, ¬ (r = 10 ∧ i = 0) → M'.1 r i k = M.1 r i k) : JD_ s m' M' := by
  obtain ⟨c, h1, h3⟩ := h
  have e : M'.1 39 0 = M.1 39 0 := funext fun k => hr 39 0 k (by omega)
  exact ⟨c, h1.fr hc hr, fun q => by rw [e]; exact h3 q⟩
theorem JD_.put {s s' : Nat × Nat} {m M : ev_m} {k : Nat} {v : Int32} (h : JD_ s m M) (hk : k < 9) (hs : s'.1 = 0 → s.1 = 0 ∧ ∀ S, pD_ S → pD_ (upd S k v)) : JD_ s' (ev_pim m 4 17 k v) (ev_pim M 39 0 k v) := by
  obtain ⟨c, ⟨a0, a1, a2, a3⟩, h3⟩ := h
  refine ⟨c, ⟨a0, ?_, fun j hj => ?_, fun j hj => ?_⟩, fun q => ?_⟩
  · rw [pq_pim, if_neg (by omega)]
    exact a1
  · rw [pq_pim, pq_pim]
    by_cases q : j = k
    · rw [if_pos ⟨rfl, rfl, q⟩, if_pos ⟨rfl, rfl, q⟩]
    · rw [if_neg (fun z => q z.2.2), if_neg (fun z => q z.2.2)]
      exact a2 j hj
  · rw [pq_pim, if_neg (by omega), pq_pim, if_neg (by omega), pq_pim, if_neg (by omega), pq_pim, if_neg (by omega)]
    exact a3 j hj
  · rw [pim_39]
    exact (hs q).2 _ (h3 (hs q).1)
theorem hand_u {m M : ev_m} {B : Nat → Int32} {L k : Nat} {t : Nat × Nat × Int32} {s : Nat × Nat} {lo hi : Int32} (hB : okB_ B L) (h : RC_ m B L t s) (g : RR_ M B L t s) (hJ : JD_ s m M) (hk : k < 8) (hp : ∀ S v, ¬ (v < lo ∨ hi < v) → pD_ S → pD_ (upd S k v)) : ∃ b m' M', (f_X4_takeNumber m 0 0 lo hi).bind (fun p5 => (if p5.1 = true then ev_let (s_X1_write p5.2 17 (nI k) (p5.2.1 7 0 10)) (fun m7 => (some ((true, m7)))) else (some ((false, p5.2))))) = some (b, m') ∧ f_X10_into M 0 (nI k) lo hi = some (b, M') ∧ LN_ B L t.2.1 JD_ m M m' M' b := by
  have hb := tk_b hB h.2.2.2.1
  obtain ⟨c1, c2⟩ := cl_num (lo := lo) (hi := hi) hB h
  obtain ⟨r1, r2⟩ := rf_num (lo := lo) (hi := hi) hB g
  unfold f_X10_into
  by_cases h2 : t.2.2 = 2
  · obtain ⟨m1, e1, x1, x2, x3⟩ := c1 h2
    obtain ⟨M1, f1, y1, y2, y3⟩ := r1 h2
    have hxn := xn_bd (e := t.2.1) hB hb.2.1
    rw [e1, pq_sb, if_pos rfl, x2, cl_writeH k hk, pq_let, f1, pq_sb, pq_let, if_pos rfl, y2]
    unfold jn_X10_into_31
    rw [sN_39 (by omega), pq_sb]
    refine ⟨true, ev_pim m1 4 17 k (nI (vn_ B t)), ev_pim M1 39 0 k (nI (vn_ B t)), rfl, rfl, fun _ => ⟨_, _, x1.fr (fun r i j q => by rw [pq_pim, if_neg (by omega)]), y1.fr rfl (fun r i j q => by rw [pq_pim, if_neg (by omega)]), (hJ.fr x3 y3).put (by omega) (fun q => ?_), by omega⟩, fun q => (by cases q), fun r i j q => ?_, fun r i j q q2 => ?_⟩
    · obtain ⟨q1, q2⟩ := nt_0 q
      exact ⟨q1, fun S hS => hp S _ q2 hS⟩
    · unfold xc_ at q
      rw [pq_pim, if_neg (by omega)]
      exact x3 r i j (by omega)
    · rw [pq_pim, if_neg (by omega)]
      exact y3 r i j (by omega)
  · obtain ⟨m1, e1, x1, x2⟩ := c2 h2
    rw [e1, pq_sb, if_neg Bool.false_ne_true, r2 h2, pq_sb, pq_let, if_neg Bool.false_ne_true, show ∀ N : ev_m, ev_ald (N.1 39 0) 61 (nI k) = some (N.1 39 0 k) from fun N => iN_39 (by omega), pq_sb]
    unfold jn_X10_into_31
    rw [sN_39 (by omega), pq_sb]
    refine ⟨false, m1, _, rfl, rfl, LN_.bad ?_ (fun r i j q => x2 r i j (by unfold xc_ at q; omega)) (fun r i j q q2 => ?_)⟩
    · rw [x1, pq_pim, if_neg (by omega)]
      show _ = (ev_pim M 10 0 16 (nI t.1)).1 10 0 16
      rw [pq_pim, if_pos ⟨rfl, rfl, rfl⟩]
    · rw [pq_pim, if_neg (by omega)]
      show (ev_pim M 10 0 16 (nI t.1)).1 r i j = _
      rw [pq_pim, if_neg (by omega)]
theorem cl_handW {m : ev_m} {B : Nat → Int32} {L j : Nat} {t : Nat × Nat × Int32} {s : Nat × Nat} (hB : okB_ B L) (h : RC_ m B L t s) (hj : j < 22) (tj : tK_ B t j = true) : f_X4_handWord m 0 = some (if j ≤ 10 then -1 else if j ≤ 19 then nI (j - 11) else -1) := by
  have e : ∀ i, i < 22 → f_X4_isWord m 0 i = some (decide (i = j)) := fun i hi => by rw [cl_isWord hB h hi, tK_eq hj tj i hi]
  unfold f_X4_handWord
  simp only [e 11 (by decide), e 12 (by decide), e 13 (by decide), e 14 (by decide), e 15 (by decide), e 16 (by decide), e 17 (by decide), e 18 (by decide), e 19 (by decide), pq_sb, decide_eq_true_eq]
  rcases (show j ≤ 10 ∨ j = 11 ∨ j = 12 ∨ j = 13 ∨ j = 14 ∨ j = 15 ∨ j = 16 ∨ j = 17 ∨ j = 18 ∨ j = 19 ∨ 20 ≤ j by omega) with q | q | q | q | q | q | q | q | q | q | q
  all_goals first
    | (subst q; rfl)
    | (rw [if_neg (by omega), if_neg (by omega), if_neg (by omega), if_neg (by omega), if_neg (by omega), if_neg (by omega), if_neg (by omega), if_neg (by omega), if_neg (by omega), if_pos (by omega)])
    | (rw [if_neg (by omega), if_neg (by omega), if_neg (by omega), if_neg (by omega), if_neg (by omega), if_neg (by omega), if_neg (by omega), if_neg (by omega), if_neg (by omega), if_neg (by omega), if_neg (by omega)])
theorem cl_handN {m : ev_m} {B : Nat → Int32} {L : Nat} {t : Nat × Nat × Int32} {s : Nat × Nat} (hB : okB_ B L) (h : RC_ m B L t s) (hn : ∀ j, j < 22 → tK_ B t j = false) : f_X4_handWord m 0 = some (-1) := by
  have e : ∀ i, i < 22 → f_X4_isWord m 0 i = some false := fun i hi => by rw [cl_isWord hB h hi, hn i hi]
  unfold f_X4_handWord
  simp only [e 11 (by decide), e 12 (by decide), e 13 (by decide), e 14 (by decide), e 15 (by decide), e 16 (by decide), e 17 (by decide), e 18 (by decide), e 19 (by decide), pq_sb, Bool.false_eq_true, ↓reduceIte]
theorem thn_0 (m : ev_m) : (if (0 : Int32) = 8 then ev_let (s_X1_write m 17 8 1) (fun m8 => (some ((true, m8)))) else (f_X4_takeNumber m 0 0 (ev_at (ev_cst 2) 8 0) (ev_at (ev_cst 3) 8 0)).bind (fun p5 => (if p5.1 = true then ev_let (s_X1_write p5.2 17 0 (p5.2.1 7 0 10)) (fun m7 => (some ((true, m7)))) else (some ((false, p5.2)))))) = (f_X4_takeNumber m 0 0 0 99).bind (fun p5 => (if p5.1 = true then ev_let (s_X1_write p5.2 17 (nI 0) (p5.2.1 7 0 10)) (fun m7 => (some ((true, m7)))) else (some ((false, p5.2))))) := by
  rw [if_neg (by decide), show ev_at (ev_cst 2) 8 0 = 0 from by decide +kernel, show ev_at (ev_cst 3) 8 0 = 99 from by decide +kernel]
  rfl
theorem thn_1 (m : ev_m) : (if (1 : Int32) = 8 then ev_let (s_X1_write m 17 8 1) (fun m8 => (some ((true, m8)))) else (f_X4_takeNumber m 0 0 (ev_at (ev_cst 2) 8 1) (ev_at (ev_cst 3) 8 1)).bind (fun p5 => (if p5.1 = true then ev_let (s_X1_write p5.2 17 1 (p5.2.1 7 0 10)) (fun m7 => (some ((true, m7)))) else (some ((false, p5.2)))))) = (f_X4_takeNumber m 0 0 0 99).bind (fun p5 => (if p5.1 = true then ev_let (s_X1_write p5.2 17 (nI 1) (p5.2.1 7 0 10)) (fun m7 => (some ((true, m7)))) else (some ((false, p5.2))))) := by
  rw [if_neg (by decide), show ev_at (ev_cst 2) 8 1 = 0 from by decide +kernel, show ev_at (ev_cst 3) 8 1 = 99 from by decide +kernel]
  rfl
theorem thn_2 (m : ev_m) : (if (2 : Int32) = 8 then ev_let (s_X1_write m 17 8 1) (fun m8 => (some ((true, m8)))) else (f_X4_takeNumber m 0 0 (ev_at (ev_cst 2) 8 2) (ev_at (ev_cst 3) 8 2)).bind (fun p5 => (if p5.1 = true then ev_let (s_X1_write p5.2 17 2 (p5.2.1 7 0 10)) (fun m7 => (some ((true, m7)))) else (some ((false, p5.2)))))) = (f_X4_takeNumber m 0 0 0 99).bind (fun p5 => (if p5.1 = true then ev_let (s_X1_write p5.2 17 (nI 2) (p5.2.1 7 0 10)) (fun m7 => (some ((true, m7)))) else (some ((false, p5.2))))) := by
  rw [if_neg (by decide), show ev_at (ev_cst 2) 8 2 = 0 from by decide +kernel, show ev_at (ev_cst 3) 8 2 = 99 from by decide +kernel]
  rfl
theorem thn_3 (m : ev_m) : (if (3 : Int32) = 8 then ev_let (s_X1_write m 17 8 1) (fun m8 => (some ((true, m8)))) else (f_X4_takeNumber m 0 0 (ev_at (ev_cst 2) 8 3) (ev_at (ev_cst 3) 8 3)).bind (fun p5 => (if p5.1 = true then ev_let (s_X1_write p5.2 17 3 (p5.2.1 7 0 10)) (fun m7 => (some ((true, m7)))) else (some ((false, p5.2)))))) = (f_X4_takeNumber m 0 0 0 999).bind (fun p5 => (if p5.1 = true then ev_let (s_X1_write p5.2 17 (nI 3) (p5.2.1 7 0 10)) (fun m7 => (some ((true, m7)))) else (some ((false, p5.2))))) := by
  rw [if_neg (by decide), show ev_at (ev_cst 2) 8 3 = 0 from by decide +kernel, show ev_at (ev_cst 3) 8 3 = 999 from by decide +kernel]
  rfl
theorem thn_4 (m : ev_m) : (if (4 : Int32) = 8 then ev_let (s_X1_write m 17 8 1) (fun m8 => (some ((true, m8)))) else (f_X4_takeNumber m 0 0 (ev_at (ev_cst 2) 8 4) (ev_at (ev_cst 3) 8 4)).bind (fun p5 => (if p5.1 = true then ev_let (s_X1_write p5.2 17 4 (p5.2.1 7 0 10)) (fun m7 => (some ((true, m7)))) else (some ((false, p5.2)))))) = (f_X4_takeNumber m 0 0 1 999).bind (fun p5 => (if p5.1 = true then ev_let (s_X1_write p5.2 17 (nI 4) (p5.2.1 7 0 10)) (fun m7 => (some ((true, m7)))) else (some ((false, p5.2))))) := by
  rw [if_neg (by decide), show ev_at (ev_cst 2) 8 4 = 1 from by decide +kernel, show ev_at (ev_cst 3) 8 4 = 999 from by decide +kernel]
  rfl
theorem thn_5 (m : ev_m) : (if (5 : Int32) = 8 then ev_let (s_X1_write m 17 8 1) (fun m8 => (some ((true, m8)))) else (f_X4_takeNumber m 0 0 (ev_at (ev_cst 2) 8 5) (ev_at (ev_cst 3) 8 5)).bind (fun p5 => (if p5.1 = true then ev_let (s_X1_write p5.2 17 5 (p5.2.1 7 0 10)) (fun m7 => (some ((true, m7)))) else (some ((false, p5.2)))))) = (f_X4_takeNumber m 0 0 0 999).bind (fun p5 => (if p5.1 = true then ev_let (s_X1_write p5.2 17 (nI 5) (p5.2.1 7 0 10)) (fun m7 => (some ((true, m7)))) else (some ((false, p5.2))))) := by
  rw [if_neg (by decide), show ev_at (ev_cst 2) 8 5 = 0 from by decide +kernel, show ev_at (ev_cst 3) 8 5 = 999 from by decide +kernel]
  rfl
theorem thn_6 (m : ev_m) : (if (6 : Int32) = 8 then ev_let (s_X1_write m 17 8 1) (fun m8 => (some ((true, m8)))) else (f_X4_takeNumber m 0 0 (ev_at (ev_cst 2) 8 6) (ev_at (ev_cst 3) 8 6)).bind (fun p5 => (if p5.1 = true then ev_let (s_X1_write p5.2 17 6 (p5.2.1 7 0 10)) (fun m7 => (some ((true, m7)))) else (some ((false, p5.2)))))) = (f_X4_takeNumber m 0 0 0 999).bind (fun p5 => (if p5.1 = true then ev_let (s_X1_write p5.2 17 (nI 6) (p5.2.1 7 0 10)) (fun m7 => (some ((true, m7)))) else (some ((false, p5.2))))) := by
  rw [if_neg (by decide), show ev_at (ev_cst 2) 8 6 = 0 from by decide +kernel, show ev_at (ev_cst 3) 8 6 = 999 from by decide +kernel]
  rfl
theorem thn_7 (m : ev_m) : (if (7 : Int32) = 8 then ev_let (s_X1_write m 17 8 1) (fun m8 => (some ((true, m8)))) else (f_X4_takeNumber m 0 0 (ev_at (ev_cst 2) 8 7) (ev_at (ev_cst 3) 8 7)).bind (fun p5 => (if p5.1 = true then ev_let (s_X1_write p5.2 17 7 (p5.2.1 7 0 10)) (fun m7 => (some ((true, m7)))) else (some ((false, p5.2)))))) = (f_X4_takeNumber m 0 0 0 100).bind (fun p5 => (if p5.1 = true then ev_let (s_X1_write p5.2 17 (nI 7) (p5.2.1 7 0 10)) (fun m7 => (some ((true, m7)))) else (some ((false, p5.2))))) := by
  rw [if_neg (by decide), show ev_at (ev_cst 2) 8 7 = 0 from by decide +kernel, show ev_at (ev_cst 3) 8 7 = 100 from by decide +kernel]
  rfl
theorem hand_w11 {m M : ev_m} {B : Nat → Int32} {L : Nat} {t : Nat × Nat × Int32} {s : Nat × Nat} (hB : okB_ B L) (h : RC_ m B L t s) (g : RR_ M B L t s) (hJ : JD_ s m M) (hk : t.2.2 = 1) (tj : tK_ B t 11 = true) : ∃ b m' M', f_X4_takeLine m 0 1 = some (b, m') ∧ f_X10_handLine M 0 (wo_ B t) (nI t.1) = some (b, M') ∧ LN_ B L t.2.1 JD_ m M m' M' b := by
  have ew : wo_ B t = 6709618 := (wo_t hB h.2.2.2.1 hk (by decide)).mpr tj
  have hw : f_X4_isWord m 0 10 = some false := by
    rw [cl_isWord hB h (by decide), tK_eq (by decide) tj 10 (by decide)]
    rfl
  have hs : f_X4_handWord m 0 = some 0 := by
    rw [cl_handW hB h (by decide) tj]
    rfl
  have hb := tk_b hB h.2.2.2.1
  have hxn := xn_bd (e := t.2.1) hB hb.2.1
  obtain ⟨m1, e1, x1, -, x2⟩ := cl_nextR hB h
  obtain ⟨M1, f1, y1, y2⟩ := rf_nextR hB g
  have hJ1 : JD_ s m1 M1 := hJ.fr (fun r i k q => x2 r i k (by omega)) (fun r i k q => y2 r i k (by omega))
  obtain ⟨b, m', M', a1, a2, a3⟩ := hand_u (k := 0) (lo := 0) (hi := 99) hB x1 y1 hJ1 (by decide) (fun S v _ hS => hS)
  refine ⟨b, m', M', ?_, ?_, a3.step (by omega) x2.c y2.r⟩
  · unfold f_X4_takeLine f_X4_takeHandNumber
    rw [if_neg (by decide), if_pos rfl, hw, pq_sb, if_neg Bool.false_ne_true, hs, pq_sb, if_neg (by decide), e1, pq_sb, thn_0, a1, pq_sb]
  · rw [ew]
    unfold f_X10_handLine
    rw [if_pos rfl]
    unfold jn_X10_handLine_99 jn_X10_handLine_128 jn_X10_handLine_153
    rw [if_neg (by decide), if_neg (by decide), f1, pq_sb, if_neg (by decide), if_neg (by decide), show (if (0 : Int32) = 4 then 1 else 0 : Int32) = 0 from by decide, pq_let, show (if 2 < (0 : Int32) then (if (0 : Int32) = 7 then 100 else 999) else 99 : Int32) = 99 from by decide, pq_let, show f_X10_into M1 0 0 0 99 = _ from a2, pq_sb] <;> rfl
theorem hand_w12 {m M : ev_m} {B : Nat → Int32} {L : Nat} {t : Nat × Nat × Int32} {s : Nat × Nat} (hB : okB_ B L) (h : RC_ m B L t s) (g : RR_ M B L t s) (hJ : JD_ s m M) (hk : t.2.2 = 1) (tj : tK_ B t 12 = true) : ∃ b m' M', f_X4_takeLine m 0 1 = some (b, m') ∧ f_X10_handLine M 0 (wo_ B t) (nI t.1) = some (b, M') ∧ LN_ B L t.2.1 JD_ m M m' M' b := by
  have ew : wo_ B t = 487301145451 := (wo_t hB h.2.2.2.1 hk (by decide)).mpr tj
  have hw : f_X4_isWord m 0 10 = some false := by
    rw [cl_isWord hB h (by decide), tK_eq (by decide) tj 10 (by decide)]
    rfl
  have hs : f_X4_handWord m 0 = some 1 := by
    rw [cl_handW hB h (by decide) tj]
    rfl
  have hb := tk_b hB h.2.2.2.1
  have hxn := xn_bd (e := t.2.1) hB hb.2.1
  obtain ⟨m1, e1, x1, -, x2⟩ := cl_nextR hB h
  obtain ⟨M1, f1, y1, y2⟩ := rf_nextR hB g
  have hJ1 : JD_ s m1 M1 := hJ.fr (fun r i k q => x2 r i k (by omega)) (fun r i k q => y2 r i k (by omega))
  obtain ⟨b, m', M', a1, a2, a3⟩ := hand_u (k := 1) (lo := 0) (hi := 99) hB x1 y1 hJ1 (by decide) (fun S v _ hS => hS)
  refine ⟨b, m', M', ?_, ?_, a3.step (by omega) x2.c y2.r⟩
  · unfold f_X4_takeLine f_X4_takeHandNumber
    rw [if_neg (by decide), if_pos rfl, hw, pq_sb, if_neg Bool.false_ne_true, hs, pq_sb, if_neg (by decide), e1, pq_sb, thn_1, a1, pq_sb]
  · rw [ew]
    unfold f_X10_handLine
    unfold jn_X10_handLine_128 jn_X10_handLine_153
    rw [if_neg (by decide), show (if (487301145451 : Int64) = 487301145451 then 1 else (if (487301145451 : Int64) = 1650812270 then 2 else (if (487301145451 : Int64) = 1684365668 then 3 else (if (487301145451 : Int64) = 482905517684 then 4 else (if (487301145451 : Int64) = 513021013607 then 5 else (if (487301145451 : Int64) = 499985311076 then 6 else (if (487301145451 : Int64) = 495740088435 then 7 else ((-1)))))))) : Int32) = 1 from by decide, pq_let, if_neg (by decide), if_neg (by decide), f1, pq_sb, if_neg (by decide), if_neg (by decide), show (if (1 : Int32) = 4 then 1 else 0 : Int32) = 0 from by decide, pq_let, show (if 2 < (1 : Int32) then (if (1 : Int32) = 7 then 100 else 999) else 99 : Int32) = 99 from by decide, pq_let, show f_X10_into M1 0 1 0 99 = _ from a2, pq_sb] <;> rfl
theorem hand_w13 {m M : ev_m} {B : Nat → Int32} {L : Nat} {t : Nat × Nat × Int32} {s : Nat × Nat} (hB : okB_ B L) (h : RC_ m B L t s) (g : RR_ M B L t s) (hJ : JD_ s m M) (hk : t.2.2 = 1) (tj : tK_ B t 13 = true) : ∃ b m' M', f_X4_takeLine m 0 1 = some (b, m') ∧ f_X10_handLine M 0 (wo_ B t) (nI t.1) = some (b, M') ∧ LN_ B L t.2.1 JD_ m M m' M' b := by
  have ew : wo_ B t = 1650812270 := (wo_t hB h.2.2.2.1 hk (by decide)).mpr tj
  have hw : f_X4_isWord m 0 10 = some false := by
    rw [cl_isWord hB h (by decide), tK_eq (by decide) tj 10 (by decide)]
    rfl
  have hs : f_X4_handWord m 0 = some 2 := by
    rw [cl_handW hB h (by decide) tj]
    rfl
  have hb := tk_b hB h.2.2.2.1
  have hxn := xn_bd (e := t.2.1) hB hb.2.1
  obtain ⟨m1, e1, x1, -, x2⟩ := cl_nextR hB h
  obtain ⟨M1, f1, y1, y2⟩ := rf_nextR hB g
  have hJ1 : JD_ s m1 M1 := hJ.fr (fun r i k q => x2 r i k (by omega)) (fun r i k q => y2 r i k (by omega))
  obtain ⟨b, m', M', a1, a2, a3⟩ := hand_u (k := 2) (lo := 0) (hi := 99) hB x1 y1 hJ1 (by decide) (fun S v _ hS => hS)
  refine ⟨b, m', M', ?_, ?_, a3.step (by omega) x2.c y2.r⟩
  · unfold f_X4_takeLine f_X4_takeHandNumber
    rw [if_neg (by decide), if_pos rfl, hw, pq_sb, if_neg Bool.false_ne_true, hs, pq_sb, if_neg (by decide), e1, pq_sb, thn_2, a1, pq_sb]
  · rw [ew]
    unfold f_X10_handLine
    unfold jn_X10_handLine_128 jn_X10_handLine_153
    rw [if_neg (by decide), show (if (1650812270 : Int64) = 487301145451 then 1 else (if (1650812270 : Int64) = 1650812270 then 2 else (if (1650812270 : Int64) = 1684365668 then 3 else (if (1650812270 : Int64) = 482905517684 then 4 else (if (1650812270 : Int64) = 513021013607 then 5 else (if (1650812270 : Int64) = 499985311076 then 6 else (if (1650812270 : Int64) = 495740088435 then 7 else ((-1)))))))) : Int32) = 2 from by decide, pq_let, if_neg (by decide), if_neg (by decide), f1, pq_sb, if_neg (by decide), if_neg (by decide), show (if (2 : Int32) = 4 then 1 else 0 : Int32) = 0 from by decide, pq_let, show (if 2 < (2 : Int32) then (if (2 : Int32) = 7 then 100 else 999) else 99 : Int32) = 99 from by decide, pq_let, show f_X10_into M1 0 2 0 99 = _ from a2, pq_sb] <;> rfl
theorem hand_w14 {m M : ev_m} {B : Nat → Int32} {L : Nat} {t : Nat × Nat × Int32} {s : Nat × Nat} (hB : okB_ B L) (h : RC_ m B L t s) (g : RR_ M B L t s) (hJ : JD_ s m M) (hk : t.2.2 = 1) (tj : tK_ B t 14 = true) : ∃ b m' M', f_X4_takeLine m 0 1 = some (b, m') ∧ f_X10_handLine M 0 (wo_ B t) (nI t.1) = some (b, M') ∧ LN_ B L t.2.1 JD_ m M m' M' b := by
  have ew : wo_ B t = 1684365668 := (wo_t hB h.2.2.2.1 hk (by decide)).mpr tj
  have hw : f_X4_isWord m 0 10 = some false := by
    rw [cl_isWord hB h (by decide), tK_eq (by decide) tj 10 (by decide)]
    rfl
  have hs : f_X4_handWord m 0 = some 3 := by
    rw [cl_handW hB h (by decide) tj]
    rfl
  have hb := tk_b hB h.2.2.2.1
  have hxn := xn_bd (e := t.2.1) hB hb.2.1
  obtain ⟨m1, e1, x1, -, x2⟩ := cl_nextR hB h
  obtain ⟨M1, f1, y1, y2⟩ := rf_nextR hB g
  have hJ1 : JD_ s m1 M1 := hJ.fr (fun r i k q => x2 r i k (by omega)) (fun r i k q => y2 r i k (by omega))
  obtain ⟨b, m', M', a1, a2, a3⟩ := hand_u (k := 3) (lo := 0) (hi := 999) hB x1 y1 hJ1 (by decide) (fun S v hq hS => by
    rw [fa_lt, fa_lt, show (0 : Int32).toInt = 0 from rfl, show (999 : Int32).toInt = 999 from rfl] at hq
    exact ⟨⟨by show (0 : Int) ≤ v.toInt; omega, by show v.toInt ≤ 999; omega⟩, hS.2⟩)
  refine ⟨b, m', M', ?_, ?_, a3.step (by omega) x2.c y2.r⟩
  · unfold f_X4_takeLine f_X4_takeHandNumber
    rw [if_neg (by decide), if_pos rfl, hw, pq_sb, if_neg Bool.false_ne_true, hs, pq_sb, if_neg (by decide), e1, pq_sb, thn_3, a1, pq_sb]
  · rw [ew]
    unfold f_X10_handLine
    unfold jn_X10_handLine_128 jn_X10_handLine_153
    rw [if_neg (by decide), show (if (1684365668 : Int64) = 487301145451 then 1 else (if (1684365668 : Int64) = 1650812270 then 2 else (if (1684365668 : Int64) = 1684365668 then 3 else (if (1684365668 : Int64) = 482905517684 then 4 else (if (1684365668 : Int64) = 513021013607 then 5 else (if (1684365668 : Int64) = 499985311076 then 6 else (if (1684365668 : Int64) = 495740088435 then 7 else ((-1)))))))) : Int32) = 3 from by decide, pq_let, if_neg (by decide), if_neg (by decide), f1, pq_sb, if_neg (by decide), if_neg (by decide), show (if (3 : Int32) = 4 then 1 else 0 : Int32) = 0 from by decide, pq_let, show (if 2 < (3 : Int32) then (if (3 : Int32) = 7 then 100 else 999) else 99 : Int32) = 999 from by decide, pq_let, show f_X10_into M1 0 3 0 999 = _ from a2, pq_sb] <;> rfl
theorem hand_w15 {m M : ev_m} {B : Nat → Int32} {L : Nat} {t : Nat × Nat × Int32} {s : Nat × Nat} (hB : okB_ B L) (h : RC_ m B L t s) (g : RR_ M B L t s) (hJ : JD_ s m M) (hk : t.2.2 = 1) (tj : tK_ B t 15 = true) : ∃ b m' M', f_X4_takeLine m 0 1 = some (b, m') ∧ f_X10_handLine M 0 (wo_ B t) (nI t.1) = some (b, M') ∧ LN_ B L t.2.1 JD_ m M m' M' b := by
  have ew : wo_ B t = 482905517684 := (wo_t hB h.2.2.2.1 hk (by decide)).mpr tj
  have hw : f_X4_isWord m 0 10 = some false := by
    rw [cl_isWord hB h (by decide), tK_eq (by decide) tj 10 (by decide)]
    rfl
  have hs : f_X4_handWord m 0 = some 4 := by
    rw [cl_handW hB h (by decide) tj]
    rfl
  have hb := tk_b hB h.2.2.2.1
  have hxn := xn_bd (e := t.2.1) hB hb.2.1
  obtain ⟨m1, e1, x1, -, x2⟩ := cl_nextR hB h
  obtain ⟨M1, f1, y1, y2⟩ := rf_nextR hB g
  have hJ1 : JD_ s m1 M1 := hJ.fr (fun r i k q => x2 r i k (by omega)) (fun r i k q => y2 r i k (by omega))
  obtain ⟨b, m', M', a1, a2, a3⟩ := hand_u (k := 4) (lo := 1) (hi := 999) hB x1 y1 hJ1 (by decide) (fun S v hq hS => by
    rw [fa_lt, fa_lt, show (1 : Int32).toInt = 1 from rfl, show (999 : Int32).toInt = 999 from rfl] at hq
    exact ⟨hS.1, ⟨by show (1 : Int) ≤ v.toInt; omega, by show v.toInt ≤ 999; omega⟩, hS.2.2⟩)
  refine ⟨b, m', M', ?_, ?_, a3.step (by omega) x2.c y2.r⟩
  · unfold f_X4_takeLine f_X4_takeHandNumber
    rw [if_neg (by decide), if_pos rfl, hw, pq_sb, if_neg Bool.false_ne_true, hs, pq_sb, if_neg (by decide), e1, pq_sb, thn_4, a1, pq_sb]
  · rw [ew]
    unfold f_X10_handLine
    unfold jn_X10_handLine_128 jn_X10_handLine_153
    rw [if_neg (by decide), show (if (482905517684 : Int64) = 487301145451 then 1 else (if (482905517684 : Int64) = 1650812270 then 2 else (if (482905517684 : Int64) = 1684365668 then 3 else (if (482905517684 : Int64) = 482905517684 then 4 else (if (482905517684 : Int64) = 513021013607 then 5 else (if (482905517684 : Int64) = 499985311076 then 6 else (if (482905517684 : Int64) = 495740088435 then 7 else ((-1)))))))) : Int32) = 4 from by decide, pq_let, if_neg (by decide), if_neg (by decide), f1, pq_sb, if_neg (by decide), if_neg (by decide), show (if (4 : Int32) = 4 then 1 else 0 : Int32) = 1 from by decide, pq_let, show (if 2 < (4 : Int32) then (if (4 : Int32) = 7 then 100 else 999) else 99 : Int32) = 999 from by decide, pq_let, show f_X10_into M1 0 4 1 999 = _ from a2, pq_sb] <;> rfl
theorem hand_w16 {m M : ev_m} {B : Nat → Int32} {L : Nat} {t : Nat × Nat × Int32} {s : Nat × Nat} (hB : okB_ B L) (h : RC_ m B L t s) (g : RR_ M B L t s) (hJ : JD_ s m M) (hk : t.2.2 = 1) (tj : tK_ B t 16 = true) : ∃ b m' M', f_X4_takeLine m 0 1 = some (b, m') ∧ f_X10_handLine M 0 (wo_ B t) (nI t.1) = some (b, M') ∧ LN_ B L t.2.1 JD_ m M m' M' b := by
  have ew : wo_ B t = 513021013607 := (wo_t hB h.2.2.2.1 hk (by decide)).mpr tj
  have hw : f_X4_isWord m 0 10 = some false := by
    rw [cl_isWord hB h (by decide), tK_eq (by decide) tj 10 (by decide)]
    rfl
  have hs : f_X4_handWord m 0 = some 5 := by
    rw [cl_handW hB h (by decide) tj]
    rfl
  have hb := tk_b hB h.2.2.2.1
  have hxn := xn_bd (e := t.2.1) hB hb.2.1
  obtain ⟨m1, e1, x1, -, x2⟩ := cl_nextR hB h
  obtain ⟨M1, f1, y1, y2⟩ := rf_nextR hB g
  have hJ1 : JD_ s m1 M1 := hJ.fr (fun r i k q => x2 r i k (by omega)) (fun r i k q => y2 r i k (by omega))
  obtain ⟨b, m', M', a1, a2, a3⟩ := hand_u (k := 5) (lo := 0) (hi := 999) hB x1 y1 hJ1 (by decide) (fun S v _ hS => hS)
  refine ⟨b, m', M', ?_, ?_, a3.step (by omega) x2.c y2.r⟩
  · unfold f_X4_takeLine f_X4_takeHandNumber
    rw [if_neg (by decide), if_pos rfl, hw, pq_sb, if_neg Bool.false_ne_true, hs, pq_sb, if_neg (by decide), e1, pq_sb, thn_5, a1, pq_sb]
  · rw [ew]
    unfold f_X10_handLine
    unfold jn_X10_handLine_128 jn_X10_handLine_153
    rw [if_neg (by decide), show (if (513021013607 : Int64) = 487301145451 then 1 else (if (513021013607 : Int64) = 1650812270 then 2 else (if (513021013607 : Int64) = 1684365668 then 3 else (if (513021013607 : Int64) = 482905517684 then 4 else (if (513021013607 : Int64) = 513021013607 then 5 else (if (513021013607 : Int64) = 499985311076 then 6 else (if (513021013607 : Int64) = 495740088435 then 7 else ((-1)))))))) : Int32) = 5 from by decide, pq_let, if_neg (by decide), if_neg (by decide), f1, pq_sb, if_neg (by decide), if_neg (by decide), show (if (5 : Int32) = 4 then 1 else 0 : Int32) = 0 from by decide, pq_let, show (if 2 < (5 : Int32) then (if (5 : Int32) = 7 then 100 else 999) else 99 : Int32) = 999 from by decide, pq_let, show f_X10_into M1 0 5 0 999 = _ from a2, pq_sb] <;> rfl
theorem hand_w17 {m M : ev_m} {B : Nat → Int32} {L : Nat} {t : Nat × Nat × Int32} {s : Nat × Nat} (hB : okB_ B L) (h : RC_ m B L t s) (g : RR_ M B L t s) (hJ : JD_ s m M) (hk : t.2.2 = 1) (tj : tK_ B t 17 = true) : ∃ b m' M', f_X4_takeLine m 0 1 = some (b, m') ∧ f_X10_handLine M 0 (wo_ B t) (nI t.1) = some (b, M') ∧ LN_ B L t.2.1 JD_ m M m' M' b := by
  have ew : wo_ B t = 499985311076 := (wo_t hB h.2.2.2.1 hk (by decide)).mpr tj
  have hw : f_X4_isWord m 0 10 = some false := by
    rw [cl_isWord hB h (by decide), tK_eq (by decide) tj 10 (by decide)]
    rfl
  have hs : f_X4_handWord m 0 = some 6 := by
    rw [cl_handW hB h (by decide) tj]
    rfl
  have hb := tk_b hB h.2.2.2.1
  have hxn := xn_bd (e := t.2.1) hB hb.2.1
  obtain ⟨m1, e1, x1, -, x2⟩ := cl_nextR hB h
  obtain ⟨M1, f1, y1, y2⟩ := rf_nextR hB g
  have hJ1 : JD_ s m1 M1 := hJ.fr (fun r i k q => x2 r i k (by omega)) (fun r i k q => y2 r i k (by omega))
  obtain ⟨b, m', M', a1, a2, a3⟩ := hand_u (k := 6) (lo := 0) (hi := 999) hB x1 y1 hJ1 (by decide) (fun S v hq hS => by
    rw [fa_lt, fa_lt, show (0 : Int32).toInt = 0 from rfl, show (999 : Int32).toInt = 999 from rfl] at hq
    exact ⟨hS.1, hS.2.1, ⟨by show (0 : Int) ≤ v.toInt; omega, by show v.toInt ≤ 999; omega⟩, hS.2.2.2⟩)
  refine ⟨b, m', M', ?_, ?_, a3.step (by omega) x2.c y2.r⟩
  · unfold f_X4_takeLine f_X4_takeHandNumber
    rw [if_neg (by decide), if_pos rfl, hw, pq_sb, if_neg Bool.false_ne_true, hs, pq_sb, if_neg (by decide), e1, pq_sb, thn_6, a1, pq_sb]
  · rw [ew]
    unfold f_X10_handLine
    unfold jn_X10_handLine_128 jn_X10_handLine_153
    rw [if_neg (by decide), show (if (499985311076 : Int64) = 487301145451 then 1 else (if (499985311076 : Int64) = 1650812270 then 2 else (if (499985311076 : Int64) = 1684365668 then 3 else (if (499985311076 : Int64) = 482905517684 then 4 else (if (499985311076 : Int64) = 513021013607 then 5 else (if (499985311076 : Int64) = 499985311076 then 6 else (if (499985311076 : Int64) = 495740088435 then 7 else ((-1)))))))) : Int32) = 6 from by decide, pq_let, if_neg (by decide), if_neg (by decide), f1, pq_sb, if_neg (by decide), if_neg (by decide), show (if (6 : Int32) = 4 then 1 else 0 : Int32) = 0 from by decide, pq_let, show (if 2 < (6 : Int32) then (if (6 : Int32) = 7 then 100 else 999) else 99 : Int32) = 999 from by decide, pq_let, show f_X10_into M1 0 6 0 999 = _ from a2, pq_sb] <;> rfl
theorem hand_w18 {m M : ev_m} {B : Nat → Int32} {L : Nat} {t : Nat × Nat × Int32} {s : Nat × Nat} (hB : okB_ B L) (h : RC_ m B L t s) (g : RR_ M B L t s) (hJ : JD_ s m M) (hk : t.2.2 = 1) (tj : tK_ B t 18 = true) : ∃ b m' M', f_X4_takeLine m 0 1 = some (b, m') ∧ f_X10_handLine M 0 (wo_ B t) (nI t.1) = some (b, M') ∧ LN_ B L t.2.1 JD_ m M m' M' b := by
  have ew : wo_ B t = 495740088435 := (wo_t hB h.2.2.2.1 hk (by decide)).mpr tj
  have hw : f_X4_isWord m 0 10 = some false := by
    rw [cl_isWord hB h (by decide), tK_eq (by decide) tj 10 (by decide)]
    rfl
  have hs : f_X4_handWord m 0 = some 7 := by
    rw [cl_handW hB h (by decide) tj]
    rfl
  have hb := tk_b hB h.2.2.2.1
  have hxn := xn_bd (e := t.2.1) hB hb.2.1
  obtain ⟨m1, e1, x1, -, x2⟩ := cl_nextR hB h
  obtain ⟨M1, f1, y1, y2⟩ := rf_nextR hB g
  have hJ1 : JD_ s m1 M1 := hJ.fr (fun r i k q => x2 r i k (by omega)) (fun r i k q => y2 r i k (by omega))
  obtain ⟨b, m', M', a1, a2, a3⟩ := hand_u (k := 7) (lo := 0) (hi := 100) hB x1 y1 hJ1 (by decide) (fun S v _ hS => hS)
  refine ⟨b, m', M', ?_, ?_, a3.step (by omega) x2.c y2.r⟩
  · unfold f_X4_takeLine f_X4_takeHandNumber
    rw [if_neg (by decide), if_pos rfl, hw, pq_sb, if_neg Bool.false_ne_true, hs, pq_sb, if_neg (by decide), e1, pq_sb, thn_7, a1, pq_sb]
  · rw [ew]
    unfold f_X10_handLine
    unfold jn_X10_handLine_128 jn_X10_handLine_153
    rw [if_neg (by decide), show (if (495740088435 : Int64) = 487301145451 then 1 else (if (495740088435 : Int64) = 1650812270 then 2 else (if (495740088435 : Int64) = 1684365668 then 3 else (if (495740088435 : Int64) = 482905517684 then 4 else (if (495740088435 : Int64) = 513021013607 then 5 else (if (495740088435 : Int64) = 499985311076 then 6 else (if (495740088435 : Int64) = 495740088435 then 7 else ((-1)))))))) : Int32) = 7 from by decide, pq_let, if_neg (by decide), if_neg (by decide), f1, pq_sb, if_neg (by decide), if_neg (by decide), show (if (7 : Int32) = 4 then 1 else 0 : Int32) = 0 from by decide, pq_let, show (if 2 < (7 : Int32) then (if (7 : Int32) = 7 then 100 else 999) else 99 : Int32) = 100 from by decide, pq_let, show f_X10_into M1 0 7 0 100 = _ from a2, pq_sb] <;> rfl
theorem hand_w19 {m M : ev_m} {B : Nat → Int32} {L : Nat} {t : Nat × Nat × Int32} {s : Nat × Nat} (hB : okB_ B L) (h : RC_ m B L t s) (g : RR_ M B L t s) (hJ : JD_ s m M) (hk : t.2.2 = 1) (tj : tK_ B t 19 = true) : ∃ b m' M', f_X4_takeLine m 0 1 = some (b, m') ∧ f_X10_handLine M 0 (wo_ B t) (nI t.1) = some (b, M') ∧ LN_ B L t.2.1 JD_ m M m' M' b := by
  have ew : wo_ B t = 1700885369 := (wo_t hB h.2.2.2.1 hk (by decide)).mpr tj
  have hw : f_X4_isWord m 0 10 = some false := by
    rw [cl_isWord hB h (by decide), tK_eq (by decide) tj 10 (by decide)]
    rfl
  have hs : f_X4_handWord m 0 = some 8 := by
    rw [cl_handW hB h (by decide) tj]
    rfl
  have hb := tk_b hB h.2.2.2.1
  have hxn := xn_bd (e := t.2.1) hB hb.2.1
  obtain ⟨m1, e1, x1, -, x2⟩ := cl_nextR hB h
  obtain ⟨M1, f1, y1, y2⟩ := rf_nextR hB g
  have hJ1 : JD_ s m1 M1 := hJ.fr (fun r i k q => x2 r i k (by omega)) (fun r i k q => y2 r i k (by omega))
  refine ⟨true, ev_pim m1 4 17 8 1, ev_pim M1 39 0 8 1, ?_, ?_, LN_.step (m1 := m1) (M1 := M1) (e1 := t.2.1) ⟨fun _ => ⟨_, s, x1.fr (fun r i j q => by rw [pq_pim, if_neg (by omega)]), y1.fr rfl (fun r i j q => by rw [pq_pim, if_neg (by omega)]), hJ1.put (by decide) (fun q => ⟨q, fun S hS => ⟨hS.1, hS.2.1, hS.2.2.1, Or.inr rfl⟩⟩), by omega⟩, fun q => (by cases q), fun r i j q => ?_, fun r i j q q2 => ?_⟩ (Nat.le_refl _) x2.c y2.r⟩
  · unfold f_X4_takeLine f_X4_takeHandNumber
    rw [if_neg (by decide), if_pos rfl, hw, pq_sb, if_neg Bool.false_ne_true, hs, pq_sb, if_neg (by decide), e1, pq_sb, if_pos rfl, show s_X1_write m1 17 8 1 = ev_pim m1 4 17 8 1 from rfl, pq_let, pq_sb]
  · rw [ew]
    unfold f_X10_handLine
    unfold jn_X10_handLine_128 jn_X10_handLine_153
    rw [if_neg (by decide), show (if (1700885369 : Int64) = 487301145451 then 1 else (if (1700885369 : Int64) = 1650812270 then 2 else (if (1700885369 : Int64) = 1684365668 then 3 else (if (1700885369 : Int64) = 482905517684 then 4 else (if (1700885369 : Int64) = 513021013607 then 5 else (if (1700885369 : Int64) = 499985311076 then 6 else (if (1700885369 : Int64) = 495740088435 then 7 else ((-1)))))))) : Int32) = -1 from by decide, pq_let, if_pos rfl, if_pos rfl, if_neg (by decide), f1, pq_sb, if_pos rfl, pq_let]
  · unfold xc_ at q
    rw [pq_pim, if_neg (by omega)]
  · rw [pq_pim, if_neg (by omega)]
theorem hand_w10 {m M : ev_m} {B : Nat → Int32} {L : Nat} {t : Nat × Nat × Int32} {s : Nat × Nat} (hB : okB_ B L) (h : RC_ m B L t s) (g : RR_ M B L t s) (hJ : JD_ s m M) (hk : t.2.2 = 1) (tj : tK_ B t 10 = true) : ∃ b m' M', f_X4_takeLine m 0 1 = some (b, m') ∧ f_X10_handLine M 0 (wo_ B t) (nI t.1) = some (b, M') ∧ LN_ B L t.2.1 JD_ m M m' M' b := by
  have hL := hB.1
  have ew : wo_ B t = 1937006962 := (wo_t hB h.2.2.2.1 hk (by decide)).mpr tj
  have hw : f_X4_isWord m 0 10 = some true := by
    rw [cl_isWord hB h (by decide), tK_eq (by decide) tj 10 (by decide)]
    rfl
  have hb := tk_b hB h.2.2.2.1
  have hxn := xn_bd (e := t.2.1) hB hb.2.1
  obtain ⟨c, ⟨d0, d1, d2, d3⟩, hp⟩ := hJ
  have hcl : f_X4_takeLine m 0 1 = (f_X4_takeStar m 0).bind (fun p16 => (some ((p16.1, p16.2)))) := by
    unfold f_X4_takeLine
    rw [if_neg (by decide), if_pos rfl, hw, pq_sb, if_pos rfl]
  have hr1 : f_X10_handLine M 0 (wo_ B t) (nI t.1) = jn_X10_handLine_128 M 0 1937006962 (nI t.1) (-1) := by
    rw [ew]
    unfold f_X10_handLine
    rw [if_neg (by decide), show (if (1937006962 : Int64) = 487301145451 then 1 else (if (1937006962 : Int64) = 1650812270 then 2 else (if (1937006962 : Int64) = 1684365668 then 3 else (if (1937006962 : Int64) = 482905517684 then 4 else (if (1937006962 : Int64) = 513021013607 then 5 else (if (1937006962 : Int64) = 499985311076 then 6 else (if (1937006962 : Int64) = 495740088435 then 7 else ((-1)))))))) : Int32) = -1 from by decide, pq_let, if_pos rfl, if_neg (by decide), if_pos rfl]
  obtain ⟨M0, s0, g0, F0, hs0, hr2⟩ : ∃ M0 s0, RR_ M0 B L t s0 ∧ (∀ r i k, ¬ (r = 10 ∧ i = 0) → M0.1 r i k = M.1 r i k) ∧ s0 = (if c = 4 then nt_ 3 t.1 s else s) ∧ jn_X10_handLine_128 M 0 1937006962 (nI t.1) (-1) = jn_X10_handLine_153 M0 0 1937006962 (-1) := by
    by_cases q : c = 4
    · obtain ⟨n1, n2⟩ := RR_.later (f := 3) (p := t.1) g (by decide) (by decide) (by omega)
      refine ⟨_, _, n1, n2, by rw [if_pos q], ?_⟩
      unfold jn_X10_handLine_128
      rw [if_pos rfl, d1, q, if_pos (show nI 4 = 4 from rfl), pq_let]
      rfl
    · refine ⟨M, s, g, fun _ _ _ _ => rfl, by rw [if_neg q], ?_⟩
      unfold jn_X10_handLine_128
      rw [if_pos rfl, d1, if_neg (show ¬ nI c = 4 from fun z => q ((nI_eq (a := c) (b := 4) (by omega) (by decide)).mp z))]
  have hr := hr1.trans hr2
  have hD : DH_ m M c := ⟨d0, d1, d2, d3⟩
  rw [hcl, hr]
  obtain ⟨m1, e1, x1, -, x2⟩ := cl_nextR hB h
  obtain ⟨M1, f1, y1, y2⟩ := rf_nextR hB g0
  have hcF : cF_ m m1 := x2.c
  have hrF : rF_ M M1 := fun r i k q q2 => by rw [y2.r r i k q q2, F0 r i k (by omega)]
  unfold f_X4_takeStar jn_X10_handLine_153
  generalize ht1 : xn_ B L t.2.1 = t1 at *
  by_cases k1 : t1.2.2 = 2
  · obtain ⟨m2, e2, x3, x4, x5⟩ := (cl_num (lo := 0) (hi := 999) hB x1).1 k1
    obtain ⟨M2, f2, y3, y4, y5⟩ := (rf_num (lo := 0) (hi := 999) hB y1).1 k1
    have hb1 := tk_b hB x1.2.2.2.1
    have hl1 := hb1.2.2 (by rw [k1]; decide)
    have hxn1 := xn_bd (e := t1.2.1) hB hb1.2.1
    have hv1 := vn_lt hB x1.2.2.2.1 k1
    have hcF2 : cF_ m m2 := hcF.trans (fun r i j q => x5 r i j (by unfold xc_ at q; omega))
    have hrF2 : rF_ M M2 := hrF.trans (fun r i j q q2 => y5 r i j (by omega))
    generalize ht2 : xn_ B L t1.2.1 = t2 at *
    by_cases k2 : t2.2.2 = 2
    · obtain ⟨m3, e3, x6, x7, x8⟩ := (cl_num (lo := (nI (vn_ B t1))) (hi := 999) hB x3).1 k2
      obtain ⟨M3, f3, y6, y7, y8⟩ := (rf_num (lo := (if nI (vn_ B t1) < 999 then nI (vn_ B t1) else 999)) (hi := 999) hB y3).1 k2
      have hb2 := tk_b hB x3.2.2.2.1
      have hxn2 := xn_bd (e := t2.2.1) hB hb2.2.1
      have hFm : ∀ r i k, ¬ (r = 7 ∧ i = 0) → m3.1 r i k = m.1 r i k := fun r i k q => by rw [x8 r i k q, x5 r i k q, x2 r i k (by omega)]
      have hFM : ∀ r i k, ¬ (r = 10 ∧ i = 0) → M3.1 r i k = M.1 r i k := fun r i k q => by rw [y8 r i k q, y5 r i k q, y2 r i k (by omega), F0 r i k q]
      obtain ⟨e0, k39, kc, karr⟩ : DH_ m3 M3 c := DH_.fr hD hFm hFM
      rw [star_nt (by omega) hv1] at y6
      by_cases hc : c < 4
      · have hs00 : s0 = s := by rw [hs0, if_neg (by omega)]
        subst hs00
        have hk9 : m3.1 4 17 9 = nI c := (kc 9 (by decide)).trans k39
        have hadd : s_X1_addStar m3 17 (nI (vn_ B t1)) (m3.1 7 0 10) = (true, ev_pim (ev_pim (ev_pim m3 13 17 c (nI (vn_ B t1))) 14 17 c (nI (vn_ B t2))) 4 17 9 (nI (c + 1))) := by
          unfold s_X1_addStar
          rw [hk9, x7, if_pos (show nI c < 4 from nI_lt (b := 4) hc (by decide)), pq_put (by omega) (by decide), pq_let, show (ev_pim m3 13 17 c (nI (vn_ B t1))).1 4 17 9 = nI c by rw [pq_pim, if_neg (by omega)]; exact hk9, pq_put (by omega) (by decide), pq_let, show (ev_pim (ev_pim m3 13 17 c (nI (vn_ B t1))) 14 17 c (nI (vn_ B t2))).1 4 17 9 = nI c by rw [pq_pim, if_neg (by omega), pq_pim, if_neg (by omega)]; exact hk9, nI_1, pq_let]
        have hst : (ev_ast M3 39 0 61 (10 + (2 * (M3.1 39 0 9))) (nI (vn_ B t1))).bind (fun m38 => (ev_ast m38 39 0 61 (11 + (2 * (m38.1 39 0 9))) (m38.1 10 0 20)).bind (fun m39 => ev_let (ev_pim m39 39 0 9 ((m39.1 39 0 9) + 1)) (fun m40 => (some ((true, m40)))))) = some (true, ev_pim (ev_pim (ev_pim M3 39 0 (10 + 2 * c) (nI (vn_ B t1))) 39 0 (11 + 2 * c) (nI (vn_ B t2))) 39 0 9 (nI (c + 1))) := by
          rw [k39, show (10 : Int32) + 2 * nI c = nI (10 + 2 * c) by rw [show (2 : Int32) = nI 2 from rfl, pk_mul, show (10 : Int32) = nI 10 from rfl, nI_add], sN_39 (by omega), pq_sb, show (ev_pim M3 39 0 (10 + 2 * c) (nI (vn_ B t1))).1 39 0 9 = nI c by rw [pq_pim, if_neg (by omega)]; exact k39, show (11 : Int32) + 2 * nI c = nI (11 + 2 * c) by rw [show (2 : Int32) = nI 2 from rfl, pk_mul, show (11 : Int32) = nI 11 from rfl, nI_add], sN_39 (by omega), pq_sb, show (ev_pim M3 39 0 (10 + 2 * c) (nI (vn_ B t1))).1 10 0 20 = nI (vn_ B t2) by rw [pq_pim, if_neg (by omega)]; exact y7, show (ev_pim (ev_pim M3 39 0 (10 + 2 * c) (nI (vn_ B t1))) 39 0 (11 + 2 * c) (nI (vn_ B t2))).1 39 0 9 = nI c by rw [pq_pim, if_neg (by omega), pq_pim, if_neg (by omega)]; exact k39, nI_1, pq_let]
        refine ⟨true, ev_pim (ev_pim (ev_pim m3 13 17 c (nI (vn_ B t1))) 14 17 c (nI (vn_ B t2))) 4 17 9 (nI (c + 1)), ev_pim (ev_pim (ev_pim M3 39 0 (10 + 2 * c) (nI (vn_ B t1))) 39 0 (11 + 2 * c) (nI (vn_ B t2))) 39 0 9 (nI (c + 1)), ?_, ?_, fun _ => ⟨_, _, x6.fr (fun r i j q => by rw [pq_pim, if_neg (by omega), pq_pim, if_neg (by omega), pq_pim, if_neg (by omega)]), y6.fr rfl (fun r i j q => by rw [pq_pim, if_neg (by omega), pq_pim, if_neg (by omega), pq_pim, if_neg (by omega)]), ⟨c + 1, ⟨by omega, by rw [pq_pim, if_pos ⟨rfl, rfl, rfl⟩], fun k hk => ?_, fun k hk => ?_⟩, fun q => ?_⟩, by omega⟩, fun q => (by cases q), fun r i j q => ?_, fun r i j q q2 => ?_⟩
        · rw [pq_let, e1, pq_sb, e2, pq_sb, if_pos rfl, x4, pq_let, e3, pq_sb, if_pos rfl, hadd, pq_let, if_pos rfl, pq_sb] <;> rfl
        · rw [f1, pq_sb, if_neg (by decide), if_pos rfl, f2, pq_sb, if_pos rfl, y4, pq_let, pq_let, f3, pq_sb, if_pos rfl, if_pos (show (true, M3).2.1 39 0 9 < 4 by show M3.1 39 0 9 < 4; rw [k39]; exact nI_lt (b := 4) hc (by decide))]
          exact hst
        · by_cases e : k = 9
          · rw [e, pq_pim, if_pos ⟨rfl, rfl, rfl⟩, pq_pim, if_pos ⟨rfl, rfl, rfl⟩]
          · rw [pq_pim, if_neg (by omega), pq_pim, if_neg (by omega), pq_pim, if_neg (by omega), pq_pim, if_neg (by omega), pq_pim, if_neg (by omega), pq_pim, if_neg (by omega)]
            exact kc k hk
        · by_cases e : k = c
          · rw [e]
            refine ⟨?_, ?_⟩
            · rw [pq_pim, if_neg (by omega), pq_pim, if_neg (by omega), pq_pim, if_pos ⟨rfl, rfl, rfl⟩, pq_pim, if_neg (by omega), pq_pim, if_neg (by omega), pq_pim, if_pos ⟨rfl, rfl, rfl⟩]
            · rw [pq_pim, if_neg (by omega), pq_pim, if_pos ⟨rfl, rfl, rfl⟩, pq_pim, if_neg (by omega), pq_pim, if_pos ⟨rfl, rfl, rfl⟩]
          · refine ⟨?_, ?_⟩
            · rw [pq_pim, if_neg (by omega), pq_pim, if_neg (by omega), pq_pim, if_neg (by omega), pq_pim, if_neg (by omega), pq_pim, if_neg (by omega), pq_pim, if_neg (by omega)]
              exact (karr k (by omega)).1
            · rw [pq_pim, if_neg (by omega), pq_pim, if_neg (by omega), pq_pim, if_neg (by omega), pq_pim, if_neg (by omega), pq_pim, if_neg (by omega), pq_pim, if_neg (by omega)]
              exact (karr k (by omega)).2
        · have eD : ∀ k, k < 9 → (ev_pim (ev_pim (ev_pim M3 39 0 (10 + 2 * c) (nI (vn_ B t1))) 39 0 (11 + 2 * c) (nI (vn_ B t2))) 39 0 9 (nI (c + 1))).1 39 0 k = M.1 39 0 k := fun k hk => by
            rw [pq_pim, if_neg (by omega), pq_pim, if_neg (by omega), pq_pim, if_neg (by omega)]
            exact hFM 39 0 k (by omega)
          obtain ⟨q1, -⟩ := nt_0 q
          obtain ⟨q2, -⟩ := nt_0 q1
          unfold pD_
          rw [eD 3 (by decide), eD 4 (by decide), eD 6 (by decide), eD 8 (by decide)]
          exact hp q2
        · unfold xc_ at q
          rw [pq_pim, if_neg (by omega), pq_pim, if_neg (by omega), pq_pim, if_neg (by omega)]
          exact hFm r i j (by omega)
        · rw [pq_pim, if_neg (by omega), pq_pim, if_neg (by omega), pq_pim, if_neg (by omega)]
          exact hFM r i j (by omega)
      · have ec : c = 4 := by omega
        subst ec
        rw [if_pos rfl] at hs0
        rw [hs0, nt_if (by decide) (by decide), nt_if (by decide) (by decide)] at y6
        have hk9 : m3.1 4 17 9 = nI 4 := (kc 9 (by decide)).trans k39
        have hadd : s_X1_addStar m3 17 (nI (vn_ B t1)) (m3.1 7 0 10) = (false, m3) := by
          unfold s_X1_addStar
          rw [hk9, if_neg (by decide)]
        obtain ⟨n1, n2⟩ := RC_.note (f := 3) (p := t.1) x6 (by decide) (by decide) (by omega)
        refine ⟨true, s_X4_note m3 0 (nI 3) (nI t.1), M3, ?_, ?_, fun _ => ⟨_, _, n1, y6, ⟨4, DH_.fr ⟨e0, k39, kc, karr⟩ n2 (fun _ _ _ _ => rfl), fun q => absurd q (nt_ne (by decide))⟩, by omega⟩, fun q => (by cases q), fun r i j q => ?_, fun r i j q q2 => hFM r i j (by omega)⟩
        · rw [pq_let, e1, pq_sb, e2, pq_sb, if_pos rfl, x4, pq_let, e3, pq_sb, if_pos rfl, hadd, pq_let, if_neg Bool.false_ne_true, h.1.1, pq_let, pq_sb] <;> rfl
        · rw [f1, pq_sb, if_neg (by decide), if_pos rfl, f2, pq_sb, if_pos rfl, y4, pq_let, pq_let, f3, pq_sb, if_pos rfl, if_neg (show ¬ (true, M3).2.1 39 0 9 < 4 by show ¬ M3.1 39 0 9 < 4; rw [k39]; decide)]
        · unfold xc_ at q
          rw [n2 r i j (by omega)]
          exact hFm r i j (by omega)
    · obtain ⟨m3, e3, x6, x7⟩ := (cl_num (lo := (nI (vn_ B t1))) (hi := 999) hB x3).2 k2
      have f3 := (rf_num (lo := (if nI (vn_ B t1) < 999 then nI (vn_ B t1) else 999)) (hi := 999) hB y3).2 k2
      refine ⟨false, m3, ev_pim M2 10 0 16 (nI t2.1), ?_, ?_, LN_.bad (by rw [x6, pq_pim, if_pos ⟨rfl, rfl, rfl⟩]) (hcF2.trans (fun r i j q => x7 r i j (by unfold xc_ at q; omega))) (hrF2.trans (fun r i j q q2 => by rw [pq_pim, if_neg (by omega)]))⟩
      · rw [pq_let, e1, pq_sb, e2, pq_sb, if_pos rfl, x4, pq_let, e3, pq_sb, if_neg Bool.false_ne_true, pq_sb] <;> rfl
      · rw [f1, pq_sb, if_neg (by decide), if_pos rfl, f2, pq_sb, if_pos rfl, y4, pq_let, pq_let, f3, pq_sb, if_neg Bool.false_ne_true]
  · obtain ⟨m2, e2, x3, x4⟩ := (cl_num (lo := 0) (hi := 999) hB x1).2 k1
    have f2 := (rf_num (lo := 0) (hi := 999) hB y1).2 k1
    refine ⟨false, m2, ev_pim M1 10 0 16 (nI t1.1), ?_, ?_, LN_.bad (by rw [x3, pq_pim, if_pos ⟨rfl, rfl, rfl⟩]) (hcF.trans (fun r i j q => x4 r i j (by unfold xc_ at q; omega))) (hrF.trans (fun r i j q q2 => by rw [pq_pim, if_neg (by omega)]))⟩
    · rw [pq_let, e1, pq_sb, e2, pq_sb, if_neg Bool.false_ne_true, pq_sb] <;> rfl
    · rw [f1, pq_sb, if_neg (by decide), if_pos rfl, f2, pq_sb, if_neg Bool.false_ne_true]
theorem hand_line {m M : ev_m} {B : Nat → Int32} {L : Nat} {t : Nat × Nat × Int32} {s : Nat × Nat} (hB : okB_ B L) (h : RC_ m B L t s) (g : RR_ M B L t s) (hJ : JD_ s m M) (hk : t.2.2 = 1) : ∃ b m' M', f_X4_takeLine m 0 1 = some (b, m') ∧ f_X10_handLine M 0 (wo_ B t) (nI t.1) = some (b, M') ∧ LN_ B L t.2.1 JD_ m M m' M' b := by
  have hno : (f_X4_handWord m 0 = some (-1)) → f_X4_isWord m 0 10 = some false → (∀ j, 10 ≤ j → j < 20 → wo_ B t ≠ W_ j) → ∃ b m' M', f_X4_takeLine m 0 1 = some (b, m') ∧ f_X10_handLine M 0 (wo_ B t) (nI t.1) = some (b, M') ∧ LN_ B L t.2.1 JD_ m M m' M' b := by
    intro hs hw hy
    refine ⟨false, m, _, ?_, ?_, LN_.stop h g⟩
    · unfold f_X4_takeLine f_X4_takeHandNumber
      rw [if_neg (by decide), if_pos rfl, hw, pq_sb, if_neg Bool.false_ne_true, hs, pq_sb, if_pos rfl, pq_sb]
    · unfold f_X10_handLine
      rw [if_neg (show ¬ wo_ B t = 6709618 from hy 11 (by decide) (by decide)), if_neg (show ¬ wo_ B t = 487301145451 from hy 12 (by decide) (by decide)), if_neg (show ¬ wo_ B t = 1650812270 from hy 13 (by decide) (by decide)), if_neg (show ¬ wo_ B t = 1684365668 from hy 14 (by decide) (by decide)), if_neg (show ¬ wo_ B t = 482905517684 from hy 15 (by decide) (by decide)), if_neg (show ¬ wo_ B t = 513021013607 from hy 16 (by decide) (by decide)), if_neg (show ¬ wo_ B t = 499985311076 from hy 17 (by decide) (by decide)), if_neg (show ¬ wo_ B t = 495740088435 from hy 18 (by decide) (by decide)), pq_let, if_pos rfl, if_neg (show ¬ wo_ B t = 1700885369 from hy 19 (by decide) (by decide)), if_neg (show ¬ wo_ B t = 1937006962 from hy 10 (by decide) (by decide)), rf_stops, pq_let]
  rcases tK_or B t with ⟨j, hj, tj⟩ | hn
  · rcases (show j < 10 ∨ j = 10 ∨ j = 11 ∨ j = 12 ∨ j = 13 ∨ j = 14 ∨ j = 15 ∨ j = 16 ∨ j = 17 ∨ j = 18 ∨ j = 19 ∨ 20 ≤ j by omega) with q | q | q | q | q | q | q | q | q | q | q | q
    · refine hno ?_ ?_ (fun i hi hi2 e => ?_)
      · rw [cl_handW hB h hj tj, if_pos (by omega)]
      · rw [cl_isWord hB h (by decide), tK_eq hj tj 10 (by decide), decide_eq_false (by omega)]
      · have := (wo_t hB h.2.2.2.1 hk (by omega)).mp e
        have := tK_one (by omega) hj this tj
        omega
    · subst q; exact hand_w10 hB h g hJ hk tj
    · subst q; exact hand_w11 hB h g hJ hk tj
    · subst q; exact hand_w12 hB h g hJ hk tj
    · subst q; exact hand_w13 hB h g hJ hk tj
    · subst q; exact hand_w14 hB h g hJ hk tj
    · subst q; exact hand_w15 hB h g hJ hk tj
    · subst q; exact hand_w16 hB h g hJ hk tj
    · subst q; exact hand_w17 hB h g hJ hk tj
    · subst q; exact hand_w18 hB h g hJ hk tj
    · subst q; exact hand_w19 hB h g hJ hk tj
    · refine hno ?_ ?_ (fun i hi hi2 e => ?_)
      · rw [cl_handW hB h hj tj, if_neg (by omega), if_neg (by omega)]
      · rw [cl_isWord hB h (by decide), tK_eq hj tj 10 (by decide), decide_eq_false (by omega)]
      · have := (wo_t hB h.2.2.2.1 hk (by omega)).mp e
        have := tK_one (by omega) hj this tj
        omega
  · refine hno (cl_handN hB h hn) ?_ (fun i hi hi2 e => ?_)
    · rw [cl_isWord hB h (by decide), hn 10 (by decide)]
    · have := (wo_t hB h.2.2.2.1 hk (by omega)).mp e
      rw [hn i (by omega)] at this
      cases this
