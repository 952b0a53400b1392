/-! pure: hands in turns, the call -/
theorem rr_R.lay {m m' : ev_m} {q : pu_Q} (h : rr_R m q) (F : pq_Fr (fun r _ => r != 41) m m') (e2 : m'.2 = m.2) : rr_R m' q := by
  obtain ⟨⟨q45, q46, q47, q48, q32, q26⟩, ⟨u33, u35, u36, u37, u38, u39, u49⟩, ⟨w34, w40, w41, w42⟩⟩ := h
  refine ⟨⟨?_, ?_, ?_, ?_, ?_, ?_⟩, ⟨?_, ?_, ?_, ?_, ?_, ?_, ?_⟩, ⟨?_, ?_, ?_, ?_⟩⟩
  · intro j hj; rw [F 45 0 j rfl]; exact q45 j hj
  · intro j hj; rw [F 46 0 j rfl]; exact q46 j hj
  · intro j hj; rw [F 47 0 j rfl]; exact q47 j hj
  · intro j hj; rw [F 48 0 j rfl]; exact q48 j hj
  · rw [F 10 0 32 rfl]; exact q32
  · rw [F 10 0 26 rfl]; exact q26
  · rw [e2]; exact u33
  · rw [e2]; exact u35
  · rw [F 10 0 36 rfl]; exact u36
  · rw [e2]; exact u37
  · rw [F 10 0 38 rfl]; exact u38
  · rw [F 10 0 39 rfl]; exact u39
  · intro j hj; rw [F 49 0 j rfl]; exact u49 j hj
  · rw [F 10 0 34 rfl]; exact w34
  · rw [F 10 0 40 rfl]; exact w40
  · rw [F 10 0 41 rfl]; exact w41
  · rw [F 10 0 42 rfl]; exact w42
theorem rf_turns {m0 mm m : ev_m} {c0 c1 c2 c3 n men row : Nat} {S : Nat → Int32} {x36 x38 x40 x42 : Int32} {y41 : Int64} {kx : ev_m → Option (Int32 × ev_m)} (hI : iv_B m0 0 c0 c1 c2 c3) (hS : pu_okS S) (hF : pq_Fr PI_ m0 mm) (hF2 : pq_Fr PR_ mm m) (hn : n ≤ 200) (h1 : 1 ≤ men) (hm : men ≤ 4) (hin : ∀ k, k < men → hd_ row men k < c1) (hR : rr_S m S) (h50 : ∀ i, i < men → m.1 50 0 i = nI (hd_ row men i)) :
    ∃ m', lp_X10_order_138 0 x36 (nI n) x38 (nI men) x40 y41 x42 4000 0 (s_X10_begin m 0 0) kx = kx m' ∧ rr_R m' (pu_or m0 S n men row men) ∧ rr_S m' S ∧ pq_Fr PR_ mm m' ∧ (∀ i, i < men → m'.1 50 0 i = nI (hd_ row men i)) ∧ (∀ i, m'.1 51 0 i = m.1 51 0 i) := by
  obtain ⟨r4, F4⟩ := rf_begin (seed := 0) hR
  refine lp_ixE (L := fun f i m => lp_X10_order_138 0 x36 (nI n) x38 (nI men) x40 y41 x42 f i m kx) (kx := kx) (T := fun k m' => rr_R m' (pu_or m0 S n men row k) ∧ rr_S m' S ∧ pq_Fr PR_ mm m' ∧ (∀ i, i < men → m'.1 50 0 i = nI (hd_ row men i)) ∧ (∀ i, m'.1 51 0 i = m.1 51 0 i)) (N := men)
    (by
      intro f m' _
      rw [lp_X10_order_138, if_neg (nI_nlt (Nat.le_refl _) (by omega))])
    (by
      intro f k m' hk ⟨t1, t2, t3, t4, t5⟩
      refine Or.inl ?_
      have hh := hin k hk
      have hb := hI.1.2.1
      obtain ⟨m6, e6, r6, -, F6⟩ := rf_layHand (m := m') (p := 0) (h := hd_ row men k) (by decide) (by omega)
      have hpD : (fun j => m'.1 36 0 (18 * hd_ row men k + j)) = pv_D m0 (hd_ row men k) := by
        funext j
        rw [t3 36 0 _ rfl, hF 36 0 _ (PI_k (by decide))]
        rfl
      rw [hpD] at r6
      have em2 : m6.2 = m'.2 := by
        obtain ⟨mx, ex, exx⟩ := rf_lh2 (m := m') (p := 0) (h := hd_ row men k) (by decide) (by omega)
        rw [e6] at ex
        cases ex
        exact exx
      have r6R := t1.lay F6 em2
      have s6 : rr_S m6 S := fun j hj => (F6 40 0 j rfl).trans (t2 j hj)
      have hle := pu_or_le m0 S (n := n) row hk
      obtain ⟨m7, e7, r7, F7⟩ := rf_steer (p := 0) (n := pn_t n men k) (by decide) (iv_okD hI hh) hS (by omega) r6 s6 r6R
      refine ⟨m7, ?_, r7, s6.fr F7 rfl, (t3.trans (F6.sub (fun r i q => pv_L41 r i (PR_L r i q)))).trans (F7.sub PR_P), fun i hi => ?_, fun i => ?_⟩
      · have hdm : n / men * k ≤ n := Nat.le_trans (Nat.mul_le_mul_left _ (Nat.le_of_lt hk)) (Nat.div_mul_le_self n men)
        rw [lp_X10_order_138, if_pos (nI_lt hk (by omega)), pq_ald (by omega) (by decide), pq_sb, t4 k hk, show f_X10_layHand m' 0 0 (nI (hd_ row men k)) = _ from e6, pq_sb, show (1 : Int32) = nI 1 from rfl, pk_sub (by omega), ev_dvN (by omega) (by omega) (by omega), pq_sb, pq_sb]
        unfold jn_X10_order_186_138
        by_cases hl : k + 1 = men
        · rw [if_neg (nI_nlt (by omega) (by omega)), pk_mul, show men - 1 = k by omega, pk_sub hdm, show n - n / men * k = pn_t n men k by unfold pn_t; rw [if_pos hl], show f_X10_steer m6 0 0 (nI (pn_t n men k)) = _ from e7, pq_sb, nI_1]
        · rw [if_pos (nI_lt (by omega) (by omega)), show nI (n / men) = nI (pn_t n men k) by unfold pn_t; rw [if_neg hl], show f_X10_steer m6 0 0 (nI (pn_t n men k)) = _ from e7, pq_sb, nI_1]
      · rw [F7 50 0 i rfl, F6 50 0 i rfl]
        exact t4 i hi
      · rw [F7 51 0 i rfl, F6 51 0 i rfl]
        exact t5 i)
    men 4000 0 (s_X10_begin m 0 0) (by omega) (by omega) ⟨r4, hR.fr F4 rfl, hF2.trans (F4.sub PR_P), fun i hi => (F4 50 0 i rfl).trans (h50 i hi), fun i => F4 51 0 i rfl⟩
theorem rf_best {x63 x64 x65 x68 : Int32} {y67 : Int64} {men : Nat} {kx : ev_m → Option (Int32 × ev_m)} (hm : men ≤ 4) (m : ev_m) : ∃ m', lp_X10_order_222 0 x63 x64 x65 (nI men) y67 x68 4000 0 m kx = kx m' ∧ (∀ i, i < men → m'.1 51 0 i = m.1 50 0 i) ∧ (∀ r i k, r ≠ 51 → m'.1 r i k = m.1 r i k) := by
  obtain ⟨m', e, h1, h2⟩ := lp_ixE (L := fun f i m => lp_X10_order_222 0 x63 x64 x65 (nI men) y67 x68 f i m kx) (kx := kx) (T := fun k m' => (∀ i, i < k → m'.1 51 0 i = m.1 50 0 i) ∧ (∀ r i k, r ≠ 51 → m'.1 r i k = m.1 r i k)) (N := men)
    (by
      intro f m' _
      rw [lp_X10_order_222, if_neg (nI_nlt (Nat.le_refl _) (by omega))])
    (by
      intro f k m' hk ⟨t1, t2⟩
      refine Or.inl ⟨ev_pim m' 51 0 k (m'.1 50 0 k), ?_, fun i hi => ?_, fun r i j hr => ?_⟩
      · rw [lp_X10_order_222, if_pos (nI_lt hk (by omega)), pq_ald (by omega) (by decide), pq_sb, pq_ast (by omega) (by decide), pq_sb, nI_1]
      · rw [pq_pim]
        by_cases e : i = k
        · rw [if_pos ⟨rfl, rfl, e⟩, e]
          exact t2 50 0 k (by decide)
        · rw [if_neg (fun q => e q.2.2)]
          exact t1 i (by omega)
      · rw [pq_pim, if_neg (fun q => hr q.1)]
        exact t2 r i j hr)
    men 4000 0 m (by omega) (by omega) ⟨fun i hi => absurd hi (Nat.not_lt_zero i), fun _ _ _ _ => rfl⟩
  exact ⟨m', e, h1, h2⟩
def pcn (H : Nat) : Nat := H % 2 + H / 2 % 2 + H / 4 % 2 + H / 8 % 2
theorem cl_bits {m : ev_m} {H : Nat} (h : H < 16) : s_J6_bitCount_0f7a4 m (nI H) = nI (pcn H) := by
  unfold s_J6_bitCount_0f7a4 pcn
  simp only [pq_let]
  rcases (show H = 0 ∨ H = 1 ∨ H = 2 ∨ H = 3 ∨ H = 4 ∨ H = 5 ∨ H = 6 ∨ H = 7 ∨ H = 8 ∨ H = 9 ∨ H = 10 ∨ H = 11 ∨ H = 12 ∨ H = 13 ∨ H = 14 ∨ H = 15 by omega) with rfl | rfl | rfl | rfl | rfl | rfl | rfl | rfl | rfl | rfl | rfl | rfl | rfl | rfl | rfl | rfl <;> decide +kernel
def pb_ (x : Int32) (j : Nat) : Int32 := if ((x >>> (nI j &&& 31)) &&& 1) = 1 then 1 else 0
theorem rf_bits_s {m : ev_m} {x3 x4 x5 x6 x7 : Int32} {f j : Nat} {kx : Int32 → Option (Int32 × ev_m)} (hj : j < 4) : lp_X10_order_11 m 0 x3 x4 x5 x6 (f + 1) x7 (nI j) kx = lp_X10_order_11 m 0 x3 x4 x5 x6 f (x7 + pb_ x4 j) (nI (j + 1)) kx := by
  rw [lp_X10_order_11, if_pos (show nI j < 4 from nI_lt (b := 4) hj (by decide)), pq_let, pq_let, nI_1]
  have : (if s_X10_has m x4 (nI j) = true then 1 else 0 : Int32) = pb_ x4 j := by
    unfold s_X10_has pb_
    split <;> rfl
  rw [this]
def pb_s (x : Int32) : Int32 := 0 + pb_ x 0 + pb_ x 1 + pb_ x 2 + pb_ x 3
theorem rf_bits {m : ev_m} {x3 x4 x5 x6 : Int32} {kx : Int32 → Option (Int32 × ev_m)} : lp_X10_order_11 m 0 x3 x4 x5 x6 4000 0 0 kx = kx (pb_s x4) := by
  have e : lp_X10_order_11 m 0 x3 x4 x5 x6 4000 0 (nI 0) kx = kx (pb_s x4) := by
    rw [rf_bits_s (by decide), rf_bits_s (by decide), rf_bits_s (by decide), rf_bits_s (by decide), lp_X10_order_11, if_neg (by decide)]
    rfl
  exact e
theorem pb_n {H : Nat} (h : H < 16) : pb_s (nI H) = nI (pcn H) := by
  unfold pb_s pcn pb_
  rcases (show H = 0 ∨ H = 1 ∨ H = 2 ∨ H = 3 ∨ H = 4 ∨ H = 5 ∨ H = 6 ∨ H = 7 ∨ H = 8 ∨ H = 9 ∨ H = 10 ∨ H = 11 ∨ H = 12 ∨ H = 13 ∨ H = 14 ∨ H = 15 by omega) with rfl | rfl | rfl | rfl | rfl | rfl | rfl | rfl | rfl | rfl | rfl | rfl | rfl | rfl | rfl | rfl <;> decide +kernel
theorem sh3 {c H : Nat} (hc : c ≤ 4) (hH : H < 2 ^ 31) : nI H >>> (nI c &&& 31) = nI (H / 2 ^ c) := by
  rcases (show c = 0 ∨ c = 1 ∨ c = 2 ∨ c = 3 ∨ c = 4 by omega) with rfl | rfl | rfl | rfl | rfl
  · exact pk_shrN hH _ 0 (by decide)
  · exact pk_shrN hH _ 1 (by decide)
  · exact pk_shrN hH _ 2 (by decide)
  · exact pk_shrN hH _ 3 (by decide)
  · exact pk_shrN hH _ 4 (by decide)
theorem ho_some {H : Nat} (h0 : 0 < H) (h : H < 16) : 1 ≤ pcn H ∧ pcn H ≤ 4 ∧ ∃ row, row < 4 ^ pcn H ∧ ho_ row (pcn H) (pcn H) = H := by
  rcases (show H = 1 ∨ H = 2 ∨ H = 3 ∨ H = 4 ∨ H = 5 ∨ H = 6 ∨ H = 7 ∨ H = 8 ∨ H = 9 ∨ H = 10 ∨ H = 11 ∨ H = 12 ∨ H = 13 ∨ H = 14 ∨ H = 15 by omega) with rfl | rfl | rfl | rfl | rfl | rfl | rfl | rfl | rfl | rfl | rfl | rfl | rfl | rfl | rfl
  · exact ⟨by decide, by decide, 0, by decide, by decide⟩
  · exact ⟨by decide, by decide, 1, by decide, by decide⟩
  · exact ⟨by decide, by decide, 1, by decide, by decide⟩
  · exact ⟨by decide, by decide, 2, by decide, by decide⟩
  · exact ⟨by decide, by decide, 2, by decide, by decide⟩
  · exact ⟨by decide, by decide, 6, by decide, by decide⟩
  · exact ⟨by decide, by decide, 6, by decide, by decide⟩
  · exact ⟨by decide, by decide, 3, by decide, by decide⟩
  · exact ⟨by decide, by decide, 3, by decide, by decide⟩
  · exact ⟨by decide, by decide, 7, by decide, by decide⟩
  · exact ⟨by decide, by decide, 7, by decide, by decide⟩
  · exact ⟨by decide, by decide, 11, by decide, by decide⟩
  · exact ⟨by decide, by decide, 11, by decide, by decide⟩
  · exact ⟨by decide, by decide, 27, by decide, by decide⟩
  · exact ⟨by decide, by decide, 27, by decide, by decide⟩
def po_c (p : Nat → Bool) (c : Nat → Int64) (k : Nat) : Int32 × Int64 := match po_ p c k with
  | none => (-1, 9223372036854775807)
  | some j => (nI j, c j)
def po_r (p : Nat → Bool) (c : Nat → Int64) (k : Nat) : Int32 × Int64 := match po_ p c k with
  | none => (0, 0)
  | some j => (1, c j)
/-- ORDER, where all is told -/
theorem k_order_t {m : ev_m} {c0 c1 c2 c3 s n H k : Nat} (hI : iv_B m 0 c0 c1 c2 c3) (hs : s < c0) (h0 : 0 < H) (hH : H < 2 ^ c1) (hn1 : pcn H ≤ n) (hn2 : n ≤ 200) (hk : k < pcn H) : kc_ m (fun m => f_X9_order m 0 (nI s) (nI H) (nI n) (nI k)) (fun m => f_X10_order m 0 (nI s) (nI H) (nI n) (nI k)) := by
  have hb := hI.1.2.1
  have hs2 : s < 2 := by have := hI.1.1; omega
  have hH16 : H < 16 := Nat.lt_of_lt_of_le hH (show 2 ^ c1 ≤ 2 ^ 4 from Nat.pow_le_pow_right (by decide) hb)
  have hS := iv_okS hI hs
  obtain ⟨hm1, hm4, row0, hr0, hr1⟩ := ho_some h0 hH16
  generalize hmen : pcn H = men at *
  have hw : 4 ^ (4 - men) * 4 ^ men = 256 := by
    rw [← Nat.pow_add, show 4 - men + men = 4 by omega]
  have hwp : 0 < 4 ^ (4 - men) := Nat.pow_pos (by decide)
  have hmp : 4 ^ men ≤ 256 := by
    have := Nat.le_mul_of_pos_left (4 ^ men) hwp
    omega
  obtain ⟨Q, hQ⟩ : ∃ Q : Nat → Bool, ∀ r, decide (ho_ r men men = H) = Q r := ⟨_, fun _ => rfl⟩
  obtain ⟨C, hC⟩ : ∃ C : Nat → Int64, ∀ r, pc_or m (pv_S m s) n men r = C r := ⟨_, fun _ => rfl⟩
  have hCb : ∀ r, C r < 9223372036854775807 := fun r => by rw [← hC]; exact pc_or_b m hS r hm1 hn2
  have hin : ∀ r, Q r = true → ∀ j, j < men → hd_ r men j < c1 := by
    intro r hq j hj
    rw [← hQ, decide_eq_true_eq] at hq
    have h1 := ho_le (row := r) (men := men) hj
    rw [hq] at h1
    exact (Nat.pow_lt_pow_iff_right (by decide)).mp (Nat.lt_of_le_of_lt h1 hH)
  have hP : (fun c => decide (c % 4 ^ (4 - men) = 0) && Q (c / 4 ^ (4 - men))) = pi_ok men H := by
    funext c
    rw [← hQ]
    rfl
  obtain ⟨j, hj⟩ : ∃ j, po_ Q C (4 ^ men) = some j := by
    cases h : po_ Q C (4 ^ men) with
    | none => exact absurd h (po_yes (by rw [← hQ, decide_eq_true_eq]; exact hr1) hr0)
    | some j => exact ⟨j, rfl⟩
  have hjl := po_lt hj
  have hj2 : po_ (pi_ok men H) (fun c => C (c / 4 ^ (4 - men))) 256 = some (4 ^ (4 - men) * j) := by
    rw [← hw, ← hP, po_mul hwp, hj]
    rfl
  obtain ⟨m2, e2, t2⟩ := lp_mem (L := fun f (a : Int32 × Int64) i m' => lp_X9_order_88 0 (nI H) (nI n) (nI k) s (nI men) f a.1 a.2 i m' (fun x34 m35 => (if x34 = ((-1)) then (some (((-1), m35))) else (some ((s_X9_handIn m35 x34 (nI men) (nI k), m35)))))) (kx := fun a m35 => (if a.1 = ((-1)) then (some (((-1), m35))) else (some ((s_X9_handIn m35 a.1 (nI men) (nI k), m35))))) (T := fun m' => pq_Fr PI_ m m') (N := 4 ^ men) (g := po_c Q C) (ix := nI)
    (by
      intro f m'
      rw [lp_X9_order_88, sh2 hm4, if_neg (nI_nlt (Nat.le_refl _) (by omega))])
    (by
      intro f r m' hr hT
      rw [lp_X9_order_88, sh2 hm4, if_pos (nI_lt hr (by omega)), cl_handsOf (by omega) hm4, pq_sb]
      by_cases hq : Q r = true
      · obtain ⟨m'', e, t⟩ := cl_turns (n := n) hI hs hT hn2 hm1 hm4 (show r < 256 by omega) (hin r hq)
        rw [hC] at e
        have hq2 := hq
        rw [← hQ, decide_eq_true_eq] at hq2
        refine ⟨m'', ?_, t⟩
        rw [if_pos (by rw [hq2]), e, pq_sb, pq_let, pq_let, pq_let, nI_1]
        have hg : po_c Q C (r + 1) = (if C r < (po_c Q C r).2 then nI r else (po_c Q C r).1, if C r < (po_c Q C r).2 then C r else (po_c Q C r).2) := by
          unfold po_c
          rw [po_s, if_pos hq]
          cases po_ Q C r with
          | none =>
            dsimp only
            rw [if_pos (hCb r), if_pos (hCb r)]
          | some i =>
            dsimp only
            by_cases h : C r < C i
            · rw [if_pos h, if_pos h, if_pos h]
            · rw [if_neg h, if_neg h, if_neg h]
        rw [hg]
      · have hq2 : ¬ ho_ r men men = H := fun e => hq (by rw [← hQ, decide_eq_true_eq]; exact e)
        have hlt := ho_lt r men men
        refine ⟨m', ?_, hT⟩
        rw [if_neg (fun e => hq2 ((nI_eq (by omega) (by omega)).mp e))]
        unfold jn_X9_order_139_88
        have hg : po_c Q C (r + 1) = po_c Q C r := by
          unfold po_c
          rw [po_s, if_neg hq]
        rw [hg, nI_1])
    (4 ^ men) 4000 0 m (by omega) (by omega) (pq_Fr.refl _ m)
  have hI2 := hI.fr (t2.trans PI_pim) (by decide) (m' := ev_pim m2 10 0 0 0)
  obtain ⟨m3, e3, r3, F3⟩ := rf_layShip (m := ev_pim m2 10 0 0 0) (s := s) hs2
  have hpS : (fun k => (ev_pim m2 10 0 0 0).1 35 0 (23 * s + k)) = pv_S m s := pv_S.fr (t2.trans PI_pim) (PI_k (by decide)) s
  rw [hpS] at r3
  have F3' : pq_Fr PR_ m2 m3 := ((pq_Fr.refl PR_ m2).pim rfl).trans (F3.sub (fun r i q => pv_L40 r i (PR_L r i q)))
  obtain ⟨m5, e5, s5, F5, b5⟩ := lp_ixS (L := fun f (a : Int32 × Int64) i m' => lp_X10_order_107 0 (nI H) (nI n) (nI k) (nI men) f a.1 a.2 i m' (fun m80 => (ev_ald (m80.1 51 0) 4 (nI k)).bind (fun x81 => (some ((x81, m80)))))) (kx := fun a m80 => (ev_ald (m80.1 51 0) 4 (nI k)).bind (fun x81 => (some ((x81, m80))))) (T := fun c m' => rr_S m' (pv_S m s) ∧ pq_Fr PR_ m2 m' ∧ ∀ j, po_ (pi_ok men H) (fun c => C (c / 4 ^ (4 - men))) c = some j → ∀ i, i < men → m'.1 51 0 i = nI (hd_ (j / 4 ^ (4 - men)) men i)) (N := 256) (g := po_r (pi_ok men H) (fun c => C (c / 4 ^ (4 - men))))
    (by
      intro f m' _
      rw [lp_X10_order_107, if_neg (by decide)])
    (by
      intro f c m' hc ⟨u1, u2, u3⟩
      rw [lp_X10_order_107, if_pos (show nI c < 256 from nI_lt (b := 256) hc (by decide))]
      obtain ⟨m6, e6, g1, g2, g3⟩ := rf_io (m := m') hH16 hc hm1 hm4
      have hF6 : pq_Fr (fun r _ => r != 50) m' m6 := fun r i k h => g1 r i k (by simpa using h)
      have hPR50 : ∀ r i, PR_ r i = true → (r != 50) = true := by
        intro r i h
        rw [bne_iff_ne]
        intro e
        subst e
        cases h
      have s6 : rr_S m6 (pv_S m s) := fun j hj => (g1 40 0 j (by decide)).trans (u1 j hj)
      have F6 : pq_Fr PR_ m2 m6 := u2.trans (hF6.sub hPR50)
      rw [e6, pq_sb]
      dsimp only
      by_cases hq : pi_ok men H c = true
      · rw [if_pos hq, pq_let]
        have hq2 := hq
        unfold pi_ok at hq2
        rw [Bool.and_eq_true, decide_eq_true_eq, hQ] at hq2
        have h50 := g3 hq2.1
        have hin' := hin _ hq2.2
        obtain ⟨m7, e7, r7, s7, F7, b7, d7⟩ := rf_turns (x36 := nI H) (x38 := nI k) (x40 := (po_r (pi_ok men H) (fun c => C (c / 4 ^ (4 - men))) c).1) (y41 := (po_r (pi_ok men H) (fun c => C (c / 4 ^ (4 - men))) c).2) (x42 := nI c) (n := n) (row := c / 4 ^ (4 - men)) (kx := fun m57 => (if (po_r (pi_ok men H) (fun c => C (c / 4 ^ (4 - men))) c).1 = 0 then (jn_X10_order_210_107 m57 0 (nI H) (nI n) (nI k) (nI men) (nI c) (fun z0 z1 z2 z3 => lp_X10_order_107 0 (nI H) (nI n) (nI k) (nI men) f z0 z1 z2 z3 (fun m80 => (ev_ald (m80.1 51 0) 4 (nI k)).bind (fun x81 => (some ((x81, m80)))))) (fun m80 => (ev_ald (m80.1 51 0) 4 (nI k)).bind (fun x81 => (some ((x81, m80)))))) else (if (s_X10_cost m57 0) < (po_r (pi_ok men H) (fun c => C (c / 4 ^ (4 - men))) c).2 then (jn_X10_order_210_107 m57 0 (nI H) (nI n) (nI k) (nI men) (nI c) (fun z0 z1 z2 z3 => lp_X10_order_107 0 (nI H) (nI n) (nI k) (nI men) f z0 z1 z2 z3 (fun m80 => (ev_ald (m80.1 51 0) 4 (nI k)).bind (fun x81 => (some ((x81, m80)))))) (fun m80 => (ev_ald (m80.1 51 0) 4 (nI k)).bind (fun x81 => (some ((x81, m80)))))) else (jn_X10_order_249_107 m57 0 (nI H) (nI n) (nI k) (nI men) (po_r (pi_ok men H) (fun c => C (c / 4 ^ (4 - men))) c).1 (po_r (pi_ok men H) (fun c => C (c / 4 ^ (4 - men))) c).2 (nI c) (fun z0 z1 z2 z3 => lp_X10_order_107 0 (nI H) (nI n) (nI k) (nI men) f z0 z1 z2 z3 (fun m80 => (ev_ald (m80.1 51 0) 4 (nI k)).bind (fun x81 => (some ((x81, m80)))))) (fun m80 => (ev_ald (m80.1 51 0) 4 (nI k)).bind (fun x81 => (some ((x81, m80))))))))) hI hS t2 F6 hn2 hm1 hm4 hin' s6 h50
        have hcost := rf_cost r7 s7
        have hcost : s_X10_cost m7 0 = C (c / 4 ^ (4 - men)) := by
          rw [hcost, ← hC]
          rfl
        obtain ⟨m8, e8, b8, F8⟩ := rf_best (x63 := nI H) (x64 := nI n) (x65 := nI k) (y67 := C (c / 4 ^ (4 - men))) (x68 := nI c) (kx := fun m74 => (jn_X10_order_249_107 m74 0 (nI H) (nI n) (nI k) (nI men) 1 (C (c / 4 ^ (4 - men))) (nI c) (fun z0 z1 z2 z3 => lp_X10_order_107 0 (nI H) (nI n) (nI k) (nI men) f z0 z1 z2 z3 (fun m80 => (ev_ald (m80.1 51 0) 4 (nI k)).bind (fun x81 => (some ((x81, m80)))))) (fun m80 => (ev_ald (m80.1 51 0) 4 (nI k)).bind (fun x81 => (some ((x81, m80))))))) hm4 m7
        have hF8 : pq_Fr PR_ m2 m8 := F7.trans (fun r i k h => F8 r i k (by
          intro e
          subst e
          cases h))
        have s8 : rr_S m8 (pv_S m s) := fun j hj => (F8 40 0 j (by decide)).trans (s7 j hj)
        have hb8 : ∀ i, i < men → m8.1 51 0 i = nI (hd_ (c / 4 ^ (4 - men)) men i) := fun i hi => (b8 i hi).trans (b7 i hi)
        rw [e7]
        try dsimp only
        unfold jn_X10_order_210_107
        rw [hcost, pq_let, e8]
        unfold jn_X10_order_249_107
        rw [nI_1]
        have hps := po_s (pi_ok men H) (fun c => C (c / 4 ^ (4 - men))) c
        rw [if_pos hq] at hps
        cases hp : po_ (pi_ok men H) (fun c => C (c / 4 ^ (4 - men))) c with
        | none =>
          rw [hp] at hps
          dsimp only at hps
          refine ⟨m8, ?_, s8, hF8, fun j hj i hi => ?_⟩
          · unfold po_r
            rw [hp, hps]
            dsimp only
            rw [if_pos rfl]
          · rw [hps] at hj
            cases hj
            exact hb8 i hi
        | some a =>
          rw [hp] at hps
          dsimp only at hps
          by_cases hlt : C (c / 4 ^ (4 - men)) < C (a / 4 ^ (4 - men))
          · rw [if_pos hlt] at hps
            refine ⟨m8, ?_, s8, hF8, fun j hj i hi => ?_⟩
            · unfold po_r
              rw [hp, hps]
              dsimp only
              rw [if_neg (by decide), if_pos hlt]
            · rw [hps] at hj
              cases hj
              exact hb8 i hi
          · rw [if_neg hlt] at hps
            refine ⟨m7, ?_, s7, F7, fun j hj i hi => ?_⟩
            · unfold po_r
              rw [hp, hps]
              dsimp only
              rw [if_neg (by decide), if_neg hlt]
            · rw [hps] at hj
              cases hj
              rw [d7, g1 51 0 i (by decide)]
              exact u3 a hp i hi
      · rw [if_neg hq]
        unfold jn_X10_order_249_107
        have hps := po_s (pi_ok men H) (fun c => C (c / 4 ^ (4 - men))) c
        rw [if_neg hq] at hps
        refine ⟨m6, ?_, s6, F6, fun j hj i hi => ?_⟩
        · unfold po_r
          rw [hps, nI_1]
        · rw [hps] at hj
          rw [g1 51 0 i (by decide)]
          exact u3 j hj i hi)
    256 4000 0 m3 (by decide) (by decide) ⟨r3, F3', fun j hj => by cases hj⟩
  have hfin := b5 _ hj2 k hk
  rw [Nat.mul_div_cancel_left j hwp] at hfin
  refine ⟨nI (hd_ j men k), m2, m5, ?_, ?_, t2.trans (F5.sub PI_R)⟩
  · try dsimp only
    unfold f_X9_order
    rw [at_t hI hs, pq_sb, cl_bits hH16, hmen, pq_let, hI.2.1.2.1, sh1b hb, if_pos (show 0 < nI H from nI_lt (a := 0) h0 (by omega)), if_pos (nI_lt hH (Nat.lt_of_le_of_lt (show 2 ^ c1 ≤ 2 ^ 4 from Nat.pow_le_pow_right (by decide) hb) (by decide))), pq_let, pq_on1, if_neg (by decide), show s_X9_isTrial m (nI n) = true from in_T (m := m) (a := 1) (b := 200) (by omega) hn2 (by decide), if_pos rfl, if_neg (nI_nlt hn1 (by omega)), if_neg (nI_pos (by omega)), if_pos (nI_lt hk (by omega))]
    refine Eq.trans e2 ?_
    have hg : po_c Q C (4 ^ men) = (nI j, C j) := by
      unfold po_c
      rw [hj]
    rw [hg]
    dsimp only
    rw [if_neg (nI_m1 (by omega)), cl_handIn (by omega) hm4 hk]
  · try dsimp only
    unfold f_X10_order
    rw [pq_let, rf_bits, pb_n hH16, hmen, show f_X10_is (ev_pim m2 10 0 0 0) 0 0 (nI s) = _ from rf_is (t := 0) (by decide) hI2.2.2.1.1, pq_sb, is_T hs (by have := hI.1.1; omega), if_pos rfl, if_pos (show 0 < nI H from nI_lt (a := 0) h0 (by omega)), show (ev_pim m2 10 0 0 0).1 34 0 1 = nI c1 from hI2.2.2.1.2.1, sh3 hb (by omega), Nat.div_eq_of_lt hH, if_pos (show nI 0 = 0 from rfl), if_pos (show s_X10_in (ev_pim m2 10 0 0 0) (nI n) (nI men) 200 = true from in_T (b := 200) hn1 hn2 (by decide)), show nI men - 1 = nI (men - 1) from pk_sub (b := 1) hm1, if_pos (show s_X10_in (ev_pim m2 10 0 0 0) (nI k) 0 (nI (men - 1)) = true from in_T (a := 0) (by omega) (by omega) (by omega)), show f_X10_layShip (ev_pim m2 10 0 0 0) 0 (nI s) = _ from e3, pq_sb]
    refine Eq.trans e5 ?_
    rw [pq_ald (by omega) (by decide), pq_sb, hfin]
/-- ORDER -/
theorem k_order {m : ev_m} {c0 c1 c2 c3 : Nat} (hI : iv_B m 0 c0 c1 c2 c3) (x y z w : Int32) : kc_ m (fun m => f_X9_order m 0 x y z w) (fun m => f_X10_order m 0 x y z w) := by
  have hb := hI.1.2.1
  by_cases hv : ∃ s H n k, s < c0 ∧ x = nI s ∧ 0 < H ∧ H < 2 ^ c1 ∧ y = nI H ∧ pcn H ≤ n ∧ n ≤ 200 ∧ z = nI n ∧ k < pcn H ∧ w = nI k
  · obtain ⟨s, H, n, k, hs, rfl, h0, hH, rfl, h1, h2, rfl, hk, rfl⟩ := hv
    exact k_order_t hI hs h0 hH h1 h2 hk
  · have hI1 := hI.fr PI_pim (by decide) (m' := ev_pim m 10 0 0 0)
    refine ⟨-1, m, ev_pim m 10 0 0 0, ?_, ?_, PI_pim⟩
    · try dsimp only
      unfold f_X9_order
      by_cases hx : ∃ s, s < c0 ∧ x = nI s
      · obtain ⟨s, hs, rfl⟩ := hx
        rw [at_t hI hs, pq_sb, pq_let, hI.2.1.2.1, sh1b hb]
        by_cases y0 : 0 < y
        · obtain ⟨H, hH, rfl⟩ := nI_of (x := y) (by rw [lt_i0]; rw [i0_lt] at y0; omega)
          have h0 : 0 < H := by
            rcases Nat.eq_zero_or_pos H with e | e
            · subst e
              exact absurd y0 (by decide)
            · exact e
          rw [if_pos y0]
          by_cases y1 : nI H < nI (2 ^ c1)
          · have hH2 : H < 2 ^ c1 := (nI_ltI hH (Nat.lt_of_le_of_lt (show 2 ^ c1 ≤ 2 ^ 4 from Nat.pow_le_pow_right (by decide) hb) (by decide))).mp y1
            have hH16 : H < 16 := Nat.lt_of_lt_of_le hH2 (show 2 ^ c1 ≤ 2 ^ 4 from Nat.pow_le_pow_right (by decide) hb)
            obtain ⟨p1, p4, -⟩ := ho_some h0 hH16
            rw [if_pos y1, pq_let, pq_on1, if_neg (by decide), cl_bits hH16]
            by_cases ez : s_X9_isTrial m z = true
            · obtain ⟨n, hn1, hn2, rfl⟩ := in_F (m := m) (a := 1) (b := 200) (by decide) (by decide) ez
              rw [if_pos ez]
              by_cases z1 : nI n < nI (pcn H)
              · rw [if_pos z1]
              · rw [if_neg z1]
                by_cases w1 : w < 0
                · rw [if_pos w1]
                · rw [if_neg w1]
                  obtain ⟨k, hk, rfl⟩ := nI_of w1
                  by_cases w2 : nI k < nI (pcn H)
                  · refine absurd ⟨s, H, n, k, hs, rfl, h0, hH2, rfl, ?_, hn2, rfl, (nI_ltI hk (by omega)).mp w2, rfl⟩ hv
                    rw [nI_ltI (by omega) (by omega)] at z1
                    omega
                  · rw [if_neg w2]
            · rw [if_neg ez]
          · rw [if_neg y1, pq_let, pq_on1, if_pos rfl]
        · rw [if_neg y0, pq_let, pq_on1, if_pos rfl]
      · rw [at_f hI hx, pq_sb, pq_let, pq_let, pq_on0]
    · try dsimp only
      unfold f_X10_order
      rw [pq_let, rf_bits, show f_X10_is (ev_pim m 10 0 0 0) 0 0 x = _ from rf_is (t := 0) (by decide) hI1.2.2.1.1, pq_sb]
      by_cases hx : s_X10_in (ev_pim m 10 0 0 0) x 0 (nI c0 - 1) = true
      · rw [if_pos hx]
        obtain ⟨s, hs, rfl⟩ := is_F (by have := hI.1.1; omega) hx
        by_cases y0 : 0 < y
        · rw [if_pos y0, show (ev_pim m 10 0 0 0).1 34 0 1 = nI c1 from hI1.2.2.1.2.1]
          obtain ⟨H, hH, rfl⟩ := nI_of (x := y) (by rw [lt_i0]; rw [i0_lt] at y0; omega)
          have h0 : 0 < H := by
            rcases Nat.eq_zero_or_pos H with e | e
            · subst e
              exact absurd y0 (by decide)
            · exact e
          rw [sh3 hb hH]
          by_cases y1 : nI (H / 2 ^ c1) = 0
          · rw [if_pos y1]
            have hH2 : H < 2 ^ c1 := by
              have hle : H / 2 ^ c1 ≤ H := Nat.div_le_self _ _
              have := (nI_eq (a := H / 2 ^ c1) (b := 0) (by omega) (by decide)).mp y1
              apply Nat.lt_of_not_le
              intro hle2
              have := Nat.div_pos hle2 (Nat.pow_pos (by decide))
              omega
            have hH16 : H < 16 := Nat.lt_of_lt_of_le hH2 (show 2 ^ c1 ≤ 2 ^ 4 from Nat.pow_le_pow_right (by decide) hb)
            obtain ⟨p1, p4, -⟩ := ho_some h0 hH16
            rw [pb_n hH16]
            by_cases z1 : s_X10_in (ev_pim m 10 0 0 0) z (nI (pcn H)) 200 = true
            · rw [if_pos z1]
              obtain ⟨n, hn1, hn2, rfl⟩ := in_F (b := 200) (by decide) (by omega) z1
              by_cases w1 : s_X10_in (ev_pim m 10 0 0 0) w 0 (nI (pcn H) - 1) = true
              · obtain ⟨k, hk, rfl⟩ := is_F (by omega) w1
                exact absurd ⟨s, H, n, k, hs, rfl, h0, hH2, rfl, hn1, hn2, rfl, hk, rfl⟩ hv
              · rw [if_neg w1]
            · rw [if_neg z1]
          · rw [if_neg y1]
        · rw [if_neg y0]
      · rw [if_neg hx]
