/-! methods by hand: rows of ints read, written, copied; the texts of String constants -/
def ev_at (f : Nat → Int32) (n : Nat) (x : Int32) : Int32 := if 0 ≤ x.toInt ∧ x.toInt < n then f x.toNatClampNeg else 0
def ev_put (m : ev_m) (r i n : Nat) (x y : Int32) : ev_m := if 0 ≤ x.toInt ∧ x.toInt < n then ev_pim m r i x.toNatClampNeg y else m
def ev_cpm (m : ev_m) (r i i' n : Nat) : ev_m := ev_prm m r i' (va_cpy (m.1 r i) (m.1 r i') 0 0 n)
def ev_tcp (m : ev_m) (o : Option Nat) (i : Nat) : ev_m := match o with
  | none => m
  | some a => ev_pim (ev_cpm m 11 a i 600) 2 i 1 (m.1 2 a 1)
def ev_sl (j : Nat) : Int32 := Int32.ofNat (ev_strL.getD j 0)
def ev_sc (j : Nat) (x : Int32) : Option Int32 := ev_ald (fun k => (ev_strB.getD j []).getD k 0) (ev_strL.getD j 0) x
theorem ev_lenT31 (r : Nat) : ev_len r < 2 ^ 31 := by
  by_cases h : r < 64
  · exact ev_len31 r h
  · have : ev_lenT.length ≤ r := by show 64 ≤ r; omega
    unfold ev_len
    rw [List.getD_eq_getElem?_getD, List.getElem?_eq_none this]
    decide
theorem ev_ge0 {x : Int32} : ¬ x < 0 ↔ 0 ≤ x.toInt := by
  rw [Int32.lt_iff_toInt_lt]
  show ¬ x.toInt < 0 ↔ _
  omega
theorem ev_ltn {x : Int32} {n : Nat} (h : n < 2 ^ 31) : x < Int32.ofNat n ↔ x.toInt < n := by
  rw [Int32.lt_iff_toInt_lt, show (Int32.ofNat n).toInt = (n : Int) from nI_toInt h]
theorem c_X9_at {G : ev_G} {r i : Nat} {x : Int32} {m : ev_m} (hr : ev_rk r = .inr 0) (h60 : r < 60) : ev_CF G K_X9_at B_X9_at [vr r i, vi x] m (some (vi (ev_at (m.1 r i) (ev_len r) x))) m := by
  refine ev_Ct_of rfl rfl (Nat.le_of_ble_eq_true rfl) ?_
  refine ev_aload_0 (pc := 0) dX9_at_0 ?_
  refine ev_ifnull_r (pc := 1) dX9_at_1 ?_
  refine ev_iload_1 (pc := 4) dX9_at_4 ?_
  refine ev_ifc_lt (pc := 5) (tgt := 20) dX9_at_5 (by decide) (fun c => ?_) (fun c => ?_)
  · refine ev_iconst (pc := 20) (v := 0) dX9_at_20 rfl ?_
    refine ev_iret (pc := 21) dX9_at_21 rfl rfl ⟨?_, rfl⟩
    unfold ev_at
    rw [if_neg (fun q => (ev_ge0.mpr q.1) c)]
  · refine ev_iload_1 (pc := 8) dX9_at_8 ?_
    refine ev_aload_0 (pc := 9) dX9_at_9 ?_
    refine ev_alen1 (pc := 10) (y := Int32.ofNat (ev_len r)) hr h60 rfl dX9_at_10 ?_
    refine ev_icc_ge (pc := 11) (tgt := 20) dX9_at_11 (by decide) (fun c2 => ?_) (fun c2 => ?_)
    · refine ev_iconst (pc := 20) (v := 0) dX9_at_20 rfl ?_
      refine ev_iret (pc := 21) dX9_at_21 rfl rfl ⟨?_, rfl⟩
      unfold ev_at
      rw [if_neg (fun q => c2 ((ev_ltn (ev_lenT31 r)).mpr q.2))]
    · have hin : 0 ≤ x.toInt ∧ x.toInt < (ev_len r : Nat) := ⟨ev_ge0.mp c, (ev_ltn (ev_lenT31 r)).mp c2⟩
      refine ev_aload_0 (pc := 14) dX9_at_14 ?_
      refine ev_iload_1 (pc := 15) dX9_at_15 ?_
      refine ev_ialdS (pc := 16) hr h60 rfl (vp_in_iff.mpr hin) dX9_at_16 ?_
      refine ev_goto (pc := 17) (tgt := 21) dX9_at_17 (by decide) ?_
      refine ev_iret (pc := 21) dX9_at_21 rfl rfl ⟨?_, rfl⟩
      unfold ev_at
      rw [if_pos hin]
theorem c_X9_atC {G : ev_G} {j : Nat} {x : Int32} {m : ev_m} (hj : j < 4) : ev_CF G K_X9_at B_X9_at [vr (60 + j) 0, vi x] m (some (vi (ev_at (ev_cst j) (ev_len (60 + j)) x))) m := by
  have hr : ev_rk (60 + j) = .inr 0 := by
    match j, hj with
    | 0, _ => rfl
    | 1, _ => rfl
    | 2, _ => rfl
    | 3, _ => rfl
  refine ev_Ct_of rfl rfl (Nat.le_of_ble_eq_true rfl) ?_
  refine ev_aload_0 (pc := 0) dX9_at_0 ?_
  refine ev_ifnull_r (pc := 1) dX9_at_1 ?_
  refine ev_iload_1 (pc := 4) dX9_at_4 ?_
  refine ev_ifc_lt (pc := 5) (tgt := 20) dX9_at_5 (by decide) (fun c => ?_) (fun c => ?_)
  · refine ev_iconst (pc := 20) (v := 0) dX9_at_20 rfl ?_
    refine ev_iret (pc := 21) dX9_at_21 rfl rfl ⟨?_, rfl⟩
    unfold ev_at
    rw [if_neg (fun q => (ev_ge0.mpr q.1) c)]
  · refine ev_iload_1 (pc := 8) dX9_at_8 ?_
    refine ev_aload_0 (pc := 9) dX9_at_9 ?_
    refine ev_alen (pc := 10) (y := Int32.ofNat (ev_len (60 + j))) hr rfl dX9_at_10 (fun h => absurd h (by omega)) (fun _ => ⟨rfl, rfl⟩) ?_
    refine ev_icc_ge (pc := 11) (tgt := 20) dX9_at_11 (by decide) (fun c2 => ?_) (fun c2 => ?_)
    · refine ev_iconst (pc := 20) (v := 0) dX9_at_20 rfl ?_
      refine ev_iret (pc := 21) dX9_at_21 rfl rfl ⟨?_, rfl⟩
      unfold ev_at
      rw [if_neg (fun q => c2 ((ev_ltn (ev_lenT31 _)).mpr q.2))]
    · have hin : 0 ≤ x.toInt ∧ x.toInt < (ev_len (60 + j) : Nat) := ⟨ev_ge0.mp c, (ev_ltn (ev_lenT31 _)).mp c2⟩
      refine ev_aload_0 (pc := 14) dX9_at_14 ?_
      refine ev_iload_1 (pc := 15) dX9_at_15 ?_
      refine ev_iald (pc := 16) hr (vp_in_iff.mpr hin) dX9_at_16 (fun h => absurd h (by omega)) (fun _ => rfl) ?_
      refine ev_goto (pc := 17) (tgt := 21) dX9_at_17 (by decide) ?_
      refine ev_E.known (fun _ _ h3 => ?_)
      refine ev_iret (pc := 21) dX9_at_21 rfl rfl ⟨?_, rfl⟩
      unfold ev_at
      rw [if_pos hin, h3.2.1 j _ hj]
theorem c_X9_put {G : ev_G} {r i : Nat} {x y : Int32} {m : ev_m} (hr : ev_rk r = .inr 0) (h60 : r < 60) (h23 : r < 23 ∨ 28 ≤ r) : ev_CF G K_X9_put B_X9_put [vr r i, vi x, vi y] m none (ev_put m r i (ev_len r) x y) := by
  refine ev_Ct_of rfl rfl (Nat.le_of_ble_eq_true rfl) ?_
  refine ev_aload_0 (pc := 0) dX9_put_0 ?_
  refine ev_ifnull_r (pc := 1) dX9_put_1 ?_
  refine ev_iload_1 (pc := 4) dX9_put_4 ?_
  refine ev_ifc_lt (pc := 5) (tgt := 18) dX9_put_5 (by decide) (fun c => ?_) (fun c => ?_)
  · refine ev_vret (pc := 18) dX9_put_18 rfl ⟨rfl, ?_⟩
    unfold ev_put
    rw [if_neg (fun q => (ev_ge0.mpr q.1) c)]
  · refine ev_iload_1 (pc := 8) dX9_put_8 ?_
    refine ev_aload_0 (pc := 9) dX9_put_9 ?_
    refine ev_alen1 (pc := 10) (y := Int32.ofNat (ev_len r)) hr h60 rfl dX9_put_10 ?_
    refine ev_icc_ge (pc := 11) (tgt := 18) dX9_put_11 (by decide) (fun c2 => ?_) (fun c2 => ?_)
    · refine ev_vret (pc := 18) dX9_put_18 rfl ⟨rfl, ?_⟩
      unfold ev_put
      rw [if_neg (fun q => c2 ((ev_ltn (ev_lenT31 r)).mpr q.2))]
    · have hin : 0 ≤ x.toInt ∧ x.toInt < (ev_len r : Nat) := ⟨ev_ge0.mp c, (ev_ltn (ev_lenT31 r)).mp c2⟩
      refine ev_aload_0 (pc := 14) dX9_put_14 ?_
      refine ev_iload_1 (pc := 15) dX9_put_15 ?_
      refine ev_iload_2 (pc := 16) dX9_put_16 ?_
      refine ev_iastS (pc := 17) hr h60 h23 rfl (vp_in_iff.mpr hin) dX9_put_17 ?_
      refine ev_vret (pc := 18) dX9_put_18 rfl ⟨rfl, ?_⟩
      unfold ev_put
      rw [if_pos hin]
theorem ev_cl_len (r : Nat) : (Int32.ofNat (ev_len r)).toNatClampNeg = ev_len r := nI_clamp (ev_lenT31 r)
theorem ev_nn_len (r : Nat) : ¬ Int32.ofNat (ev_len r) < 0 := nI_pos (ev_lenT31 r)
theorem ev_topb {G : ev_G} {k : ev_K} {b : ev_B} {u : Nat × Nat} {pc : Nat} {L : List (Option ev_V)} {st : List ev_V} {Q : Option ev_V → ev_M → Prop} {x y : Bool} {M : ev_M} (h : y = x) (kk : ev_E G k b u pc L (vi (bi y) :: st) M Q) : ev_E G k b u pc L (vi (bi x) :: st) M Q := h ▸ kk
section EVP
variable {G : ev_G} {k : ev_K} {b : ev_B} {u : Nat × Nat} {pc : Nat} {L : List (Option ev_V)} {st : List ev_V} {m : ev_m} {Q : Option ev_V → ev_M → Prop}
/-- System.arraycopy of whole rows of the same length -/
theorem ev_copy1 {r i i' t idx : Nat} (ht : t < 2) (hr : ev_rk r = .inr t) (h23 : r < 23) (hty : t = 1 → r = 11) (hl : Cond.methodLink k.2.1.cls idx arraycopyName ∈ ev_GW) (hb : 1 ≤ b.1 ∧ 8 + (nativeFrameWords "java/lang/System" "arraycopy" 5 + 11) ≤ b.2.1) (hs : ev_cats st ≤ 8) (d : decode k.1 pc = .ok (.invokestatic idx, 3))
    (kk : ev_E G k b u (pc + 3) L st (ev_emb (ev_cpm m r i i' (ev_len r))) Q) : ev_E G k b u pc L (vi (Int32.ofNat (ev_len r)) :: vi 0 :: vr r i' :: vi 0 :: vr r i :: st) (ev_emb m) Q :=
  ev_E.known (fun _ h2 _ => ev_copy ht hr hr h23 h23 (ev_nn_len r) (by rw [ev_cl_len]; exact Nat.le_refl _) (by rw [ev_cl_len]; exact Nat.le_refl _) Iff.rfl hl acopy_w hb hs (ev_fr h2.2.2.2.2.1 (by omega)) (ev_fr h2.2.2.1 (by omega)) d hty (by rw [ev_cl_len]; exact kk))
end EVP
theorem ev_mm_self (x : Int32) : (if x < x then x else x) = x := by split <;> rfl
theorem c_X9_copyRow {G : ev_G} {r i i' : Nat} {m : ev_m} (hr : ev_rk r = .inr 0) (h23 : r < 23) : ev_CF G K_X9_copyRow B_X9_copyRow [vr r i, vr r i'] m none (ev_cpm m r i i' (ev_len r)) := by
  refine ev_Ct_of rfl rfl (Nat.le_of_ble_eq_true rfl) ?_
  refine ev_aload_0 (pc := 0) dX9_copyRow_0 ?_
  refine ev_ifnull_r (pc := 1) dX9_copyRow_1 ?_
  refine ev_aload_1 (pc := 4) dX9_copyRow_4 ?_
  refine ev_ifnull_r (pc := 5) dX9_copyRow_5 ?_
  refine ev_aload_0 (pc := 8) dX9_copyRow_8 ?_
  refine ev_iconst (pc := 9) (v := 0) dX9_copyRow_9 rfl ?_
  refine ev_aload_1 (pc := 10) dX9_copyRow_10 ?_
  refine ev_iconst (pc := 11) (v := 0) dX9_copyRow_11 rfl ?_
  refine ev_aload_0 (pc := 12) dX9_copyRow_12 ?_
  refine ev_alen1 (pc := 13) (y := Int32.ofNat (ev_len r)) hr (by omega) rfl dX9_copyRow_13 ?_
  refine ev_aload_1 (pc := 14) dX9_copyRow_14 ?_
  refine ev_alen1 (pc := 15) (y := Int32.ofNat (ev_len r)) hr (by omega) rfl dX9_copyRow_15 ?_
  refine ev_mmin (pc := 16) mmin_X9_334 mmin_w (by decide) (Nat.le_of_ble_eq_true rfl) dX9_copyRow_16 ?_
  refine ev_topi (pc := 19) (ev_mm_self _).symm ?_
  refine ev_copy1 (pc := 19) (t := 0) (by decide) hr h23 (fun h => absurd h (by decide)) acopy_X9_336 (by decide) (Nat.le_of_ble_eq_true rfl) dX9_copyRow_19 ?_
  exact ev_vret (pc := 22) dX9_copyRow_22 rfl ⟨rfl, rfl⟩
theorem c_X6_copy {G : ev_G} {i : Nat} {o : Option Nat} {m : ev_m} : ev_CF G K_X6_copy B_X6_copy [vr 2 i, vo 2 o] m none (ev_tcp m o i) := by
  refine ev_Ct_of (L0 := [some (vr 2 i), some (vo 2 o)]) rfl rfl (Nat.le_of_ble_eq_true rfl) ?_
  refine ev_aload_1 (pc := 0) dX6_copy_0 ?_
  rcases o with _ | a
  · refine ev_ifnull_n (pc := 1) (tgt := 38) dX6_copy_1 (by decide) ?_
    exact ev_vret (pc := 38) dX6_copy_38 rfl ⟨rfl, rfl⟩
  show ev_E G K_X6_copy B_X6_copy (0, 0) 1 [some (vr 2 i), some (vr 2 a)] [vr 2 a] (ev_emb m) _
  refine ev_ifnull_r (pc := 1) dX6_copy_1 ?_
  refine ev_aload_1 (pc := 4) dX6_copy_4 ?_
  refine gt_X6_9 (pc := 5) rfl dX6_copy_5 ?_
  refine ev_iconst (pc := 8) (v := 0) dX6_copy_8 rfl ?_
  refine ev_aload_0 (pc := 9) dX6_copy_9 ?_
  refine gt_X6_9 (pc := 10) rfl dX6_copy_10 ?_
  refine ev_iconst (pc := 13) (v := 0) dX6_copy_13 rfl ?_
  refine ev_aload_1 (pc := 14) dX6_copy_14 ?_
  refine gt_X6_9 (pc := 15) rfl dX6_copy_15 ?_
  refine ev_alen1 (pc := 18) (y := Int32.ofNat (ev_len 11)) rfl (by decide) rfl dX6_copy_18 ?_
  refine ev_aload_0 (pc := 19) dX6_copy_19 ?_
  refine gt_X6_9 (pc := 20) rfl dX6_copy_20 ?_
  refine ev_alen1 (pc := 23) (y := Int32.ofNat (ev_len 11)) rfl (by decide) rfl dX6_copy_23 ?_
  refine ev_mmin (pc := 24) mmin_X6_23 mmin_w (by decide) (Nat.le_of_ble_eq_true rfl) dX6_copy_24 ?_
  refine ev_topi (pc := 27) (ev_mm_self _).symm ?_
  refine ev_copy1 (pc := 27) (t := 1) (by decide) rfl (by decide) (fun _ => rfl) acopy_X6_29 (by decide) (Nat.le_of_ble_eq_true rfl) dX6_copy_27 ?_
  refine ev_aload_0 (pc := 30) dX6_copy_30 ?_
  refine ev_aload_1 (pc := 31) dX6_copy_31 ?_
  refine gt_X6_19 (pc := 32) rfl dX6_copy_32 ?_
  refine pt_X6_19 (pc := 35) rfl dX6_copy_35 ?_
  exact ev_vret (pc := 38) dX6_copy_38 rfl ⟨rfl, rfl⟩
/-- the reference's own copying of a row's parts -/
def lp_X10_copyRow (r i ln : Nat) (n fr to : Int32) : Nat → Int32 → ev_m → (ev_m → Option ev_m) → Option ev_m
  | 0, _, _, _ => none
  | f + 1, k, m, kx => if k < n then (ev_ald (m.1 r i) ln (n * fr + k)).bind (fun x => (ev_ast m r i ln (n * to + k) x).bind (fun m' => lp_X10_copyRow r i ln n fr to f (k + 1) m' kx)) else kx m
def f_X10_copyRow (r i ln : Nat) (m : ev_m) (n fr to : Int32) : Option ev_m := lp_X10_copyRow r i ln n fr to 4000 0 m some
theorem e_lp_X10_copyRow {G : ev_G} {Q : Option ev_V → ev_M → Prop} {R : Option ev_m} (hR : ∀ m0, some m0 = R → Q none (ev_emb m0)) (hN : none ≠ R) {r i ln : Nat} (hr : ev_rk r = .inr 0) (h60 : r < 60) (h23 : r < 23 ∨ 28 ≤ r) (hln : ev_len r = ln) {n fr to : Int32} : ∀ (f : Nat) (k : Int32) (m : ev_m) (h : lp_X10_copyRow r i ln n fr to f k m some = R), ev_E G K_X10_copyRow B_X10_copyRow (0, 0) 3 [some (vr r i), some (vi n), some (vi fr), some (vi to), some (vi k)] [] (ev_emb m) Q := by
  intro f
  induction f with
  | zero => intro k m h; rw [lp_X10_copyRow] at h; exact absurd h hN
  | succ f ih =>
    intro k m h
    rw [lp_X10_copyRow] at h
    refine ev_iload_4 (pc := 3) dX10_copyRow_3 ?_
    refine ev_iload_1 (pc := 5) dX10_copyRow_5 ?_
    refine ev_icc_ge (pc := 6) (tgt := 31) dX10_copyRow_6 (by decide) (fun c => ?_) (fun c => ?_)
    · replace h := ev_ifn h c
      exact ev_vret (pc := 31) dX10_copyRow_31 rfl (hR _ h)
    · replace h := ev_ifp h c
      obtain ⟨x, hx, h⟩ := ev_bindE hN h
      obtain ⟨m', hm', h⟩ := ev_bindE hN h
      refine ev_aload_0 (pc := 9) dX10_copyRow_9 ?_
      refine ev_iload_1 (pc := 10) dX10_copyRow_10 ?_
      refine ev_iload_3 (pc := 11) dX10_copyRow_11 ?_
      refine ev_imul (pc := 12) dX10_copyRow_12 ?_
      refine ev_iload_4 (pc := 13) dX10_copyRow_13 ?_
      refine ev_iadd (pc := 15) dX10_copyRow_15 ?_
      refine ev_aload_0 (pc := 16) dX10_copyRow_16 ?_
      refine ev_iload_1 (pc := 17) dX10_copyRow_17 ?_
      refine ev_iload_2 (pc := 18) dX10_copyRow_18 ?_
      refine ev_imul (pc := 19) dX10_copyRow_19 ?_
      refine ev_iload_4 (pc := 20) dX10_copyRow_20 ?_
      refine ev_iadd (pc := 22) dX10_copyRow_22 ?_
      refine ev_iald1 (pc := 23) hr h60 hln hx dX10_copyRow_23 ?_
      refine ev_iast1 (pc := 24) hr h60 h23 hln hm' dX10_copyRow_24 ?_
      refine ev_iinc_4 (pc := 25) (y := k + 1) dX10_copyRow_25 rfl (by decide) rfl ?_
      refine ev_goto (pc := 28) (tgt := 3) dX10_copyRow_28 (by decide) ?_
      exact ih (k + 1) m' h
/-! texts -/
section EVS
variable {G : ev_G} {k : ev_K} {b : ev_B} {u : Nat × Nat} {pc : Nat} {L : List (Option ev_V)} {st : List ev_V} {m : ev_m} {Q : Option ev_V → ev_M → Prop}
theorem ev_slen {j : Nat} (hc : k.2.1.cls = "HelmHand$Reader") (hb : 2 ≤ b.1 ∧ 40 ≤ b.2.1) (hs : ev_cats st ≤ 8) (d : decode k.1 pc = .ok (.invokevirtual 220, 3)) (kk : ev_E G k b u (pc + 3) L (vi (ev_sl j) :: st) (ev_emb m) Q) : ev_E G k b u pc L (vr 65 j :: st) (ev_emb m) Q := by
  sorry
theorem ev_schr {j : Nat} {x y : Int32} (hc : k.2.1.cls = "HelmHand$Reader") (hy : ev_sc j x = some y) (hb : 4 ≤ b.1 ∧ 85 ≤ b.2.1) (hs : ev_cats st ≤ 8) (d : decode k.1 pc = .ok (.invokevirtual 225, 3)) (kk : ev_E G k b u (pc + 3) L (vi y :: st) (ev_emb m) Q) : ev_E G k b u pc L (vi x :: vr 65 j :: st) (ev_emb m) Q := by
  sorry
/-- the script -/
theorem ev_slen64 {xs : List Int32} {y : Int32} (hxs : G.2.2.2.2 = xs) (hy : Int32.ofNat xs.length = y) (d : decode k.1 pc = .ok (.arraylength, 1)) (kk : ev_E G k b u (pc + 1) L (vi y :: st) (ev_emb m) Q) : ev_E G k b u pc L (vr 64 0 :: st) (ev_emb m) Q := by
  subst hy
  subst hxs
  intro p l e R s m' args below meth c H locs ls Z F RT hH h1 h2 h3 hS hu hl
  have hX := F.2.2.2.2.2.2.2.2.2.2.2.2.2.2.2.2.1
  obtain ⟨scr, g1, g2, g3, g4, g5⟩ := hX
  have hla : ev_la G 64 0 = G.2.2.2.1 64 0 := if_neg (by decide)
  refine W.alen (n := Int32.ofNat G.2.2.2.2.length) F.1 F.2.1 (a := ev_la G 64 0) (cell := scr) ?_ g2 (by rw [g4] <;> rfl) rfl rfl d (kk p l e R s m' args below meth c H locs ls Z F RT hH h1 ⟨trivial, h2.2⟩ h3 hS hu hl)
  rw [hla, hH.2.1 _ F.2.2.2.2.2.2.2.2.2.2.2.2.2.2.2.2.2.1]
  exact g1
theorem ev_sld {xs : List Int32} {x y : Int32} (hxs : G.2.2.2.2 = xs) (hy : ev_ald (fun k => xs.getD k 0) xs.length x = some y) (d : decode k.1 pc = .ok (.iaload, 1)) (kk : ev_E G k b u (pc + 1) L (vi y :: st) (ev_emb m) Q) : ev_E G k b u pc L (vi x :: vr 64 0 :: st) (ev_emb m) Q := by
  subst hxs
  obtain ⟨hin, rfl⟩ := ev_aldE hy
  intro p l e R s m' args below meth c H locs ls Z F RT hH h1 h2 h3 hS hu hl
  have hX := F.2.2.2.2.2.2.2.2.2.2.2.2.2.2.2.2.1
  obtain ⟨scr, g1, g2, g3, g4, g5⟩ := hX
  have hla : ev_la G 64 0 = G.2.2.2.1 64 0 := if_neg (by decide)
  have hlt : x.toNatClampNeg < G.2.2.2.2.length := Nat.not_le.mp fun q => hin (Or.inr q)
  refine W.iald (v := .int (G.2.2.2.2.getD x.toNatClampNeg 0)) F.1 F.2.1 (a := ev_la G 64 0) (cell := scr) ?_ g2 g3 (by rw [g4]; exact hin) (g5 _ hlt) rfl rfl d (kk p l e R s m' args below meth c H locs ls Z F RT hH h1 ⟨trivial, h2.2.2⟩ h3 hS hu hl)
  rw [hla, hH.2.1 _ F.2.2.2.2.2.2.2.2.2.2.2.2.2.2.2.2.2.1]
  exact g1
end EVS
theorem c_X10_copyRow {G : ev_G} {r i ln : Nat} {m m' : ev_m} {n fr to : Int32} (hr : ev_rk r = .inr 0) (h60 : r < 60) (h23 : r < 23 ∨ 28 ≤ r) (hln : ev_len r = ln) (h : f_X10_copyRow r i ln m n fr to = some m') : ev_CF G K_X10_copyRow B_X10_copyRow [vr r i, vi n, vi fr, vi to] m none m' := by
  refine ev_Ct_of rfl rfl (Nat.le_of_ble_eq_true rfl) ?_
  refine ev_iconst (pc := 0) (v := 0) dX10_copyRow_0 rfl ?_
  refine ev_istore_4 (pc := 1) dX10_copyRow_1 (by decide) rfl ?_
  exact e_lp_X10_copyRow (R := some m') (fun m0 q => by cases q; exact ⟨rfl, rfl⟩) (fun q => by cases q) hr h60 h23 hln 4000 0 m h
