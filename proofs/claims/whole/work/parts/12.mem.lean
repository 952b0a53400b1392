/-! rows of the machine over the world: fields, arrays -/
def ev_cT (ci : Nat) : u_T := ((vwCl[ci]?).getD (RX0, TX0, 0)).2.1
def ev_cN (ci : Nat) : Nat := ((vwCl[ci]?).getD (RX0, TX0, 0)).2.2
def ev_cC (ci : Nat) : String := ((vwCl[ci]?).getD (RX0, TX0, 0)).1
theorem ev_cl_at {ci : Nat} (h : ci < 11) : vwCl[ci]? = some (ev_cC ci, ev_cT ci, ev_cN ci) := by
  have h2 : ci < vwCl.length := h
  unfold ev_cC ev_cT ev_cN
  rw [List.getElem?_eq_getElem h2]
  rfl
theorem ev_inlw : ∀ ci, ci < 11 → ∀ w ∈ u_ws (ev_cC ci) (ev_cT ci) (ev_cN ci), w ∈ ev_GW := by
  intro ci hci w hw
  have hall : ((List.range 11).all fun ci => (u_ws (ev_cC ci) (ev_cT ci) (ev_cN ci)).all goodWord) = true := by decide +kernel
  have hg : goodWord w = true := List.all_eq_true.mp (List.all_eq_true.mp hall ci (List.mem_range.mpr hci)) w hw
  refine ev_GW_in ?_ hg
  match ci, hci, hw with
  | 0, _, hw => exact (goodIn_r _ [294, 296, 298, 300, 302, 304, 306, 308, 310, 312, 314] (by decide +kernel) (by decide +kernel)  : GoodIn lw_tbl (u_ws (ev_cC 0) (ev_cT 0) (ev_cN 0))) w hw |>.1
  | 1, _, hw => exact (goodIn_r _ [219, 221, 223, 225, 227, 229, 231, 233, 235, 237, 239, 241] (by decide +kernel) (by decide +kernel)  : GoodIn lw_tbl (u_ws (ev_cC 1) (ev_cT 1) (ev_cN 1))) w hw |>.1
  | 2, _, hw => exact (goodIn_r _ [395, 397, 399, 401] (by decide +kernel) (by decide +kernel)  : GoodIn lw_tbl (u_ws (ev_cC 2) (ev_cT 2) (ev_cN 2))) w hw |>.1
  | 3, _, hw => exact (goodIn_r _ [256, 258] (by decide +kernel) (by decide +kernel)  : GoodIn lw_tbl (u_ws (ev_cC 3) (ev_cT 3) (ev_cN 3))) w hw |>.1
  | 4, _, hw => exact (goodIn_r _ [352, 354, 356, 358, 360, 362, 364, 366, 368, 370, 372, 374] (by decide +kernel) (by decide +kernel)  : GoodIn lw_tbl (u_ws (ev_cC 4) (ev_cT 4) (ev_cN 4))) w hw |>.1
  | 5, _, hw => exact (goodIn_r _ [172, 174, 176, 178, 180, 182, 184, 186, 188, 190, 192, 194] (by decide +kernel) (by decide +kernel)  : GoodIn lw_tbl (u_ws (ev_cC 5) (ev_cT 5) (ev_cN 5))) w hw |>.1
  | 6, _, hw => exact (goodIn_r _ [129, 131] (by decide +kernel) (by decide +kernel)  : GoodIn lw_tbl (u_ws (ev_cC 6) (ev_cT 6) (ev_cN 6))) w hw |>.1
  | 7, _, hw => exact (goodIn_r _ [272, 274, 276] (by decide +kernel) (by decide +kernel)  : GoodIn lw_tbl (u_ws (ev_cC 7) (ev_cT 7) (ev_cN 7))) w hw |>.1
  | 8, _, hw => exact (goodIn_r _ [419, 421, 423, 425, 427, 429, 431, 433, 435] (by decide +kernel) (by decide +kernel)  : GoodIn lw_tbl (u_ws (ev_cC 8) (ev_cT 8) (ev_cN 8))) w hw |>.1
  | 9, _, hw => exact (goodIn_r _ [449, 451, 453, 455, 457, 459, 461] (by decide +kernel) (by decide +kernel)  : GoodIn lw_tbl (u_ws (ev_cC 9) (ev_cT 9) (ev_cN 9))) w hw |>.1
  | 10, _, hw => exact (goodIn_r _ [1277, 1279, 1281, 1283, 1285, 1287, 1289, 1291, 1293, 1295, 1297, 1299, 1301, 1303, 1305, 1307, 1309, 1311, 1313, 1315, 1317, 1319, 1321, 1323, 1325, 1327, 1329, 1331, 1333, 1335, 1337, 1339, 1341, 1343, 1345, 1347, 1349, 1351, 1353, 1355, 1357, 1359, 1361, 1363, 1365, 1367] (by decide +kernel) (by decide +kernel)  : GoodIn lw_tbl (u_ws (ev_cC 10) (ev_cT 10) (ev_cN 10))) w hw |>.1
def ev_fty (ci : Nat) : Nat → FieldType := match ci with
  | 0 => tyX0
  | 1 => tyX1
  | 2 => tyX2
  | 3 => tyX3
  | 4 => tyX4
  | 5 => tyX5
  | 6 => tyX6
  | 7 => tyX7
  | 8 => tyX8
  | 9 => tyX9
  | _ => tyX10
theorem ev_fty_ok : ∀ ci, ci < 11 → ∀ k, k < ev_cN ci → parseFieldDescriptor (ev_cT ci k).2.2.1 = some (ev_fty ci k) := by
  intro ci hci
  match ci, hci with
  | 0, _ => exact tyX0_ok
  | 1, _ => exact tyX1_ok
  | 2, _ => exact tyX2_ok
  | 3, _ => exact tyX3_ok
  | 4, _ => exact tyX4_ok
  | 5, _ => exact tyX5_ok
  | 6, _ => exact tyX6_ok
  | 7, _ => exact tyX7_ok
  | 8, _ => exact tyX8_ok
  | 9, _ => exact tyX9_ok
  | 10, _ => exact tyX10_ok
theorem ev_fnm_ok : ∀ ci, ci < 11 → ∀ a, a < ev_cN ci → ∀ b, b < ev_cN ci → a ≠ b → (ev_cT ci a).2.1 ≠ (ev_cT ci b).2.1 := by
  intro ci hci
  match ci, hci with
  | 0, _ => exact nmX0
  | 1, _ => exact nmX1
  | 2, _ => exact nmX2
  | 3, _ => exact nmX3
  | 4, _ => exact nmX4
  | 5, _ => exact nmX5
  | 6, _ => exact nmX6
  | 7, _ => exact nmX7
  | 8, _ => exact nmX8
  | 9, _ => exact nmX9
  | 10, _ => exact nmX10
theorem ev_cls_lt : ∀ r, r < 11 → ev_clsT.getD r 0 < 11 ∧ ev_len r = ev_cN (ev_clsT.getD r 0) := by decide +kernel
theorem ev_rk_cls {r ci : Nat} (h : ev_rk r = .inl ci) : ci < 11 ∧ ev_len r = ev_cN ci ∧ r < 11 := by
  have hr := ev_rk_obj h
  unfold ev_rk at h
  rw [if_pos hr] at h
  cases h
  exact ⟨(ev_cls_lt r hr).1, (ev_cls_lt r hr).2, hr⟩
/-- a link to a field: place k of class ci, by entry idx of the class own -/
def ev_FL (own : String) (idx ci k : Nat) : Prop := k < ev_cN ci ∧ Cond.fieldLink own idx (ev_cT ci k).1 (ev_cT ci k).2.1 (ev_cT ci k).2.2.1 ∈ ev_GW
section EVM
variable {G : ev_G} {k : ev_K} {b : ev_B} {u : Nat × Nat} {pc : Nat} {L : List (Option ev_V)} {st : List ev_V} {M : ev_M} {Q : Option ev_V → ev_M → Prop}
theorem ev_obj {r i ci : Nat} {H : Heap} (hr : ev_rk r = .inl ci) (hH : ev_Ho G M H) (hi : ev_ok (vr r i)) (ha : ev_od r i < M.2.2.2) : t_OB (ev_la G r i) (G.2.1 ci) (ev_cN ci) (G.2.2.1 ci) H (fun k => ev_real G (ev_vo M r i k)) := by
  obtain ⟨h1, h2, h3⟩ := ev_rk_cls hr
  have hi2 : i < ev_cnt r := by
    rcases hi with h | h
    · exact h
    · exact absurd (show 60 ≤ r from h) (by omega)
  have hc := hH.2.2 r i (by omega) hi2 ha
  unfold ev_cell at hc
  rw [hr] at hc
  rw [← h2]
  exact hc
theorem ev_getf {r i ci idx j : Nat} (hf : ev_FL k.2.1.cls idx ci j) (d : decode k.1 pc = .ok (.getfield idx, 3)) (hr : ev_rk r = .inl ci) (ha : ev_od r i < M.2.2.2) (hv : ev_okM M → i < ev_cnt r → ev_ok (ev_vo M r i j)) (kk : ev_E G k b u (pc + 3) L (ev_vo M r i j :: st) M Q) : ev_E G k b u pc L (vr r i :: st) M Q := by
  intro p l e R s m args below meth c H locs ls Z F RT hH h1 h2 h3 hS hu hl
  obtain ⟨c1, c2, c3⟩ := ev_rk_cls hr
  have ho := ev_obj hr hH h2.1 ha
  have hi2 : i < ev_cnt r := by
    rcases h2.1 with h | h
    · exact h
    · exact absurd (show 60 ≤ r from h) (by omega)
  have hP : va_P (G.2.1, G.2.2.1) vwCl [(ev_la G r i, .inr (ci, (List.range (ev_cN ci)).map (fun k => ev_real G (ev_vo M r i k))))] H := by
    intro q x hx
    have hq : q < 1 := (List.getElem?_eq_some_iff.mp hx).1
    rw [show q = 0 by omega] at hx
    cases hx
    refine ⟨_, ev_cl_at c1, ho.to (fun z hz => ?_)⟩
    simp [vp_V, hz]
  refine va_get F.1 F.2.1 F.2.2.2.2.2.1 (ev_inlw ci c1) F.2.2.2.2.1 F.2.2.2.2.2.2.2.2.2.2.2.2.1 hP 0 rfl (ev_cl_at c1) j hf.1 (F.2.2.2.2.2.1 _ hf.2) (fun x q => q) (v := ev_real G (ev_vo M r i j)) ?_ d (kk p l e R s m args below meth c H locs ls Z F RT hH h1 ⟨hv h3 hi2, h2.2⟩ h3 hS hu hl)
  simp [hf.1]
/-- a field is written: an int, a long, a reference, or (in a constructor) a final one -/
theorem ev_putf {r i ci idx j : Nat} {v : ev_V} {M' : ev_M} (hf : ev_FL k.2.1.cls idx ci j) (d : decode k.1 pc = .ok (.putfield idx, 3)) (hr : ev_rk r = .inl ci) (ha : ev_od r i < M.2.2.2) (hfin : (ev_cT ci j).2.2.2 = false ∨ ((ev_cT ci j).2.2.2 = true ∧ k.2.1.name = "<init>" ∧ (ev_cT ci j).1 = k.2.1.cls)) (hn : narrow (ev_fty ci j) (ev_real G v) = ev_real G v) (hft : fits (ev_fty ci j) (ev_real G v) = true)
    (hM : ∀ a c d, ev_vo M' a c d = if a = r ∧ c = i ∧ d = j then v else ev_vo M a c d) (hnx : M'.2.2.2 = M.2.2.2) (hok : ev_okM M → i < ev_cnt r → ev_ok v → ev_okM M') (kk : ev_E G k b u (pc + 3) L st M' Q) : ev_E G k b u pc L (v :: vr r i :: st) M Q := by
  intro p l e R s m args below meth c H locs ls Z F RT hH h1 h2 h3 hS hu hl
  obtain ⟨c1, c2, c3⟩ := ev_rk_cls hr
  obtain ⟨cell, q1, q2, q3, q4⟩ := ev_obj hr hH h2.2.1 ha
  have hi2 : i < ev_cnt r := by
    rcases h2.2.1 with h | h
    · exact h
    · exact absurd (show 60 ≤ r from h) (by omega)
  have hts := F.2.2.2.2.2.1
  have hin := ev_inlw ci c1
  have hK := F.2.2.2.2.2.2.2.2.2.2.2.2.1
  have hap := va_apart (own := k.2.1.cls) hts hin (ev_fty ci) (ev_fty_ok ci c1) (ev_fnm_ok ci c1) hK (ev_cl_at c1)
  obtain ⟨hSl, hfc, kC, hkC, hkind⟩ := hK.1 ci _ (ev_cl_at c1)
  obtain ⟨cf, kf, fi, f, hi, hsl⟩ := hSl j hf.1
  have hlay := hts _ (hin _ (u_in_lay hf.1))
  have hst := (u_facts hfc hkC (u_lays hts hin hf.1) hi).1
  have hlink := hts _ hf.2
  have go : ∀ H' : Heap, H'[ev_la G r i]? = some (cell.setSlot f.slot (ev_real G v)) → H'.size = H.size → (∀ q, q ≠ ev_la G r i → H'[q]? = H[q]?) → W p l e R s m args below meth c H' (locs ++ [⟨ev_la G r i, f.slot⟩]) u.1 u.2 Z (F0 m (pc + 3) ls (st.map (ev_real G))) := by
    intro H' e1 e2 e3
    rw [hsl] at e1
    have hc : ev_cell G M' r i H' := by
      unfold ev_cell
      rw [hr]
      show t_OB _ _ _ _ _ _
      rw [c2]
      refine t_OB.to (V := updV (fun k => ev_real G (ev_vo M r i k)) j (ev_real G v)) ⟨_, e1, q2, q3, t_set q4 hap hf.1 (ev_real G v)⟩ (fun z _ => ?_)
      show updV _ j _ z = _
      rw [hM]
      unfold updV
      by_cases e : z = j
      · rw [if_pos e, if_pos ⟨rfl, rfl, e⟩]
      · rw [if_neg e, if_neg (fun q => e q.2.2)]
    refine kk p l e R s m args below meth c H' _ ls Z F RT (ev_Ho_put (by omega) hi2 hH (fun a c h d => ?_) hnx hc e2 e3) h1 h2.2.2 (hok h3 hi2 h2.1) (hS.put e2 e3 (ev_la_ge (by omega))) hu hl
    rw [hM, if_neg (fun q => h ⟨q.1, q.2.1⟩)]
  unfold u_lay at hlay
  rcases hfin with hfin | ⟨hfin, hin2, hdecl⟩
  · rw [if_neg (by rw [hfin]; decide)] at hlay
    have h6 := u_store hfc hkC hkind hlay hi (ev_fty_ok ci c1 j hf.1) hn hft
    exact W.putK F.1 F.2.1 (f := f) ⟨F.2.2.2.2.1, hlink, ⟨_, _, _, hi⟩, hst⟩ (by rw [q2]; exact h6) q1 q3 (by rw [hsl]; exact k2_hasslot (q4 j hf.1)) rfl rfl d go
  · rw [if_pos hfin] at hlay
    have hcf : m.cls = cf := by
      obtain ⟨_, _, c', _, _, _, -, -, hf', -, -, -, hown2, -⟩ := Cond.laysFinal_spec hlay
      have e1 : c' = cf := by have := hi.symm.trans hf'; simp at this; exact this.1.symm
      rw [hdecl] at hown2
      rw [← e1]; exact Option.some.inj (F.2.2.2.2.1.symm.trans hown2)
    have h6 := u_fits hfc hkC hkind (Or.inr hlay) hi (ev_fty_ok ci c1 j hf.1) hn hft
    exact W.putFinK F.1 F.2.1 F.2.2.2.2.1 hlink hi hst hcf (F.2.2.2.2.2.2.2.1.trans hin2) (by rw [q2]; exact h6) q1 q3 (by rw [hsl]; exact k2_hasslot (q4 j hf.1)) rfl rfl d go
/-- memory with one place written -/
def ev_pi (M : ev_M) (r i j : Nat) (x : Int32) : ev_M := (ev_u M.1 r i j x, M.2)
def ev_pl (M : ev_M) (r i j : Nat) (x : Int64) : ev_M := (M.1, ev_u M.2.1 r i j x, M.2.2)
def ev_pq (M : ev_M) (r i j : Nat) (x : ev_R) : ev_M := (M.1, M.2.1, ev_u M.2.2.1 r i j x, M.2.2.2)
theorem ev_vo_pi {r i j : Nat} {x : Int32} (hk : ev_fk r j = 0) (a c d : Nat) : ev_vo (ev_pi M r i j x) a c d = if a = r ∧ c = i ∧ d = j then vi x else ev_vo M a c d := by
  by_cases e : a = r ∧ c = i ∧ d = j
  · rw [if_pos e]
    obtain ⟨rfl, rfl, rfl⟩ := e
    unfold ev_vo
    rw [hk]
    show vi (if _ then _ else _) = _
    rw [if_pos ⟨rfl, rfl, rfl⟩]
  · rw [if_neg e]
    unfold ev_vo
    have h1 : (ev_pi M r i j x).1 a c d = M.1 a c d := if_neg e
    rw [h1]
    rfl
theorem ev_vo_pl {r i j : Nat} {x : Int64} (hk : ev_fk r j = 1) (a c d : Nat) : ev_vo (ev_pl M r i j x) a c d = if a = r ∧ c = i ∧ d = j then vl x else ev_vo M a c d := by
  by_cases e : a = r ∧ c = i ∧ d = j
  · rw [if_pos e]
    obtain ⟨rfl, rfl, rfl⟩ := e
    unfold ev_vo
    rw [hk]
    show vl (if _ then _ else _) = _
    rw [if_pos ⟨rfl, rfl, rfl⟩]
  · rw [if_neg e]
    unfold ev_vo
    have h1 : (ev_pl M r i j x).2.1 a c d = M.2.1 a c d := if_neg e
    rw [h1]
    rfl
theorem ev_vo_pq {r i j : Nat} {x : ev_R} (hk : ev_fk r j = 2) (a c d : Nat) : ev_vo (ev_pq M r i j x) a c d = if a = r ∧ c = i ∧ d = j then vq x else ev_vo M a c d := by
  by_cases e : a = r ∧ c = i ∧ d = j
  · rw [if_pos e]
    obtain ⟨rfl, rfl, rfl⟩ := e
    unfold ev_vo
    rw [hk]
    show vq (if _ then _ else _) = _
    rw [if_pos ⟨rfl, rfl, rfl⟩]
  · rw [if_neg e]
    unfold ev_vo
    have h1 : (ev_pq M r i j x).2.2.1 a c d = M.2.2.1 a c d := if_neg e
    rw [h1]
    rfl
theorem ev_okM_pi {r i j : Nat} {x : Int32} (hr : r < 60) (hb : r = 11 → fits .byte (.int x) = true) (h : ev_okM M) : ev_okM (ev_pi M r i j x) := by
  refine ⟨h.1, fun z c hz => ?_, fun a c => ?_, h.2.2.2⟩
  · show (if _ then _ else _) = _
    rw [if_neg (fun q => by omega)]
    exact h.2.1 z c hz
  · show fits .byte (.int (if _ then _ else _)) = true
    by_cases e : 11 = r ∧ a = i ∧ c = j
    · rw [if_pos e]
      exact hb e.1.symm
    · rw [if_neg e]
      exact h.2.2.1 a c
theorem ev_okM_pl {r i j : Nat} {x : Int64} (h : ev_okM M) : ev_okM (ev_pl M r i j x) := h
theorem ev_okM_pq {r i j : Nat} {x : ev_R} (hx : ev_ok (vq x)) (h : ev_okM M) : ev_okM (ev_pq M r i j x) := by
  refine ⟨fun a c d h1 h2 h3 h4 => ?_, h.2.1, h.2.2.1, h.2.2.2⟩
  show ev_ok (vq (if _ then _ else _))
  by_cases e : a = r ∧ c = i ∧ d = j
  · rw [if_pos e]
    exact hx
  · rw [if_neg e]
    exact h.1 a c d h1 h2 h3 h4
theorem ev_voi {r i j : Nat} (h : ev_fk r j = 0) : ev_vo M r i j = vi (M.1 r i j) := by
  unfold ev_vo
  rw [h]
  rfl
theorem ev_vol {r i j : Nat} (h : ev_fk r j = 1) : ev_vo M r i j = vl (M.2.1 r i j) := by
  unfold ev_vo
  rw [h]
  rfl
theorem ev_voq {r i j : Nat} (h : ev_fk r j = 2) : ev_vo M r i j = vq (M.2.2.1 r i j) := by
  unfold ev_vo
  rw [h]
  rfl
/-- fields, by what they hold -/
theorem ev_geti {r i ci idx j : Nat} (hf : ev_FL k.2.1.cls idx ci j) (hr : ev_rk r = .inl ci) (hk : ev_fk r j = 0) (d : decode k.1 pc = .ok (.getfield idx, 3)) (ha : ev_od r i < M.2.2.2) (kk : ev_E G k b u (pc + 3) L (vi (M.1 r i j) :: st) M Q) : ev_E G k b u pc L (vr r i :: st) M Q :=
  ev_getf hf d hr ha (fun _ _ => by rw [ev_voi hk]; exact trivial) (by rw [ev_voi hk]; exact kk)
theorem ev_getl {r i ci idx j : Nat} (hf : ev_FL k.2.1.cls idx ci j) (hr : ev_rk r = .inl ci) (hk : ev_fk r j = 1) (d : decode k.1 pc = .ok (.getfield idx, 3)) (ha : ev_od r i < M.2.2.2) (kk : ev_E G k b u (pc + 3) L (vl (M.2.1 r i j) :: st) M Q) : ev_E G k b u pc L (vr r i :: st) M Q :=
  ev_getf hf d hr ha (fun _ _ => by rw [ev_vol hk]; exact trivial) (by rw [ev_vol hk]; exact kk)
theorem ev_getq {r i ci idx j : Nat} (hf : ev_FL k.2.1.cls idx ci j) (hr : ev_rk r = .inl ci) (hk : ev_fk r j = 2) (d : decode k.1 pc = .ok (.getfield idx, 3)) (ha : ev_od r i < M.2.2.2) (kk : ev_E G k b u (pc + 3) L (vq (M.2.2.1 r i j) :: st) M Q) : ev_E G k b u pc L (vr r i :: st) M Q :=
  ev_getf hf d hr ha (fun h hi => by rw [ev_voq hk]; exact h.1 r i j (by have := ev_rk_obj hr; omega) hi (by rw [(ev_rk_cls hr).2.1]; exact hf.1) hk) (by rw [ev_voq hk]; exact kk)
theorem ev_puti {r i ci idx j : Nat} {x : Int32} (hf : ev_FL k.2.1.cls idx ci j) (hr : ev_rk r = .inl ci) (hk : ev_fk r j = 0) (hfin : (ev_cT ci j).2.2.2 = false) (hft : fits (ev_fty ci j) (.int x) = true) (hn : narrow (ev_fty ci j) (.int x) = .int x) (d : decode k.1 pc = .ok (.putfield idx, 3)) (ha : ev_od r i < M.2.2.2) (kk : ev_E G k b u (pc + 3) L st (ev_pi M r i j x) Q) : ev_E G k b u pc L (vi x :: vr r i :: st) M Q :=
  ev_putf hf d hr ha (Or.inl hfin) hn hft (ev_vo_pi hk) rfl (fun h _ _ => ev_okM_pi (by have := ev_rk_obj hr; omega) (fun e => by have := ev_rk_obj hr; omega) h) kk
theorem ev_putl {r i ci idx j : Nat} {x : Int64} (hf : ev_FL k.2.1.cls idx ci j) (hr : ev_rk r = .inl ci) (hk : ev_fk r j = 1) (hfin : (ev_cT ci j).2.2.2 = false) (hft : fits (ev_fty ci j) (.long x) = true) (hn : narrow (ev_fty ci j) (.long x) = .long x) (d : decode k.1 pc = .ok (.putfield idx, 3)) (ha : ev_od r i < M.2.2.2) (kk : ev_E G k b u (pc + 3) L st (ev_pl M r i j x) Q) : ev_E G k b u pc L (vl x :: vr r i :: st) M Q :=
  ev_putf hf d hr ha (Or.inl hfin) hn hft (ev_vo_pl hk) rfl (fun h _ _ => ev_okM_pl h) kk
theorem ev_putq {r i ci idx j : Nat} {o : ev_R} (hf : ev_FL k.2.1.cls idx ci j) (hr : ev_rk r = .inl ci) (hk : ev_fk r j = 2) (hfin : (ev_cT ci j).2.2.2 = false ∨ ((ev_cT ci j).2.2.2 = true ∧ k.2.1.name = "<init>" ∧ (ev_cT ci j).1 = k.2.1.cls)) (hty : (∃ n, ev_fty ci j = .object n) ∨ ∃ t, ev_fty ci j = .array t) (d : decode k.1 pc = .ok (.putfield idx, 3)) (ha : ev_od r i < M.2.2.2) (kk : ev_E G k b u (pc + 3) L st (ev_pq M r i j o) Q) : ev_E G k b u pc L (vq o :: vr r i :: st) M Q := by
  refine ev_putf hf d hr ha hfin ?_ ?_ (ev_vo_pq hk) rfl (fun h _ hv => ev_okM_pq hv h) kk
  · rcases hty with ⟨n, e⟩ | ⟨t, e⟩ <;> rw [e] <;> cases o <;> rfl
  · rcases hty with ⟨n, e⟩ | ⟨t, e⟩ <;> rw [e] <;> cases o <;> rfl
/-! arrays -/
theorem ev_tyT_lt : ∀ r, 11 ≤ r → r < 60 → ev_cnt r ≠ 0 → ev_tyT.getD r 99 < 8 := by
  have h : ∀ r, r < 60 → 11 ≤ r → ev_cnt r ≠ 0 → ev_tyT.getD r 99 < 8 := by decide +kernel
  exact fun r h1 h2 h3 => h r h2 h1 h3
theorem ev_arr {r i t : Nat} {H : Heap} (hr : ev_rk r = .inr t) (h60 : r < 60) (hH : ev_Ho G M H) (hi : ev_ok (vr r i)) (ha : ev_od r i < M.2.2.2) : t < 8 ∧ i < ev_cnt r ∧ H[ev_la G r i]? = some (arrV (ev_ca G t) (ev_len r) (fun k => ev_real G (ev_vo M r i k))) := by
  have hi2 : i < ev_cnt r := by
    rcases hi with h | h
    · exact h
    · exact absurd (show 60 ≤ r from h) (by omega)
  have hc := hH.2.2 r i h60 hi2 ha
  unfold ev_cell at hc
  rw [hr] at hc
  refine ⟨?_, hi2, hc⟩
  unfold ev_rk at hr
  by_cases h : r < 11
  · rw [if_pos h] at hr; cases hr
  · rw [if_neg h] at hr
    cases hr
    exact ev_tyT_lt r (by omega) h60 (by omega)
theorem ev_arrT {t : Nat} {s : State} (hK : ev_Kn G s) (ht : t < 8) : ArrOfT s (ev_ca G t) (ev_ty t) := (hK.1.2 t _ (ev_tl_at G ht)).1
theorem ev_rk_arr {r t : Nat} (h : ev_rk r = .inr t) : 11 ≤ r := by
  unfold ev_rk at h
  by_cases h2 : r < 11
  · rw [if_pos h2] at h; cases h
  · omega
theorem ev_fk_arr {r t : Nat} (h : ev_rk r = .inr t) (h2 : r < 23 ∨ 28 ≤ r) (j : Nat) : ev_fk r j = 0 := by
  have := ev_rk_arr h
  unfold ev_fk
  rw [if_neg (by omega)]
  by_cases q : r < 23
  · rw [if_pos q]
  · rw [if_neg q, if_neg (by omega)]
/-- the four tables of the class are cells that were there before -/
theorem ev_tab {r : Nat} (hr : ev_rk r = .inr 0) (h : 60 ≤ r) : ∃ j, j < 4 ∧ r = 60 + j := by
  refine ⟨r - 60, ?_, by omega⟩
  unfold ev_rk at hr
  rw [if_neg (by omega)] at hr
  by_cases q : r < 64
  · omega
  · have : ev_tyT.length ≤ r := by show 64 ≤ r; omega
    have e : ev_tyT.getD r 99 = 99 := by
      rw [List.getD_eq_getElem?_getD, List.getElem?_eq_none this]
      rfl
    rw [e] at hr
    cases hr
theorem ev_iald {r i : Nat} {x : Int32} (hr : ev_rk r = .inr 0) (hin : vp_in x (ev_len r)) (d : decode k.1 pc = .ok (.iaload, 1)) (ha : r < 60 → ev_od r i < M.2.2.2) (h0 : 60 ≤ r → i = 0) (kk : ev_E G k b u (pc + 1) L (vi (M.1 r i x.toNatClampNeg) :: st) M Q) : ev_E G k b u pc L (vi x :: vr r i :: st) M Q := by
  intro p l e R s m args below meth c H locs ls Z F RT hH h1 h2 h3 hS hu hl
  have hlt : x.toNatClampNeg < ev_len r := Nat.not_le.mp fun q => hin (Or.inr q)
  have go := kk p l e R s m args below meth c H locs ls Z F RT hH h1 ⟨trivial, h2.2.2⟩ h3 hS hu hl
  by_cases q : r < 60
  · obtain ⟨t1, t2, t3⟩ := ev_arr hr q hH h2.2.1 (ha q)
    refine W.iald (v := .int (M.1 r i x.toNatClampNeg)) F.1 F.2.1 t3 (ev_arrT F.2.2.2.2.2.2.2.2.2.2.2.2 t1 _ _) (fun q => by cases q) (by rw [arrV_size]; exact hin) ?_ rfl rfl d go
    rw [arrV_read _ _ hlt]
    have hk : ev_fk r x.toNatClampNeg = 0 := by
      by_cases z : r < 23 ∨ 28 ≤ r
      · exact ev_fk_arr hr z _
      · unfold ev_rk at hr
        rw [if_neg (by omega)] at hr
        have : ∀ r, r < 28 → 23 ≤ r → ev_tyT.getD r 99 ≠ 0 := by decide +kernel
        exact absurd (Sum.inr.inj hr) (this r (by omega) (by omega))
    rw [ev_voi hk]
    rfl
  · obtain ⟨j, hj, rfl⟩ := ev_tab hr (by omega)
    have hi0 := h0 (by omega)
    subst hi0
    obtain ⟨-, cell, g1, g2, g3, g4, g5, g6, g7⟩ := F.2.2.2.2.2.2.2.2.2.2.2.2.2.1 j hj
    have hla : ev_la G (60 + j) 0 = G.2.2.2.1 (60 + j) 0 := if_neg (by omega)
    refine W.iald (v := .int (M.1 (60 + j) 0 x.toNatClampNeg)) F.1 F.2.1 (a := ev_la G (60 + j) 0) (cell := cell) ?_ g2 g3 (fun z => ?_) ?_ rfl rfl d go
    · rw [hla, hH.2.1 _ (Nat.not_le.mp g7)]
      exact g1
    · rcases z with z | z
      · exact hin (Or.inl z)
      · omega
    · rw [h3.2.1 j _ hj]
      exact g6 _ hlt
theorem ev_len31 : ∀ r, r < 64 → ev_len r < 2 ^ 31 := by decide +kernel
theorem ev_alen {r i t : Nat} {y : Int32} (hr : ev_rk r = .inr t) (hy : Int32.ofNat (ev_len r) = y) (d : decode k.1 pc = .ok (.arraylength, 1)) (ha : r < 60 → ev_od r i < M.2.2.2) (h0 : 60 ≤ r → i = 0 ∧ t = 0) (kk : ev_E G k b u (pc + 1) L (vi y :: st) M Q) : ev_E G k b u pc L (vr r i :: st) M Q := by
  subst hy
  intro p l e R s m args below meth c H locs ls Z F RT hH h1 h2 h3 hS hu hl
  have go := kk p l e R s m args below meth c H locs ls Z F RT hH h1 ⟨trivial, h2.2⟩ h3 hS hu hl
  by_cases q : r < 60
  · obtain ⟨t1, t2, t3⟩ := ev_arr hr q hH h2.1 (ha q)
    exact W.alen (n := Int32.ofNat (ev_len r)) F.1 F.2.1 t3 (ev_arrT F.2.2.2.2.2.2.2.2.2.2.2.2 t1 _ _) (by rw [arrV_size] <;> rfl) rfl rfl d go
  · obtain ⟨rfl, rfl⟩ := h0 (by omega)
    obtain ⟨j, hj, rfl⟩ := ev_tab hr (by omega)
    obtain ⟨-, cell, g1, g2, g3, g4, g5, g6, g7⟩ := F.2.2.2.2.2.2.2.2.2.2.2.2.2.1 j hj
    have hla : ev_la G (60 + j) 0 = G.2.2.2.1 (60 + j) 0 := if_neg (by omega)
    refine W.alen (n := Int32.ofNat (ev_len (60 + j))) F.1 F.2.1 (a := ev_la G (60 + j) 0) (cell := cell) ?_ g2 g5 rfl rfl d go
    rw [hla, hH.2.1 _ (Nat.not_le.mp g7)]
    exact g1
theorem ev_bald {r i : Nat} {x : Int32} (hr : ev_rk r = .inr 1) (h60 : r < 60) (h23 : r < 23 ∨ 28 ≤ r) (hin : vp_in x (ev_len r)) (d : decode k.1 pc = .ok (.baload, 1)) (ha : ev_od r i < M.2.2.2) (kk : ev_E G k b u (pc + 1) L (vi (M.1 r i x.toNatClampNeg) :: st) M Q) : ev_E G k b u pc L (vi x :: vr r i :: st) M Q := by
  intro p l e R s m args below meth c H locs ls Z F RT hH h1 h2 h3 hS hu hl
  have hlt : x.toNatClampNeg < ev_len r := Nat.not_le.mp fun q => hin (Or.inr q)
  have go := kk p l e R s m args below meth c H locs ls Z F RT hH h1 ⟨trivial, h2.2.2⟩ h3 hS hu hl
  obtain ⟨t1, t2, t3⟩ := ev_arr hr h60 hH h2.2.1 ha
  refine W.bald (v := .int (M.1 r i x.toNatClampNeg)) F.1 F.2.1 t3 (ev_arrT F.2.2.2.2.2.2.2.2.2.2.2.2 t1 _ _) (fun q => by cases q) (by rw [arrV_size]; exact hin) ?_ rfl rfl d go
  rw [arrV_read _ _ hlt, ev_voi (ev_fk_arr hr h23 _)]
  rfl
theorem ev_zald {r i : Nat} {x : Int32} (hr : ev_rk r = .inr 2) (h60 : r < 60) (h23 : r < 23 ∨ 28 ≤ r) (hin : vp_in x (ev_len r)) (d : decode k.1 pc = .ok (.baload, 1)) (ha : ev_od r i < M.2.2.2) (kk : ev_E G k b u (pc + 1) L (vi (M.1 r i x.toNatClampNeg) :: st) M Q) : ev_E G k b u pc L (vi x :: vr r i :: st) M Q := by
  intro p l e R s m args below meth c H locs ls Z F RT hH h1 h2 h3 hS hu hl
  have hlt : x.toNatClampNeg < ev_len r := Nat.not_le.mp fun q => hin (Or.inr q)
  have go := kk p l e R s m args below meth c H locs ls Z F RT hH h1 ⟨trivial, h2.2.2⟩ h3 hS hu hl
  obtain ⟨t1, t2, t3⟩ := ev_arr hr h60 hH h2.2.1 ha
  refine W.zald (v := .int (M.1 r i x.toNatClampNeg)) F.1 F.2.1 t3 (ev_arrT F.2.2.2.2.2.2.2.2.2.2.2.2 t1 _ _) (fun q => by cases q) (by rw [arrV_size]; exact hin) ?_ rfl rfl d go
  rw [arrV_read _ _ hlt, ev_voi (ev_fk_arr hr h23 _)]
  rfl
theorem ev_aald {r i t : Nat} {x : Int32} (hr : ev_rk r = .inr t) (h23 : 23 ≤ r) (h28 : r < 28) (hin : vp_in x (ev_len r)) (d : decode k.1 pc = .ok (.aaload, 1)) (ha : ev_od r i < M.2.2.2) (kk : ev_E G k b u (pc + 1) L (vq (M.2.2.1 r i x.toNatClampNeg) :: st) M Q) : ev_E G k b u pc L (vi x :: vr r i :: st) M Q := by
  intro p l e R s m args below meth c H locs ls Z F RT hH h1 h2 h3 hS hu hl
  have hlt : x.toNatClampNeg < ev_len r := Nat.not_le.mp fun q => hin (Or.inr q)
  obtain ⟨t1, t2, t3⟩ := ev_arr hr (by omega) hH h2.2.1 ha
  have hk : ev_fk r x.toNatClampNeg = 2 := by
    unfold ev_fk
    rw [if_neg (by omega), if_neg (by omega), if_pos h28]
  have go := kk p l e R s m args below meth c H locs ls Z F RT hH h1 ⟨h3.1 r i _ (by omega) t2 hlt hk, h2.2.2⟩ h3 hS hu hl
  have hrf : (ev_ty t).isReference = true := by
    unfold ev_rk at hr
    rw [if_neg (by omega)] at hr
    have : ∀ r, r < 28 → 23 ≤ r → (ev_ty (ev_tyT.getD r 99)).isReference = true := by decide +kernel
    have h5 := this r h28 h23
    rw [Sum.inr.inj hr] at h5
    exact h5
  refine W.aald (v := ev_real G (vq (M.2.2.1 r i x.toNatClampNeg))) (ty := ev_ty t) F.1 F.2.1 t3 (ev_arrT F.2.2.2.2.2.2.2.2.2.2.2.2 t1 _ _) hrf (fun q => by cases q) (by rw [arrV_size]; exact hin) ?_ rfl rfl d go
  rw [arrV_read _ _ hlt, ev_voq hk]
/-- an array's place is written -/
theorem ev_astc {r i t j : Nat} {v : ev_V} {M' : ev_M} {H H1 : Heap} (hr : ev_rk r = .inr t) (hH : ev_Ho G M H) (h60 : r < 60) (hi : i < ev_cnt r) (hM : ∀ a c d, ev_vo M' a c d = if a = r ∧ c = i ∧ d = j then v else ev_vo M a c d) (hnx : M'.2.2.2 = M.2.2.2) (e1 : H1[ev_la G r i]? = some ((arrV (ev_ca G t) (ev_len r) (fun k => ev_real G (ev_vo M r i k))).setSlot j (ev_real G v))) (e2 : H1.size = H.size) (e3 : ∀ q : Nat, q ≠ ev_la G r i → H1[q]? = H[q]?) : ev_Ho G M' H1 := by
  refine ev_Ho_put h60 hi hH (fun a c h d => ?_) hnx ?_ e2 e3
  · rw [hM, if_neg (fun q => h ⟨q.1, q.2.1⟩)]
  · unfold ev_cell
    rw [hr]
    show H1[_]? = _
    rw [e1, arrV_store]
    congr 2
    funext z
    rw [hM]
    unfold updV
    by_cases e : z = j
    · rw [if_pos e, if_pos ⟨rfl, rfl, e⟩]
    · rw [if_neg e, if_neg (fun q => e q.2.2)]
theorem ev_iast {r i : Nat} {x y : Int32} (hr : ev_rk r = .inr 0) (h60 : r < 60) (h23 : r < 23 ∨ 28 ≤ r) (hin : vp_in x (ev_len r)) (d : decode k.1 pc = .ok (.iastore, 1)) (ha : ev_od r i < M.2.2.2) (kk : ev_E G k b u (pc + 1) L st (ev_pi M r i x.toNatClampNeg y) Q) : ev_E G k b u pc L (vi y :: vi x :: vr r i :: st) M Q := by
  intro p l e R s m args below meth c H locs ls Z F RT hH h1 h2 h3 hS hu hl
  obtain ⟨t1, t2, t3⟩ := ev_arr hr h60 hH h2.2.2.1 ha
  have h11 : r ≠ 11 := by
    intro e
    subst e
    exact absurd (Sum.inr.inj hr) (by decide)
  refine W.iast F.1 F.2.1 t3 (ev_arrT F.2.2.2.2.2.2.2.2.2.2.2.2 t1 _ _) (fun q => by cases q) (by rw [arrV_size]; exact hin) rfl rfl d fun H1 e1 e2 e3 => ?_
  exact kk p l e R s m args below meth c H1 _ ls Z F RT (ev_astc (v := vi y) hr hH h60 t2 (ev_vo_pi (ev_fk_arr hr h23 _)) rfl e1 e2 e3) h1 h2.2.2.2 (ev_okM_pi h60 (fun e => absurd e h11) h3) (hS.put e2 e3 (ev_la_ge h60)) hu hl
theorem ev_fitb (x : Int32) : fits .byte (.int (vp_nar .byte x)) = true := by
  rw [vp_nar_byte]
  exact pk_fb x
theorem ev_bast {r i : Nat} {x y : Int32} (hr : ev_rk r = .inr 1) (h60 : r < 60) (h23 : r < 23 ∨ 28 ≤ r) (hin : vp_in x (ev_len r)) (d : decode k.1 pc = .ok (.bastore, 1)) (ha : ev_od r i < M.2.2.2) (kk : ev_E G k b u (pc + 1) L st (ev_pi M r i x.toNatClampNeg (vp_nar .byte y)) Q) : ev_E G k b u pc L (vi y :: vi x :: vr r i :: st) M Q := by
  intro p l e R s m args below meth c H locs ls Z F RT hH h1 h2 h3 hS hu hl
  obtain ⟨t1, t2, t3⟩ := ev_arr hr h60 hH h2.2.2.1 ha
  refine W.bast F.1 F.2.1 t3 (ev_arrT F.2.2.2.2.2.2.2.2.2.2.2.2 t1 _ _) (fun q => by cases q) (by rw [arrV_size]; exact hin) rfl rfl d fun H1 e1 e2 e3 => ?_
  exact kk p l e R s m args below meth c H1 _ ls Z F RT (ev_astc (v := vi (vp_nar .byte y)) hr hH h60 t2 (ev_vo_pi (ev_fk_arr hr h23 _)) rfl e1 e2 e3) h1 h2.2.2.2 (ev_okM_pi h60 (fun _ => ev_fitb y) h3) (hS.put e2 e3 (ev_la_ge h60)) hu hl
theorem ev_zast {r i : Nat} {x y : Int32} (hr : ev_rk r = .inr 2) (h60 : r < 60) (h23 : r < 23 ∨ 28 ≤ r) (hin : vp_in x (ev_len r)) (d : decode k.1 pc = .ok (.bastore, 1)) (ha : ev_od r i < M.2.2.2) (kk : ev_E G k b u (pc + 1) L st (ev_pi M r i x.toNatClampNeg (vp_nar .boolean y)) Q) : ev_E G k b u pc L (vi y :: vi x :: vr r i :: st) M Q := by
  intro p l e R s m args below meth c H locs ls Z F RT hH h1 h2 h3 hS hu hl
  obtain ⟨t1, t2, t3⟩ := ev_arr hr h60 hH h2.2.2.1 ha
  have h11 : r ≠ 11 := by
    intro e
    subst e
    exact absurd (Sum.inr.inj hr) (by decide)
  refine W.zast F.1 F.2.1 t3 (ev_arrT F.2.2.2.2.2.2.2.2.2.2.2.2 t1 _ _) (fun q => by cases q) (by rw [arrV_size]; exact hin) rfl rfl d fun H1 e1 e2 e3 => ?_
  exact kk p l e R s m args below meth c H1 _ ls Z F RT (ev_astc (v := vi (vp_nar .boolean y)) hr hH h60 t2 (ev_vo_pi (ev_fk_arr hr h23 _)) rfl e1 e2 e3) h1 h2.2.2.2 (ev_okM_pi h60 (fun e => absurd e h11) h3) (hS.put e2 e3 (ev_la_ge h60)) hu hl
/-- the tables of the class -/
theorem ev_gets {idx j : Nat} (hj : j < 4) (hc : k.2.1.cls = "HelmHand$Reader") (hw : ("HelmHand$Reader", idx, "HelmHand", ev_stN.getD j "", "[I", "HelmHand") ∈ ev_nf) (d : decode k.1 pc = .ok (.getstatic idx, 3)) (kk : ev_E G k b u (pc + 3) L (vr (60 + j) 0 :: st) M Q) : ev_E G k b u pc L st M Q := by
  intro p l e R s m args below meth c H locs ls Z F RT hH h1 h2 h3 hS hu hl
  have go := kk p l e R s m args below meth c H locs ls Z F RT hH h1 ⟨Or.inr (show 60 ≤ 60 + j by omega), h2⟩ h3 hS hu hl
  have hla : ev_la G (60 + j) 0 = G.2.2.2.1 (60 + j) 0 := if_neg (by omega)
  have hK := F.2.2.2.2.2.2.2.2.2.2.2.2
  obtain ⟨cf, kf, fi, f, a, cell, g1, g2, g3, g4, g5, g6, g7, g8⟩ := (hK.2.1 j hj).1
  refine va_WgetsN F.1 F.2.1 (own := "HelmHand$Reader") (by rw [← hc]; exact F.2.2.2.2.1) (va_Nw.use rfl (hK.2.2.2.2.2.2.2.1 _ hw)) g1 g2 g3 g4 (by rw [hH.2.1 a (Nat.not_le.mp g8)]; exact g5) (fun e => by rw [e] at g6; cases g6) g7 rfl d ?_
  rw [← hla]
  exact go
/-- a String constant -/
theorem ev_ldcs {j : Nat} (hj : j < 22) (hc : k.2.1.cls = "HelmHand$Reader") (d : decode k.1 pc = .ok (.ldc (ev_strK.getD j 0), 2)) (kk : ev_E G k b u (pc + 2) L (vr 65 j :: st) M Q) : ev_E G k b u pc L st M Q := by
  intro p l e R s m args below meth c H locs ls Z F RT hH h1 h2 h3 hS hu hl
  have go := kk p l e R s m args below meth c H locs ls Z F RT hH h1 ⟨Or.inr (show 60 ≤ 65 by decide), h2⟩ h3 hS hu hl
  have hla : ev_la G 65 j = G.2.2.2.1 65 j := if_neg (by decide)
  refine va_ldcS F.1 F.2.1 (own := "HelmHand$Reader") (tx := ev_strT.getD j "") (q := G.2.2.2.1 65 j) ?_ (F.2.2.2.2.2.2.2.2.2.2.2.2.2.2.2.1 j hj) d ?_
  · rw [← hc]
    exact F.2.2.2.2.1
  · rw [← hla]
    exact go
end EVM
