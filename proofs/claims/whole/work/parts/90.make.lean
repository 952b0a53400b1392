/-! rows of the machine over the world: making objects and arrays -/
def ev_mk (M : ev_M) (r i : Nat) : ev_M := (ev_w M.1 r i (fun _ => 0), ev_w M.2.1 r i (fun _ => 0), ev_w M.2.2.1 r i (fun _ => none), M.2.2.2 + 1)
/-- what a new place holds -/
def ev_df (r k : Nat) : ev_V := match ev_fk r k with
  | 0 => vi 0
  | 1 => vl 0
  | _ => vn
def ev_dz (r k : Nat) : Value := match ev_fk r k with
  | 0 => .int 0
  | 1 => .long 0
  | _ => .null
theorem ev_df_real (G : ev_G) (r k : Nat) : ev_real G (ev_df r k) = ev_dz r k := by
  unfold ev_df ev_dz
  generalize ev_fk r k = f
  match f with
  | 0 => rfl
  | 1 => rfl
  | n + 2 => rfl
theorem ev_dz_ok : ∀ r, r < 11 → ∀ j, j < ev_len r → defaultValue (ev_fty (ev_clsT.getD r 0) j) = ev_dz r j := by decide +kernel
theorem ev_vo_mk (M : ev_M) (r i a c d : Nat) : ev_vo (ev_mk M r i) a c d = if a = r ∧ c = i then ev_df r d else ev_vo M a c d := by
  by_cases e : a = r ∧ c = i
  · rw [if_pos e]
    obtain ⟨rfl, rfl⟩ := e
    unfold ev_vo ev_df
    generalize ev_fk a d = f
    match f with
    | 0 =>
      show vi (if a = a ∧ c = c then 0 else _) = vi 0
      rw [if_pos ⟨rfl, rfl⟩]
    | 1 =>
      show vl (if a = a ∧ c = c then 0 else _) = vl 0
      rw [if_pos ⟨rfl, rfl⟩]
    | n + 2 =>
      show vq (if a = a ∧ c = c then none else _) = vq none
      rw [if_pos ⟨rfl, rfl⟩]
  · rw [if_neg e]
    unfold ev_vo
    have h1 : (ev_mk M r i).1 a c d = M.1 a c d := if_neg e
    have h2 : (ev_mk M r i).2.1 a c d = M.2.1 a c d := if_neg e
    have h3 : (ev_mk M r i).2.2.1 a c d = M.2.2.1 a c d := if_neg e
    rw [h1, h2, h3]
theorem ev_okM_mk {M : ev_M} {r i : Nat} (hr : r < 60) (hn : M.2.2.2 < ev_all) (h : ev_okM M) : ev_okM (ev_mk M r i) := by
  refine ⟨fun a c d ha hc hd hf => ?_, fun j k hj => ?_, fun a k => ?_, ?_⟩
  · show ev_ok (vq (if a = r ∧ c = i then none else M.2.2.1 a c d))
    split
    · trivial
    · exact h.1 a c d ha hc hd hf
  · show (if 60 + j = r ∧ 0 = i then (0 : Int32) else M.1 (60 + j) 0 k) = _
    rw [if_neg (by omega)]
    exact h.2.1 j k hj
  · show fits .byte (.int (if 11 = r ∧ a = i then 0 else M.1 11 a k)) = true
    split
    · rfl
    · exact h.2.2.1 a k
  · show M.2.2.2 + 1 ≤ ev_all
    omega
theorem ev_Ho_mk {G : ev_G} {M : ev_M} {r i : Nat} {H H1 : Heap} (hr : r < 60) (hi : i < ev_cnt r) (ho : ev_od r i = M.2.2.2) (h : ev_Ho G M H) (hc : ev_cell G (ev_mk M r i) r i H1) (hz : H1.size = H.size + 1) (oq : ∀ q : Nat, q < H.size → H1[q]? = H[q]?) : ev_Ho G (ev_mk M r i) H1 := by
  refine ⟨by rw [hz, h.1]; rfl, fun q hq => ?_, fun a b ha hb hab => ?_⟩
  · rw [oq q (by rw [h.1]; omega)]
    exact h.2.1 q hq
  · by_cases e : a = r ∧ b = i
    · obtain ⟨rfl, rfl⟩ := e
      exact hc
    · have hlt : ev_od a b < M.2.2.2 := by
        have h1 : ev_od a b < M.2.2.2 + 1 := hab
        have h2 : ev_od a b ≠ M.2.2.2 := fun q => e (ev_od_inj ha hb hr hi (q.trans ho.symm))
        omega
      refine ev_cell_kept (h.2.2 a b ha hb hlt) (oq _ ?_) (fun k => by rw [ev_vo_mk, if_neg e])
      unfold ev_la
      rw [if_pos ha, h.1]
      omega
theorem ev_fk_q {r : Nat} (h : 23 ≤ r) (h2 : r < 28) (j : Nat) : ev_fk r j = 2 := by
  unfold ev_fk
  rw [if_neg (by omega), if_neg (by omega), if_pos h2]
section EVN
variable {G : ev_G} {k : ev_K} {b : ev_B} {u : Nat × Nat} {pc : Nat} {L : List (Option ev_V)} {st : List ev_V} {M : ev_M} {Q : Option ev_V → ev_M → Prop}
theorem ev_S_mk {s : State} {H H1 : Heap} {locs : List Loc} (hS : va_S (ev_AD G) s.heap H locs) (hz : H1.size = H.size + 1) (oq : ∀ q : Nat, q < H.size → H1[q]? = H[q]?) : va_S (ev_AD G) s.heap H1 locs :=
  ⟨Nat.le_trans hS.1 (by omega), fun x h1 h2 => (oq x (Nat.lt_of_lt_of_le h1 hS.1)).trans (hS.2.1 x h1 h2), hS.2.2⟩
/-- new -/
theorem ev_new {r i ci idx : Nat} (hr : ev_rk r = .inl ci) (hi : i < ev_cnt r) (ho : ev_od r i = M.2.2.2) (hcl : Cond.classLink k.2.1.cls idx (ev_cC ci) ∈ ev_GW) (hin : Cond.instantiable (ev_cC ci) (ev_cN ci) ∈ ev_GW) (hini : Cond.initialized (ev_cC ci) ∈ ev_GW) (d : decode k.1 pc = .ok (.new idx, 3)) (hu : u.1 + 1 ≤ b.2.2.1 ∧ u.2 + ev_cN ci ≤ b.2.2.2) (kk : ev_E G k b (u.1 + 1, u.2 + ev_cN ci) (pc + 3) L (vr r i :: st) (ev_mk M r i) Q) : ev_E G k b u pc L st M Q := by
  intro p l e R s m args below meth c H locs ls Z F RT hH h1 h2 h3 hS hu' hl
  obtain ⟨c1, c2, c3⟩ := ev_rk_cls hr
  have hts := F.2.2.2.2.2.1
  have hK := F.2.2.2.2.2.2.2.2.2.2.2.2
  have hKn := hK.1.1 ci _ (ev_cl_at c1)
  have hci : ci = ev_clsT.getD r 0 := by
    unfold ev_rk at hr
    rw [if_pos c3] at hr
    cases hr
    rfl
  refine W.newcK F.1 F.2.1 F.2.2.2.2.1 (hts _ hcl) (hts _ hin) (hts _ hini) rfl d (Nat.le_trans hu.1 F.2.2.2.2.2.2.2.2.2.2.1) (Nat.le_trans hu.2 F.2.2.2.2.2.2.2.2.2.2.2.1) hKn.2.1 rfl fun H1 kC hkC e1 z1 o1 => ?_
  have hnew : ev_la G r i = H.size := by
    unfold ev_la
    rw [if_pos (by omega), hH.1, ho]
  have hc : ev_cell G (ev_mk M r i) r i H1 := by
    unfold ev_cell
    rw [hr]
    show t_OB _ _ _ _ _ _
    rw [c2]
    refine (u_born (o := ev_la G r i) (ev_fty ci) hts (ev_inlw ci c1) hKn hkC (by rw [hnew]; exact e1) (ev_fty_ok ci c1)).to (fun j hj => ?_)
    rw [ev_vo_mk, if_pos ⟨rfl, rfl⟩, ev_df_real, ← ev_dz_ok r c3 j (by rw [c2]; exact hj), ← hci]
  have hn : M.2.2.2 < ev_all := by
    rw [← ho]
    exact ev_od_lt r (by omega) i hi
  have := kk p l e R s m args below meth c H1 locs ls Z F RT (ev_Ho_mk (by omega) hi ho hH hc z1 o1) h1 ⟨Or.inl hi, h2⟩ (ev_okM_mk (by omega) hn h3) (ev_S_mk hS z1 o1) hu hl
  rw [List.map_cons, ev_real_r, hnew] at this
  exact this
/-- newarray -/
theorem ev_newa {r i t : Nat} {x : Int32} {aty : ArrayType} (hr : ev_rk r = .inr t) (h60 : r < 60) (hi : i < ev_cnt r) (ho : ev_od r i = M.2.2.2) (ht : t < 3) (h23 : r < 23 ∨ 28 ≤ r) (hty : newarray.typeOf aty = ev_ty t) (harr : Cond.arrayClass (ev_ty t) ∈ ev_GW) (hx : ¬ x < 0) (hN : x.toNatClampNeg = ev_len r) (hby : ev_len r * componentBytes (ev_ty t) ≤ 536870912) (d : decode k.1 pc = .ok (.newarray aty, 2)) (hu : u.1 + 1 ≤ b.2.2.1 ∧ u.2 + ev_len r ≤ b.2.2.2) (kk : ev_E G k b (u.1 + 1, u.2 + ev_len r) (pc + 2) L (vr r i :: st) (ev_mk M r i) Q) : ev_E G k b u pc L (vi x :: st) M Q := by
  intro p l e R s m args below meth c H locs ls Z F RT hH h1 h2 h3 hS hu' hl
  have hts := F.2.2.2.2.2.1
  have hK := F.2.2.2.2.2.2.2.2.2.2.2.2
  refine va_newaK F.1 F.2.1 (by rw [hty]; exact hts _ harr) rfl d rfl hx hN (by rw [hty]; exact hby) (Nat.le_trans hu.1 F.2.2.2.2.2.2.2.2.2.2.1) (Nat.le_trans hu.2 F.2.2.2.2.2.2.2.2.2.2.2.1) rfl fun H1 cA e1 z1 o1 _ hNm => ?_
  have hnew : ev_la G r i = H.size := by
    unfold ev_la
    rw [if_pos h60, hH.1, ho]
  have hcA : cA = ev_ca G t := by
    have hra := (hK.1.2 t _ (ev_tl_at G (by omega))).2
    rw [hty] at hNm
    have h4 : s.vm.findClass ("[" ++ (ev_ty t).toString) = some (ev_ca G t) := by
      match t, ht, hra with
      | 0, _, hra => exact hra
      | 1, _, hra => exact hra
      | 2, _, hra => exact hra
    exact Option.some.inj (hNm.symm.trans h4)
  have hdv : ∀ j, ev_real G (ev_vo (ev_mk M r i) r i j) = defaultValue (newarray.typeOf aty) := by
    intro j
    rw [ev_vo_mk, if_pos ⟨rfl, rfl⟩, ev_df_real, hty]
    unfold ev_dz
    rw [ev_fk_arr hr h23 j]
    match t, ht with
    | 0, _ => rfl
    | 1, _ => rfl
    | 2, _ => rfl
  have hc : ev_cell G (ev_mk M r i) r i H1 := by
    unfold ev_cell
    rw [hr]
    show H1[ev_la G r i]? = some (arrV (ev_ca G t) (ev_len r) (fun k => ev_real G (ev_vo (ev_mk M r i) r i k)))
    rw [hnew, e1, hcA]
    congr 2
    funext j
    exact (hdv j).symm
  have hn : M.2.2.2 < ev_all := by
    rw [← ho]
    exact ev_od_lt r h60 i hi
  have := kk p l e R s m args below meth c H1 locs ls Z F RT (ev_Ho_mk h60 hi ho hH hc z1 o1) h1 ⟨Or.inl hi, h2.2⟩ (ev_okM_mk h60 hn h3) (ev_S_mk hS z1 o1) hu hl
  rw [List.map_cons, ev_real_r, hnew] at this
  exact this
/-- anewarray -/
theorem ev_newq {r i t idx : Nat} {x : Int32} {C : String} (hr : ev_rk r = .inr t) (h23 : 23 ≤ r) (h28 : r < 28) (hi : i < ev_cnt r) (ho : ev_od r i = M.2.2.2) (ht : t < 8) (hty : ev_ty t = .object C) (hC : C ∈ ev_aoN) (hcl : Cond.classLink k.2.1.cls idx C ∈ ev_GW) (hx : ¬ x < 0) (hN : x.toNatClampNeg = ev_len r) (hby : ev_len r * 4 ≤ 536870912) (d : decode k.1 pc = .ok (.anewarray idx, 3)) (hu : u.1 + 1 ≤ b.2.2.1 ∧ u.2 + ev_len r ≤ b.2.2.2) (kk : ev_E G k b (u.1 + 1, u.2 + ev_len r) (pc + 3) L (vr r i :: st) (ev_mk M r i) Q) : ev_E G k b u pc L (vi x :: st) M Q := by
  intro p l e R s m args below meth c H locs ls Z F RT hH h1 h2 h3 hS hu' hl
  have hts := F.2.2.2.2.2.1
  have hK := F.2.2.2.2.2.2.2.2.2.2.2.2
  refine W.anew F.1 F.2.1 F.2.2.2.2.1 (hts _ hcl) (va_AO.use (hK.2.2.2.2.2.2.2.2.2.2.2 C hC)) rfl d rfl hx (by rw [hN]; exact hby) (Nat.le_trans hu.1 F.2.2.2.2.2.2.2.2.2.2.1) (by rw [hN]; exact Nat.le_trans hu.2 F.2.2.2.2.2.2.2.2.2.2.2.1) fun cA kA comp f1 f2 f3 f4 => ?_
  rw [hN]
  generalize hH1 : H.push ({ cls := cA, slots := Array.replicate (ev_len r) .null, vm := .none } : Cell) = H1
  have z1 : H1.size = H.size + 1 := by rw [← hH1, Array.size_push]
  have e1 : H1[H.size]? = some (arrV cA (ev_len r) (fun _ => .null)) := by rw [← hH1, Array.getElem?_push_size, ← arrV_new]
  have o1 : ∀ q : Nat, q < H.size → H1[q]? = H[q]? := fun q hq => by rw [← hH1, Array.getElem?_push, if_neg (Nat.ne_of_lt hq)]
  have hnew : ev_la G r i = H.size := by
    unfold ev_la
    rw [if_pos (by omega), hH.1, ho]
  have hcA : cA = ev_ca G t := by
    have hra := (hK.1.2 t _ (ev_tl_at G ht)).2
    rw [hty] at hra
    obtain ⟨kA', comp', -, -, -, h4⟩ := hra
    exact Option.some.inj (f1.symm.trans h4)
  have hc : ev_cell G (ev_mk M r i) r i H1 := by
    unfold ev_cell
    rw [hr]
    show H1[ev_la G r i]? = some (arrV (ev_ca G t) (ev_len r) (fun k => ev_real G (ev_vo (ev_mk M r i) r i k)))
    rw [hnew, e1, hcA]
    congr 2
    funext j
    rw [ev_vo_mk, if_pos ⟨rfl, rfl⟩, ev_df_real]
    unfold ev_dz
    rw [ev_fk_q h23 h28 j]
    rfl
  have hn : M.2.2.2 < ev_all := by
    rw [← ho]
    exact ev_od_lt r (by omega) i hi
  have := kk p l e R s m args below meth c H1 locs ls Z F RT (ev_Ho_mk (by omega) hi ho hH hc z1 o1) h1 ⟨Or.inl hi, h2.2⟩ (ev_okM_mk (by omega) hn h3) (ev_S_mk hS z1 o1) hu hl
  rw [List.map_cons, ev_real_r, hnew] at this
  exact this
/-- aastore of an object -/
theorem ev_aast {r i t r2 i2 ci : Nat} {x : Int32} (hr : ev_rk r = .inr t) (hr2 : ev_rk r2 = .inl ci) (hty : ev_ty t = .object (ev_cC ci)) (h23 : 23 ≤ r) (h28 : r < 28) (hin : vp_in x (ev_len r)) (d : decode k.1 pc = .ok (.aastore, 1)) (ha : ev_od r i < M.2.2.2) (ha2 : ev_od r2 i2 < M.2.2.2) (kk : ev_E G k b u (pc + 1) L st (ev_pq M r i x.toNatClampNeg (some (r2, i2))) Q) : ev_E G k b u pc L (vr r2 i2 :: vi x :: vr r i :: st) M Q := by
  intro p l e R s m args below meth c H locs ls Z F RT hH h1 h2 h3 hS hu hl
  obtain ⟨t1, t2, t3⟩ := ev_arr hr (by omega) hH h2.2.2.1 ha
  obtain ⟨cellV, g1, g2, g3, -⟩ := ev_obj hr2 hH h2.1 ha2
  obtain ⟨c1, c2, c3⟩ := ev_rk_cls hr2
  have hK := F.2.2.2.2.2.2.2.2.2.2.2.2
  have hcls := (hK.1.1 ci _ (ev_cl_at c1)).2
  have hra := (hK.1.2 t _ (ev_tl_at G t1)).2
  rw [hty] at hra
  obtain ⟨kA, comp, k1, k2, k3, -⟩ := hra
  have hcomp : comp = G.2.1 ci := Option.some.inj (k3.symm.trans hcls.1)
  subst hcomp
  obtain ⟨kC, hkC, -⟩ := hcls.2
  have hlt : x.toNatClampNeg < ev_len r := Nat.not_le.mp fun q => hin (Or.inr q)
  have h0 : ¬ x < 0 := fun q => hin (Or.inl q)
  refine W.aast (v := ev_la G r2 i2) F.1 F.2.1 t3 (fun q h => by cases h) (fun h => by cases h) k1 k2 rfl hkC ⟨h0, by show _ < (arrV _ _ _).slots.size; rw [arrV_size]; exact hlt⟩ g1 (fun q h => by rw [g3] at h; cases h) (by rw [g2]; exact hkC) (by rw [g2]; exact va_assign hcls) rfl rfl d fun H1 e1 z1 oq => ?_
  exact kk p l e R s m args below meth c H1 _ ls Z F RT (ev_astc (v := vr r2 i2) hr hH (by omega) t2 (ev_vo_pq (ev_fk_q h23 h28 _)) rfl e1 z1 oq) h1 h2.2.2.2 (ev_okM_pq h2.1 h3) (hS.put z1 oq (ev_la_ge (by omega))) hu hl
/-- Object.<init> -/
theorem ev_oini {r i idx : Nat} (hl : Cond.methodLink k.2.1.cls idx Lib.objectInit ∈ ev_GW) (hin : Cond.instanceMethod Lib.objectInit ∈ ev_GW) (hco : Cond.code Lib.objectInit ⟨#[0xb1]⟩ 1 none ∈ ev_GW) (hb : 1 ≤ b.1 ∧ 20 ≤ b.2.1) (hs : ev_cats st ≤ 8) (d : decode k.1 pc = .ok (.invokespecial idx, 3)) (kk : ev_E G k b u (pc + 3) L st M Q) : ev_E G k b u pc L (vr r i :: st) M Q := by
  intro p l e R s m args below meth c H locs ls Z F RT hH h1 h2 h3 hS hu hlv
  have hts := F.2.2.2.2.2.1
  exact W.objInit (rest := st.map (ev_real G)) F.1 F.2.1 F.2.2.2.2.1 (hts _ hl) (hts _ hin) (hts _ hco) rfl (hlv.1.trans F.2.2.2.1.symm) rfl d (Nat.le_trans hb.1 F.2.2.2.2.2.2.2.2.1) (by
    rw [ev_cats_real]
    have := F.2.2.2.2.2.2.2.2.2.1
    have := hb.2
    show 2 * 0 + _ + 12 ≤ _
    omega) (kk p l e R s m args below meth c H locs ls Z F RT hH h1 h2.2 h3 hS hu hlv)
/-- a constructor's contract: behind it the memory is M1 -/
def ev_CI (G : ev_G) (k' : ev_K) (b' : ev_B) (r i : Nat) (M M1 : ev_M) : Prop := ev_Ct G k' b' [vr r i] M (fun v M' => v = none ∧ M' = M1)
theorem ev_ctC {k' : ev_K} {b' : ev_B} {r i idx : Nat} {M1 : ev_M} (hl : Cond.methodLink k.2.1.cls idx k'.2.1 ∈ ev_GW) (hm : ev_MC k' 0) (hret : k'.2.2.2 = none) (d : decode k.1 pc = .ok (.invokespecial idx, 3)) (hb : (b'.1 + 1 ≤ b.1 ∧ 8 + (k'.2.2.1 + 11) + b'.2.1 ≤ b.2.1) ∧ u.1 + b'.2.2.1 ≤ b.2.2.1 ∧ u.2 + b'.2.2.2 ≤ b.2.2.2) (hs : ev_cats st ≤ 8) (hC : ev_CI G k' b' r i M M1) (kk : ev_E G k b (u.1 + b'.2.2.1, u.2 + b'.2.2.2) (pc + 3) L st M1 Q) : ev_E G k b u pc L (vr r i :: st) M Q :=
  ev_callC (As := []) hl hm hret rfl d hb hs hC (fun v M' h => by
    obtain ⟨rfl, rfl⟩ := h
    exact kk)
theorem ev_ctCN {k' : ev_K} {b' : ev_B} {r i idx : Nat} {host : String} {M1 : ev_M} (hl : (k.2.1.cls, idx, k'.2.1, host) ∈ ev_nm) (hm : ev_MC k' 0) (hret : k'.2.2.2 = none) (d : decode k.1 pc = .ok (.invokespecial idx, 3)) (hb : (b'.1 + 1 ≤ b.1 ∧ 8 + (k'.2.2.1 + 11) + b'.2.1 ≤ b.2.1) ∧ u.1 + b'.2.2.1 ≤ b.2.2.1 ∧ u.2 + b'.2.2.2 ≤ b.2.2.2) (hs : ev_cats st ≤ 8) (hC : ev_CI G k' b' r i M M1) (kk : ev_E G k b (u.1 + b'.2.2.1, u.2 + b'.2.2.2) (pc + 3) L st M1 Q) : ev_E G k b u pc L (vr r i :: st) M Q :=
  ev_callCN (As := []) hl hm hret rfl d hb hs hC (fun v M' h => by
    obtain ⟨rfl, rfl⟩ := h
    exact kk)
end EVN
