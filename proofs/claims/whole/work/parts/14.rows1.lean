/-! rows over the world as it stands behind the constructors: m: ints, longs, the references that change -/
theorem ev_emb_pi (m : ev_m) (r i j : Nat) (x : Int32) : ev_pi (ev_emb m) r i j x = ev_emb (ev_pim m r i j x) := rfl
theorem ev_emb_pl (m : ev_m) (r i j : Nat) (x : Int64) : ev_pl (ev_emb m) r i j x = ev_emb (ev_plm m r i j x) := rfl
theorem ev_emb_pr (m : ev_m) (r i : Nat) (g : Nat → Int32) : ev_pr (ev_emb m) r i g = ev_emb (ev_prm m r i g) := rfl
theorem ev_emb_po8 (m : ev_m) (i : Nat) (x : Option Nat) : ev_pq (ev_emb m) 8 i 0 (x.map (fun z => (3, z))) = ev_emb (ev_pom m 8 i 0 x) := by
  have h : ev_u (ev_lay m.2.2) 8 i 0 (x.map (fun z => (3, z))) = ev_lay (ev_u m.2.2 8 i 0 x) := by
    funext a c d
    by_cases e : a = 8 ∧ c = i ∧ d = 0
    · obtain ⟨rfl, rfl, rfl⟩ := e
      show (if _ then _ else _) = (if _ then _ else _ : Option Nat).map _
      rw [if_pos ⟨rfl, rfl, rfl⟩, if_pos ⟨rfl, rfl, rfl⟩]
    · have h1 : ev_u m.2.2 8 i 0 x a c d = m.2.2 a c d := if_neg e
      have h2 : ev_u (ev_lay m.2.2) 8 i 0 (x.map (fun z => (3, z))) a c d = ev_lay m.2.2 a c d := if_neg e
      rw [h2]
      unfold ev_lay
      split <;> (try split) <;> first | rfl | (rw [h1]) | (simp_all)
  show (_, _, ev_u (ev_lay m.2.2) 8 i 0 (x.map (fun z => (3, z))), _) = _
  rw [h]
  rfl
theorem ev_emb_po9 (m : ev_m) (i : Nat) (x : Option Nat) : ev_pq (ev_emb m) 9 i 0 (x.map (fun z => (4, z))) = ev_emb (ev_pom m 9 i 0 x) := by
  have h : ev_u (ev_lay m.2.2) 9 i 0 (x.map (fun z => (4, z))) = ev_lay (ev_u m.2.2 9 i 0 x) := by
    funext a c d
    by_cases e : a = 9 ∧ c = i ∧ d = 0
    · obtain ⟨rfl, rfl, rfl⟩ := e
      show (if _ then _ else _) = (if _ then _ else _ : Option Nat).map _
      rw [if_pos ⟨rfl, rfl, rfl⟩, if_pos ⟨rfl, rfl, rfl⟩]
    · have h1 : ev_u m.2.2 9 i 0 x a c d = m.2.2 a c d := if_neg e
      have h2 : ev_u (ev_lay m.2.2) 9 i 0 (x.map (fun z => (4, z))) a c d = ev_lay m.2.2 a c d := if_neg e
      rw [h2]
      unfold ev_lay
      split <;> (try split) <;> first | rfl | (rw [h1]) | (simp_all)
  show (_, _, ev_u (ev_lay m.2.2) 9 i 0 (x.map (fun z => (4, z))), _) = _
  rw [h]
  rfl
theorem ev_letE {α β : Type} {a : α} {f : α → β} {R : β} (h : ev_let a f = R) : ∃ x, x = a ∧ f x = R := ⟨a, rfl, h⟩
theorem ev_bindE {α β : Type} {a : Option α} {f : α → Option β} {R : Option β} (hN : none ≠ R) (h : a.bind f = R) : ∃ x, a = some x ∧ f x = R := by
  cases a with
  | none => exact absurd h hN
  | some x => exact ⟨x, rfl, h⟩
theorem ev_ifp {α : Sort _} {c : Prop} [Decidable c] {a b R : α} (h : (if c then a else b) = R) (hc : c) : a = R := (if_pos hc).symm.trans h
theorem ev_ifn {α : Sort _} {c : Prop} [Decidable c] {a b R : α} (h : (if c then a else b) = R) (hc : ¬ c) : b = R := (if_neg hc).symm.trans h
theorem ev_aldE {f : Nat → Int32} {n : Nat} {x y : Int32} (h : ev_ald f n x = some y) : vp_in x n ∧ y = f x.toNatClampNeg := by
  unfold ev_ald at h
  split at h
  · next q =>
    cases h
    exact ⟨vp_in_iff.mpr q, rfl⟩
  · cases h
theorem ev_astE {m m' : ev_m} {r i n : Nat} {x y : Int32} (h : ev_ast m r i n x y = some m') : vp_in x n ∧ m' = ev_pim m r i x.toNatClampNeg y := by
  unfold ev_ast at h
  split at h
  · next q =>
    cases h
    exact ⟨vp_in_iff.mpr q, rfl⟩
  · cases h
theorem ev_bstE {m m' : ev_m} {r i n : Nat} {x y : Int32} (h : ev_bst m r i n x y = some m') : vp_in x n ∧ m' = ev_pim m r i x.toNatClampNeg (vp_nar .byte y) := by
  unfold ev_bst at h
  split at h
  · next q =>
    cases h
    exact ⟨vp_in_iff.mpr q, rfl⟩
  · cases h
theorem ev_zstE {m m' : ev_m} {r i n : Nat} {x y : Int32} (h : ev_zst m r i n x y = some m') : vp_in x n ∧ m' = ev_pim m r i x.toNatClampNeg (vp_nar .boolean y) := by
  unfold ev_zst at h
  split at h
  · next q =>
    cases h
    exact ⟨vp_in_iff.mpr q, rfl⟩
  · cases h
theorem ev_ardE {g : Nat → Nat} {n : Nat} {x : Int32} {y : Nat} (h : ev_ard g n x = some y) : vp_in x n ∧ y = g x.toNatClampNeg := by
  unfold ev_ard at h
  split at h
  · next q =>
    cases h
    exact ⟨vp_in_iff.mpr q, rfl⟩
  · cases h
theorem ev_dvE {x y z : Int32} (h : ev_dv x y = some z) : ¬ y = 0 ∧ z = x / y := by
  unfold ev_dv at h
  split at h
  · cases h
  · next q => cases h; exact ⟨q, rfl⟩
theorem ev_rmE {x y z : Int32} (h : ev_rm x y = some z) : ¬ y = 0 ∧ z = x - x / y * y := by
  unfold ev_rm at h
  split at h
  · cases h
  · next q => cases h; exact ⟨q, rfl⟩
/-- fewer known locals -/
def ev_le : List (Option ev_V) → List (Option ev_V) → Prop
  | [], [] => True
  | none :: t, _ :: t' => ev_le t t'
  | some v :: t, o :: t' => o = some v ∧ ev_le t t'
  | _, _ => False
theorem ev_le_at : ∀ {L' L : List (Option ev_V)} {j : Nat} {v : ev_V}, ev_le L' L → L'[j]? = some (some v) → L[j]? = some (some v)
  | [], [], j, v, _, h => h
  | [], _ :: _, _, _, k, _ => k.elim
  | none :: _, [], _, _, k, _ => k.elim
  | some _ :: _, [], _, _, k, _ => k.elim
  | none :: t, _ :: t', 0, v, _, h => by simp at h
  | none :: t, _ :: t', j + 1, v, k, h => by
    have k2 : ev_le t t' := k
    simpa using ev_le_at k2 (by simpa using h)
  | some w :: t, o :: t', 0, v, k, h => by
    simp at h
    subst h
    simpa using k.1
  | some w :: t, o :: t', j + 1, v, k, h => by simpa using ev_le_at k.2 (by simpa using h)
theorem ev_okl_le : ∀ {L' L : List (Option ev_V)}, ev_le L' L → ev_okl L → ev_okl L'
  | [], [], _, _ => trivial
  | [], _ :: _, k, _ => k.elim
  | none :: _, [], k, _ => k.elim
  | some _ :: _, [], k, _ => k.elim
  | none :: t, none :: t', k, h => ev_okl_le (L' := t) (L := t') k h
  | none :: t, some _ :: t', k, h => ev_okl_le (L' := t) (L := t') k h.2
  | some w :: t, none :: t', k, h => by cases k.1
  | some w :: t, some v :: t', k, h => by
    have := k.1
    cases this
    exact ⟨h.1, ev_okl_le k.2 h.2⟩
section EV1
variable {G : ev_G} {k : ev_K} {b : ev_B} {u : Nat × Nat} {pc : Nat} {L : List (Option ev_V)} {st : List ev_V} {m : ev_m} {Q : Option ev_V → ev_M → Prop}
theorem ev_E.forget {L' : List (Option ev_V)} {M : ev_M} (hl : ev_le L' L) (kk : ev_E G k b u pc L' st M Q) : ev_E G k b u pc L st M Q := by
  intro p l e R s m args below meth c H locs ls Z F RT hH h1 h2 h3 hS hu hlv
  refine kk p l e R s m args below meth c H locs ls Z F RT hH (ev_okl_le hl h1) h2 h3 hS hu ⟨hlv.1, hlv.2.1, fun q hq => ?_⟩
  obtain ⟨j, v, rfl, hj⟩ := ev_al_of hq
  exact hlv.2.2 _ (ev_al_at (i := 0) (ev_le_at hl hj))
theorem ev_topi {x y : Int32} {M : ev_M} (h : y = x) (kk : ev_E G k b u pc L (vi y :: st) M Q) : ev_E G k b u pc L (vi x :: st) M Q := h ▸ kk
theorem ev_topl {x y : Int64} {M : ev_M} (h : y = x) (kk : ev_E G k b u pc L (vl y :: st) M Q) : ev_E G k b u pc L (vl x :: st) M Q := h ▸ kk
theorem ev_topo {r : Nat} {x y : Option Nat} {M : ev_M} (h : y = x) (kk : ev_E G k b u pc L (vo r y :: st) M Q) : ev_E G k b u pc L (vo r x :: st) M Q := h ▸ kk
theorem ev_mem {x y : ev_m} (h : y = x) (kk : ev_E G k b u pc L st (ev_emb y) Q) : ev_E G k b u pc L st (ev_emb x) Q := h ▸ kk
theorem ev_fr {r i : Nat} (h : ev_ok (vr r i)) (h60 : r < 60) : ev_od r i < ev_all := by
  rcases h with h | h
  · exact ev_od_lt r h60 i h
  · exact absurd (show 60 ≤ r from h) (by omega)
theorem ev_getI {r i ci idx j : Nat} (hf : ev_FL k.2.1.cls idx ci j) (hr : ev_rk r = .inl ci) (hk : ev_fk r j = 0) (d : decode k.1 pc = .ok (.getfield idx, 3)) (kk : ev_E G k b u (pc + 3) L (vi (m.1 r i j) :: st) (ev_emb m) Q) : ev_E G k b u pc L (vr r i :: st) (ev_emb m) Q :=
  ev_E.known (fun _ h2 _ => ev_geti hf hr hk d (ev_fr h2.1 (by have := ev_rk_obj hr; omega)) kk)
theorem ev_getL {r i ci idx j : Nat} (hf : ev_FL k.2.1.cls idx ci j) (hr : ev_rk r = .inl ci) (hk : ev_fk r j = 1) (d : decode k.1 pc = .ok (.getfield idx, 3)) (kk : ev_E G k b u (pc + 3) L (vl (m.2.1 r i j) :: st) (ev_emb m) Q) : ev_E G k b u pc L (vr r i :: st) (ev_emb m) Q :=
  ev_E.known (fun _ h2 _ => ev_getl hf hr hk d (ev_fr h2.1 (by have := ev_rk_obj hr; omega)) kk)
theorem ev_getR {r i ci idx j r' i' : Nat} (hf : ev_FL k.2.1.cls idx ci j) (hr : ev_rk r = .inl ci) (hk : ev_fk r j = 2) (hq : ev_lay m.2.2 r i j = some (r', i')) (d : decode k.1 pc = .ok (.getfield idx, 3)) (kk : ev_E G k b u (pc + 3) L (vr r' i' :: st) (ev_emb m) Q) : ev_E G k b u pc L (vr r i :: st) (ev_emb m) Q :=
  ev_E.known (fun _ h2 _ => ev_getq hf hr hk d (ev_fr h2.1 (by have := ev_rk_obj hr; omega)) (by
    have e : (ev_emb m).2.2.1 r i j = some (r', i') := hq
    rw [e]
    exact kk))
theorem ev_getO {r i ci idx j r' : Nat} {o : Option Nat} (hf : ev_FL k.2.1.cls idx ci j) (hr : ev_rk r = .inl ci) (hk : ev_fk r j = 2) (hq : ev_lay m.2.2 r i j = o.map (fun z => (r', z))) (d : decode k.1 pc = .ok (.getfield idx, 3)) (kk : ev_E G k b u (pc + 3) L (vo r' o :: st) (ev_emb m) Q) : ev_E G k b u pc L (vr r i :: st) (ev_emb m) Q :=
  ev_E.known (fun _ h2 _ => ev_getq hf hr hk d (ev_fr h2.1 (by have := ev_rk_obj hr; omega)) (by
    have e : (ev_emb m).2.2.1 r i j = o.map (fun z => (r', z)) := hq
    rw [e]
    exact kk))
theorem ev_putI {r i ci idx j : Nat} {x : Int32} (hf : ev_FL k.2.1.cls idx ci j) (hr : ev_rk r = .inl ci) (hk : ev_fk r j = 0) (hfin : (ev_cT ci j).2.2.2 = false) (hft : fits (ev_fty ci j) (.int x) = true) (hn : narrow (ev_fty ci j) (.int x) = .int x) (d : decode k.1 pc = .ok (.putfield idx, 3)) (kk : ev_E G k b u (pc + 3) L st (ev_emb (ev_pim m r i j x)) Q) : ev_E G k b u pc L (vi x :: vr r i :: st) (ev_emb m) Q :=
  ev_E.known (fun _ h2 _ => ev_puti hf hr hk hfin hft hn d (ev_fr h2.2.1 (by have := ev_rk_obj hr; omega)) kk)
theorem ev_putL {r i ci idx j : Nat} {x : Int64} (hf : ev_FL k.2.1.cls idx ci j) (hr : ev_rk r = .inl ci) (hk : ev_fk r j = 1) (hfin : (ev_cT ci j).2.2.2 = false) (hft : fits (ev_fty ci j) (.long x) = true) (hn : narrow (ev_fty ci j) (.long x) = .long x) (d : decode k.1 pc = .ok (.putfield idx, 3)) (kk : ev_E G k b u (pc + 3) L st (ev_emb (ev_plm m r i j x)) Q) : ev_E G k b u pc L (vl x :: vr r i :: st) (ev_emb m) Q :=
  ev_E.known (fun _ h2 _ => ev_putl hf hr hk hfin hft hn d (ev_fr h2.2.1 (by have := ev_rk_obj hr; omega)) kk)
theorem ev_putO {r i ci idx j r' : Nat} {o : Option Nat} (hf : ev_FL k.2.1.cls idx ci j) (hr : ev_rk r = .inl ci) (hk : ev_fk r j = 2) (hfin : (ev_cT ci j).2.2.2 = false) (hty : (∃ n, ev_fty ci j = .object n) ∨ ∃ t, ev_fty ci j = .array t) (he : ev_pq (ev_emb m) r i j (o.map (fun z => (r', z))) = ev_emb (ev_pom m r i j o)) (d : decode k.1 pc = .ok (.putfield idx, 3)) (kk : ev_E G k b u (pc + 3) L st (ev_emb (ev_pom m r i j o)) Q) : ev_E G k b u pc L (vo r' o :: vr r i :: st) (ev_emb m) Q :=
  ev_E.known (fun _ h2 _ => ev_putq hf hr hk (Or.inl hfin) hty d (ev_fr h2.2.1 (by have := ev_rk_obj hr; omega)) (by rw [he]; exact kk))
theorem ev_ialdS {r i j : Nat} {x : Int32} (hr : ev_rk r = .inr 0) (h60 : r < 60) (hx : x.toNatClampNeg = j) (hin : vp_in x (ev_len r)) (d : decode k.1 pc = .ok (.iaload, 1)) (kk : ev_E G k b u (pc + 1) L (vi (m.1 r i j) :: st) (ev_emb m) Q) : ev_E G k b u pc L (vi x :: vr r i :: st) (ev_emb m) Q := by
  subst hx
  exact ev_E.known (fun _ h2 _ => ev_iald hr hin d (fun _ => ev_fr h2.2.1 h60) (fun h => absurd h (by omega)) kk)
theorem ev_baldS {r i j : Nat} {x : Int32} (hr : ev_rk r = .inr 1) (h60 : r < 60) (h23 : r < 23 ∨ 28 ≤ r) (hx : x.toNatClampNeg = j) (hin : vp_in x (ev_len r)) (d : decode k.1 pc = .ok (.baload, 1)) (kk : ev_E G k b u (pc + 1) L (vi (m.1 r i j) :: st) (ev_emb m) Q) : ev_E G k b u pc L (vi x :: vr r i :: st) (ev_emb m) Q := by
  subst hx
  exact ev_E.known (fun _ h2 _ => ev_bald hr h60 h23 hin d (ev_fr h2.2.1 h60) kk)
theorem ev_zaldS {r i j : Nat} {x : Int32} (hr : ev_rk r = .inr 2) (h60 : r < 60) (h23 : r < 23 ∨ 28 ≤ r) (hx : x.toNatClampNeg = j) (hin : vp_in x (ev_len r)) (d : decode k.1 pc = .ok (.baload, 1)) (kk : ev_E G k b u (pc + 1) L (vi (m.1 r i j) :: st) (ev_emb m) Q) : ev_E G k b u pc L (vi x :: vr r i :: st) (ev_emb m) Q := by
  subst hx
  exact ev_E.known (fun _ h2 _ => ev_zald hr h60 h23 hin d (ev_fr h2.2.1 h60) kk)
theorem ev_iastS {r i j : Nat} {x y : Int32} (hr : ev_rk r = .inr 0) (h60 : r < 60) (h23 : r < 23 ∨ 28 ≤ r) (hx : x.toNatClampNeg = j) (hin : vp_in x (ev_len r)) (d : decode k.1 pc = .ok (.iastore, 1)) (kk : ev_E G k b u (pc + 1) L st (ev_emb (ev_pim m r i j y)) Q) : ev_E G k b u pc L (vi y :: vi x :: vr r i :: st) (ev_emb m) Q := by
  subst hx
  exact ev_E.known (fun _ h2 _ => ev_iast hr h60 h23 hin d (ev_fr h2.2.2.1 h60) kk)
theorem ev_iald1 {r i n : Nat} {x y : Int32} (hr : ev_rk r = .inr 0) (h60 : r < 60) (hn : ev_len r = n) (hy : ev_ald (m.1 r i) n x = some y) (d : decode k.1 pc = .ok (.iaload, 1)) (kk : ev_E G k b u (pc + 1) L (vi y :: st) (ev_emb m) Q) : ev_E G k b u pc L (vi x :: vr r i :: st) (ev_emb m) Q := by
  obtain ⟨h1, h2⟩ := ev_aldE hy
  exact ev_ialdS hr h60 rfl (by rw [hn]; exact h1) d (by rw [← h2]; exact kk)
theorem ev_bald1 {r i n : Nat} {x y : Int32} (hr : ev_rk r = .inr 1) (h60 : r < 60) (h23 : r < 23 ∨ 28 ≤ r) (hn : ev_len r = n) (hy : ev_ald (m.1 r i) n x = some y) (d : decode k.1 pc = .ok (.baload, 1)) (kk : ev_E G k b u (pc + 1) L (vi y :: st) (ev_emb m) Q) : ev_E G k b u pc L (vi x :: vr r i :: st) (ev_emb m) Q := by
  obtain ⟨h1, h2⟩ := ev_aldE hy
  exact ev_baldS hr h60 h23 rfl (by rw [hn]; exact h1) d (by rw [← h2]; exact kk)
theorem ev_zald1 {r i n : Nat} {x y : Int32} (hr : ev_rk r = .inr 2) (h60 : r < 60) (h23 : r < 23 ∨ 28 ≤ r) (hn : ev_len r = n) (hy : ev_ald (m.1 r i) n x = some y) (d : decode k.1 pc = .ok (.baload, 1)) (kk : ev_E G k b u (pc + 1) L (vi y :: st) (ev_emb m) Q) : ev_E G k b u pc L (vi x :: vr r i :: st) (ev_emb m) Q := by
  obtain ⟨h1, h2⟩ := ev_aldE hy
  exact ev_zaldS hr h60 h23 rfl (by rw [hn]; exact h1) d (by rw [← h2]; exact kk)
theorem ev_aald1 {r i t n r' : Nat} {x : Int32} {y : Nat} {g : Nat → Nat} (hr : ev_rk r = .inr t) (h23 : 23 ≤ r) (h28 : r < 28) (hn : ev_len r = n) (hg : ∀ j, ev_lay m.2.2 r i j = some (r', g j)) (hy : ev_ard g n x = some y) (d : decode k.1 pc = .ok (.aaload, 1)) (kk : ev_E G k b u (pc + 1) L (vr r' y :: st) (ev_emb m) Q) : ev_E G k b u pc L (vi x :: vr r i :: st) (ev_emb m) Q := by
  obtain ⟨h1, h2⟩ := ev_ardE hy
  refine ev_E.known (fun _ h3 _ => ev_aald hr h23 h28 (by rw [hn]; exact h1) d (ev_fr h3.2.1 (by omega)) ?_)
  have e : (ev_emb m).2.2.1 r i x.toNatClampNeg = some (r', y) := by rw [h2]; exact hg _
  rw [e]
  exact kk
theorem ev_iast1 {r i n : Nat} {x y : Int32} {m' : ev_m} (hr : ev_rk r = .inr 0) (h60 : r < 60) (h23 : r < 23 ∨ 28 ≤ r) (hn : ev_len r = n) (hy : ev_ast m r i n x y = some m') (d : decode k.1 pc = .ok (.iastore, 1)) (kk : ev_E G k b u (pc + 1) L st (ev_emb m') Q) : ev_E G k b u pc L (vi y :: vi x :: vr r i :: st) (ev_emb m) Q := by
  obtain ⟨h1, h2⟩ := ev_astE hy
  subst h2
  exact ev_iastS hr h60 h23 rfl (by rw [hn]; exact h1) d kk
theorem ev_bast1 {r i n : Nat} {x y : Int32} {m' : ev_m} (hr : ev_rk r = .inr 1) (h60 : r < 60) (h23 : r < 23 ∨ 28 ≤ r) (hn : ev_len r = n) (hy : ev_bst m r i n x y = some m') (d : decode k.1 pc = .ok (.bastore, 1)) (kk : ev_E G k b u (pc + 1) L st (ev_emb m') Q) : ev_E G k b u pc L (vi y :: vi x :: vr r i :: st) (ev_emb m) Q := by
  obtain ⟨h1, h2⟩ := ev_bstE hy
  subst h2
  exact ev_E.known (fun _ h2 _ => ev_bast hr h60 h23 (by rw [hn]; exact h1) d (ev_fr h2.2.2.1 h60) kk)
theorem ev_zast1 {r i n : Nat} {x y : Int32} {m' : ev_m} (hr : ev_rk r = .inr 2) (h60 : r < 60) (h23 : r < 23 ∨ 28 ≤ r) (hn : ev_len r = n) (hy : ev_zst m r i n x y = some m') (d : decode k.1 pc = .ok (.bastore, 1)) (kk : ev_E G k b u (pc + 1) L st (ev_emb m') Q) : ev_E G k b u pc L (vi y :: vi x :: vr r i :: st) (ev_emb m) Q := by
  obtain ⟨h1, h2⟩ := ev_zstE hy
  subst h2
  exact ev_E.known (fun _ h2 _ => ev_zast hr h60 h23 (by rw [hn]; exact h1) d (ev_fr h2.2.2.1 h60) kk)
theorem ev_alen1 {r i t : Nat} {y : Int32} (hr : ev_rk r = .inr t) (h60 : r < 60) (hy : Int32.ofNat (ev_len r) = y) (d : decode k.1 pc = .ok (.arraylength, 1)) (kk : ev_E G k b u (pc + 1) L (vi y :: st) (ev_emb m) Q) : ev_E G k b u pc L (vr r i :: st) (ev_emb m) Q :=
  ev_E.known (fun _ h2 _ => ev_alen hr hy d (fun _ => ev_fr h2.1 h60) (fun h => absurd h (by omega)) kk)
theorem ev_idiv1 {x y z : Int32} {M : ev_M} (hz : ev_dv x y = some z) (d : decode k.1 pc = .ok (.idiv, 1)) (kk : ev_E G k b u (pc + 1) L (vi z :: st) M Q) : ev_E G k b u pc L (vi y :: vi x :: st) M Q := by
  obtain ⟨h1, h2⟩ := ev_dvE hz
  subst h2
  exact ev_idiv d h1 kk
theorem ev_irem1 {x y z : Int32} {M : ev_M} (hz : ev_rm x y = some z) (d : decode k.1 pc = .ok (.irem, 1)) (kk : ev_E G k b u (pc + 1) L (vi z :: st) M Q) : ev_E G k b u pc L (vi y :: vi x :: st) M Q := by
  obtain ⟨h1, h2⟩ := ev_rmE hz
  subst h2
  exact ev_irem d h1 kk
/-- a contract whose answer and memory are said -/
abbrev ev_CF (G : ev_G) (k : ev_K) (b : ev_B) (vs : List ev_V) (m : ev_m) (v : Option ev_V) (m' : ev_m) : Prop := ev_Ct G k b vs (ev_emb m) (fun v0 M0 => v0 = v ∧ M0 = ev_emb m')
theorem ev_cV {k' : ev_K} {fr lo : Nat} {r i ci n idx : Nat} {As st0 : List ev_V} {v : Option ev_V} {m' : ev_m} (hl : Cond.methodLink k.2.1.cls idx k'.2.1 ∈ ev_GW) (hm : ev_MI k' n) (hr : ev_rk r = .inl ci) (hci : ev_cC ci = k'.2.1.cls) (hn : As.length = n) (d : decode k.1 pc = .ok (.invokevirtual idx, 3)) (hb : fr + 1 ≤ b.1 ∧ 8 + (k'.2.2.1 + 11) + lo ≤ b.2.1) (hs : ev_cats st ≤ 8) (h0 : As.reverse ++ vr r i :: st = st0)
    (hC : ev_CF G k' (fr, lo, 0, 0) (vr r i :: As) m v m') (kk : ev_E G k b u (pc + 3) L (v.toList ++ st) (ev_emb m') Q) : ev_E G k b u pc L st0 (ev_emb m) Q := by
  subst h0
  exact ev_E.known (fun _ h2 _ => fun p l e R s m args below meth c H locs ls Z F RT hH h1 h2' h3 hS hu hl' => ev_callV (u := u) (b := b) (b' := (fr, lo, 0, 0)) hl hm hr hci hn d (ev_fr (ev_oks_app.mp h2).2.1 (by have := ev_rk_obj hr; omega)) ⟨hb, hu⟩ hs hC (fun v0 M0 q => by obtain ⟨rfl, rfl⟩ := q; exact kk) p l e R s m args below meth c H locs ls Z F RT hH h1 h2' h3 hS hu hl')
theorem ev_cS {k' : ev_K} {fr lo : Nat} {n idx : Nat} {As st0 : List ev_V} {v : Option ev_V} {m' : ev_m} (hl : Cond.methodLink k.2.1.cls idx k'.2.1 ∈ ev_GW) (hm : ev_MS k' n) (hn : As.length = n) (d : decode k.1 pc = .ok (.invokestatic idx, 3)) (hb : fr + 1 ≤ b.1 ∧ 8 + (k'.2.2.1 + 11) + lo ≤ b.2.1) (hs : ev_cats st ≤ 8) (h0 : As.reverse ++ st = st0)
    (hC : ev_CF G k' (fr, lo, 0, 0) As m v m') (kk : ev_E G k b u (pc + 3) L (v.toList ++ st) (ev_emb m') Q) : ev_E G k b u pc L st0 (ev_emb m) Q := by
  subst h0
  exact fun p l e R s m args below meth c H locs ls Z F RT hH h1 h2' h3 hS hu hl' => ev_callS (u := u) (b := b) (b' := (fr, lo, 0, 0)) hl hm hn d ⟨hb, hu⟩ hs hC (fun v0 M0 q => by obtain ⟨rfl, rfl⟩ := q; exact kk) p l e R s m args below meth c H locs ls Z F RT hH h1 h2' h3 hS hu hl'
theorem ev_cSN {k' : ev_K} {fr lo : Nat} {n idx : Nat} {host : String} {As st0 : List ev_V} {v : Option ev_V} {m' : ev_m} (hl : (k.2.1.cls, idx, k'.2.1, host) ∈ ev_nm) (hm : ev_MS k' n) (hn : As.length = n) (d : decode k.1 pc = .ok (.invokestatic idx, 3)) (hb : fr + 1 ≤ b.1 ∧ 8 + (k'.2.2.1 + 11) + lo ≤ b.2.1) (hs : ev_cats st ≤ 8) (h0 : As.reverse ++ st = st0)
    (hC : ev_CF G k' (fr, lo, 0, 0) As m v m') (kk : ev_E G k b u (pc + 3) L (v.toList ++ st) (ev_emb m') Q) : ev_E G k b u pc L st0 (ev_emb m) Q := by
  subst h0
  exact fun p l e R s m args below meth c H locs ls Z F RT hH h1 h2' h3 hS hu hl' => ev_callSN (u := u) (b := b) (b' := (fr, lo, 0, 0)) hl hm hn d ⟨hb, hu⟩ hs hC (fun v0 M0 q => by obtain ⟨rfl, rfl⟩ := q; exact kk) p l e R s m args below meth c H locs ls Z F RT hH h1 h2' h3 hS hu hl'
theorem ev_cV1 {k' : ev_K} {fr lo : Nat} {r i ci n idx : Nat} {As st0 : List ev_V} {v : ev_V} {m' : ev_m} (hl : Cond.methodLink k.2.1.cls idx k'.2.1 ∈ ev_GW) (hm : ev_MI k' n) (hr : ev_rk r = .inl ci) (hci : ev_cC ci = k'.2.1.cls) (hn : As.length = n) (d : decode k.1 pc = .ok (.invokevirtual idx, 3)) (hb : fr + 1 ≤ b.1 ∧ 8 + (k'.2.2.1 + 11) + lo ≤ b.2.1) (hs : ev_cats st ≤ 8) (h0 : As.reverse ++ vr r i :: st = st0)
    (hC : ev_CF G k' (fr, lo, 0, 0) (vr r i :: As) m (some v) m') (kk : ev_E G k b u (pc + 3) L (v :: st) (ev_emb m') Q) : ev_E G k b u pc L st0 (ev_emb m) Q := ev_cV hl hm hr hci hn d hb hs h0 hC kk
theorem ev_cV0 {k' : ev_K} {fr lo : Nat} {r i ci n idx : Nat} {As st0 : List ev_V} {m' : ev_m} (hl : Cond.methodLink k.2.1.cls idx k'.2.1 ∈ ev_GW) (hm : ev_MI k' n) (hr : ev_rk r = .inl ci) (hci : ev_cC ci = k'.2.1.cls) (hn : As.length = n) (d : decode k.1 pc = .ok (.invokevirtual idx, 3)) (hb : fr + 1 ≤ b.1 ∧ 8 + (k'.2.2.1 + 11) + lo ≤ b.2.1) (hs : ev_cats st ≤ 8) (h0 : As.reverse ++ vr r i :: st = st0)
    (hC : ev_CF G k' (fr, lo, 0, 0) (vr r i :: As) m none m') (kk : ev_E G k b u (pc + 3) L st (ev_emb m') Q) : ev_E G k b u pc L st0 (ev_emb m) Q := ev_cV hl hm hr hci hn d hb hs h0 hC kk
theorem ev_nb (t : Bool) : narrow .boolean (.int (bi t)) = .int (bi t) := by cases t <;> rfl
theorem ev_bi0 (t : Bool) : bi t = 0 ↔ ¬ t = true := by cases t <;> simp [bi]
theorem ev_onN {α : Type} {a R : α} {f : Nat → α} (h : ev_on none a f = R) : a = R := h
theorem ev_onS {α : Type} {a R : α} {f : Nat → α} {j : Nat} (h : ev_on (some j) a f = R) : f j = R := h
theorem ev_ifb_eq {t : Bool} {off : Int} {tgt : Nat} {M : ev_M} (d : decode k.1 pc = .ok (.ifCond .eq off, 3)) (ht : (pc : Int) + off = (tgt : Int)) (kt : ¬ t = true → ev_E G k b u tgt L st M Q) (kf : t = true → ev_E G k b u (pc + 3) L st M Q) : ev_E G k b u pc L (vi (bi t) :: st) M Q :=
  ev_if_eq d ht (fun q => kt ((ev_bi0 t).mp q)) (fun q => kf (Classical.not_not.mp (fun z => q ((ev_bi0 t).mpr z))))
theorem ev_ifb_ne {t : Bool} {off : Int} {tgt : Nat} {M : ev_M} (d : decode k.1 pc = .ok (.ifCond .ne off, 3)) (ht : (pc : Int) + off = (tgt : Int)) (kt : t = true → ev_E G k b u tgt L st M Q) (kf : ¬ t = true → ev_E G k b u (pc + 3) L st M Q) : ev_E G k b u pc L (vi (bi t) :: st) M Q :=
  ev_if_ne d ht (fun q => kt (Classical.not_not.mp (fun z => q ((ev_bi0 t).mpr z)))) (fun q => kf ((ev_bi0 t).mp q))
/-- branches, with a condition and its contrary -/
theorem ev_ifc_eq {x : Int32} {off : Int} {tgt : Nat} {M : ev_M} (d : decode k.1 pc = .ok (.ifCond .eq off, 3)) (ht : (pc : Int) + off = (tgt : Int)) (kt : x = 0 → ev_E G k b u tgt L st M Q) (kf : ¬ (x = 0) → ev_E G k b u (pc + 3) L st M Q) : ev_E G k b u pc L (vi x :: st) M Q := by
  intro p l e R s m args below meth c H locs ls Z F RT hH h1 h2 h3 hS hu hl
  exact lv_if_eq F.1 F.2.1 d ht (fun q => kt (q) p l e R s m args below meth c H locs ls Z F RT hH h1 h2.2 h3 hS hu hl) (fun q => kf (q) p l e R s m args below meth c H locs ls Z F RT hH h1 h2.2 h3 hS hu hl)
theorem ev_icc_eq {x y : Int32} {off : Int} {tgt : Nat} {M : ev_M} (d : decode k.1 pc = .ok (.if_icmp .eq off, 3)) (ht : (pc : Int) + off = (tgt : Int)) (kt : x = y → ev_E G k b u tgt L st M Q) (kf : ¬ (x = y) → ev_E G k b u (pc + 3) L st M Q) : ev_E G k b u pc L (vi y :: vi x :: st) M Q := by
  intro p l e R s m args below meth c H locs ls Z F RT hH h1 h2 h3 hS hu hl
  exact lv_icmp_eq F.1 F.2.1 d ht (fun q => kt (q) p l e R s m args below meth c H locs ls Z F RT hH h1 h2.2.2 h3 hS hu hl) (fun q => kf (q) p l e R s m args below meth c H locs ls Z F RT hH h1 h2.2.2 h3 hS hu hl)
theorem ev_ifc_ne {x : Int32} {off : Int} {tgt : Nat} {M : ev_M} (d : decode k.1 pc = .ok (.ifCond .ne off, 3)) (ht : (pc : Int) + off = (tgt : Int)) (kt : ¬ (x = 0) → ev_E G k b u tgt L st M Q) (kf : x = 0 → ev_E G k b u (pc + 3) L st M Q) : ev_E G k b u pc L (vi x :: st) M Q := by
  intro p l e R s m args below meth c H locs ls Z F RT hH h1 h2 h3 hS hu hl
  exact lv_if_ne F.1 F.2.1 d ht (fun q => kt (q) p l e R s m args below meth c H locs ls Z F RT hH h1 h2.2 h3 hS hu hl) (fun q => kf (q) p l e R s m args below meth c H locs ls Z F RT hH h1 h2.2 h3 hS hu hl)
theorem ev_icc_ne {x y : Int32} {off : Int} {tgt : Nat} {M : ev_M} (d : decode k.1 pc = .ok (.if_icmp .ne off, 3)) (ht : (pc : Int) + off = (tgt : Int)) (kt : ¬ (x = y) → ev_E G k b u tgt L st M Q) (kf : x = y → ev_E G k b u (pc + 3) L st M Q) : ev_E G k b u pc L (vi y :: vi x :: st) M Q := by
  intro p l e R s m args below meth c H locs ls Z F RT hH h1 h2 h3 hS hu hl
  exact lv_icmp_ne F.1 F.2.1 d ht (fun q => kt (q) p l e R s m args below meth c H locs ls Z F RT hH h1 h2.2.2 h3 hS hu hl) (fun q => kf (q) p l e R s m args below meth c H locs ls Z F RT hH h1 h2.2.2 h3 hS hu hl)
theorem ev_ifc_lt {x : Int32} {off : Int} {tgt : Nat} {M : ev_M} (d : decode k.1 pc = .ok (.ifCond .lt off, 3)) (ht : (pc : Int) + off = (tgt : Int)) (kt : x < 0 → ev_E G k b u tgt L st M Q) (kf : ¬ (x < 0) → ev_E G k b u (pc + 3) L st M Q) : ev_E G k b u pc L (vi x :: st) M Q := by
  intro p l e R s m args below meth c H locs ls Z F RT hH h1 h2 h3 hS hu hl
  exact lv_if_lt F.1 F.2.1 d ht (fun q => kt (q) p l e R s m args below meth c H locs ls Z F RT hH h1 h2.2 h3 hS hu hl) (fun q => kf (q) p l e R s m args below meth c H locs ls Z F RT hH h1 h2.2 h3 hS hu hl)
theorem ev_icc_lt {x y : Int32} {off : Int} {tgt : Nat} {M : ev_M} (d : decode k.1 pc = .ok (.if_icmp .lt off, 3)) (ht : (pc : Int) + off = (tgt : Int)) (kt : x < y → ev_E G k b u tgt L st M Q) (kf : ¬ (x < y) → ev_E G k b u (pc + 3) L st M Q) : ev_E G k b u pc L (vi y :: vi x :: st) M Q := by
  intro p l e R s m args below meth c H locs ls Z F RT hH h1 h2 h3 hS hu hl
  exact lv_icmp_lt F.1 F.2.1 d ht (fun q => kt (q) p l e R s m args below meth c H locs ls Z F RT hH h1 h2.2.2 h3 hS hu hl) (fun q => kf (q) p l e R s m args below meth c H locs ls Z F RT hH h1 h2.2.2 h3 hS hu hl)
theorem ev_ifc_ge {x : Int32} {off : Int} {tgt : Nat} {M : ev_M} (d : decode k.1 pc = .ok (.ifCond .ge off, 3)) (ht : (pc : Int) + off = (tgt : Int)) (kt : ¬ (x < 0) → ev_E G k b u tgt L st M Q) (kf : x < 0 → ev_E G k b u (pc + 3) L st M Q) : ev_E G k b u pc L (vi x :: st) M Q := by
  intro p l e R s m args below meth c H locs ls Z F RT hH h1 h2 h3 hS hu hl
  exact lv_if_ge F.1 F.2.1 d ht (fun q => kt (Int32.not_lt.mpr q) p l e R s m args below meth c H locs ls Z F RT hH h1 h2.2 h3 hS hu hl) (fun q => kf (Int32.not_le.mp q) p l e R s m args below meth c H locs ls Z F RT hH h1 h2.2 h3 hS hu hl)
theorem ev_icc_ge {x y : Int32} {off : Int} {tgt : Nat} {M : ev_M} (d : decode k.1 pc = .ok (.if_icmp .ge off, 3)) (ht : (pc : Int) + off = (tgt : Int)) (kt : ¬ (x < y) → ev_E G k b u tgt L st M Q) (kf : x < y → ev_E G k b u (pc + 3) L st M Q) : ev_E G k b u pc L (vi y :: vi x :: st) M Q := by
  intro p l e R s m args below meth c H locs ls Z F RT hH h1 h2 h3 hS hu hl
  exact lv_icmp_ge F.1 F.2.1 d ht (fun q => kt (Int32.not_lt.mpr q) p l e R s m args below meth c H locs ls Z F RT hH h1 h2.2.2 h3 hS hu hl) (fun q => kf (Int32.not_le.mp q) p l e R s m args below meth c H locs ls Z F RT hH h1 h2.2.2 h3 hS hu hl)
theorem ev_ifc_gt {x : Int32} {off : Int} {tgt : Nat} {M : ev_M} (d : decode k.1 pc = .ok (.ifCond .gt off, 3)) (ht : (pc : Int) + off = (tgt : Int)) (kt : 0 < x → ev_E G k b u tgt L st M Q) (kf : ¬ (0 < x) → ev_E G k b u (pc + 3) L st M Q) : ev_E G k b u pc L (vi x :: st) M Q := by
  intro p l e R s m args below meth c H locs ls Z F RT hH h1 h2 h3 hS hu hl
  exact lv_if_gt F.1 F.2.1 d ht (fun q => kt (q) p l e R s m args below meth c H locs ls Z F RT hH h1 h2.2 h3 hS hu hl) (fun q => kf (q) p l e R s m args below meth c H locs ls Z F RT hH h1 h2.2 h3 hS hu hl)
theorem ev_icc_gt {x y : Int32} {off : Int} {tgt : Nat} {M : ev_M} (d : decode k.1 pc = .ok (.if_icmp .gt off, 3)) (ht : (pc : Int) + off = (tgt : Int)) (kt : y < x → ev_E G k b u tgt L st M Q) (kf : ¬ (y < x) → ev_E G k b u (pc + 3) L st M Q) : ev_E G k b u pc L (vi y :: vi x :: st) M Q := by
  intro p l e R s m args below meth c H locs ls Z F RT hH h1 h2 h3 hS hu hl
  exact lv_icmp_gt F.1 F.2.1 d ht (fun q => kt (q) p l e R s m args below meth c H locs ls Z F RT hH h1 h2.2.2 h3 hS hu hl) (fun q => kf (q) p l e R s m args below meth c H locs ls Z F RT hH h1 h2.2.2 h3 hS hu hl)
theorem ev_ifc_le {x : Int32} {off : Int} {tgt : Nat} {M : ev_M} (d : decode k.1 pc = .ok (.ifCond .le off, 3)) (ht : (pc : Int) + off = (tgt : Int)) (kt : ¬ (0 < x) → ev_E G k b u tgt L st M Q) (kf : 0 < x → ev_E G k b u (pc + 3) L st M Q) : ev_E G k b u pc L (vi x :: st) M Q := by
  intro p l e R s m args below meth c H locs ls Z F RT hH h1 h2 h3 hS hu hl
  exact lv_if_le F.1 F.2.1 d ht (fun q => kt (Int32.not_lt.mpr q) p l e R s m args below meth c H locs ls Z F RT hH h1 h2.2 h3 hS hu hl) (fun q => kf (Int32.not_le.mp q) p l e R s m args below meth c H locs ls Z F RT hH h1 h2.2 h3 hS hu hl)
theorem ev_icc_le {x y : Int32} {off : Int} {tgt : Nat} {M : ev_M} (d : decode k.1 pc = .ok (.if_icmp .le off, 3)) (ht : (pc : Int) + off = (tgt : Int)) (kt : ¬ (y < x) → ev_E G k b u tgt L st M Q) (kf : y < x → ev_E G k b u (pc + 3) L st M Q) : ev_E G k b u pc L (vi y :: vi x :: st) M Q := by
  intro p l e R s m args below meth c H locs ls Z F RT hH h1 h2 h3 hS hu hl
  exact lv_icmp_le F.1 F.2.1 d ht (fun q => kt (Int32.not_lt.mpr q) p l e R s m args below meth c H locs ls Z F RT hH h1 h2.2.2 h3 hS hu hl) (fun q => kf (Int32.not_le.mp q) p l e R s m args below meth c H locs ls Z F RT hH h1 h2.2.2 h3 hS hu hl)
theorem ev_lcc_eq {x y : Int64} {off : Int} {tgt : Nat} {M : ev_M} (d : decode k.1 pc = .ok (.lcmp, 1)) (d2 : decode k.1 (pc + 1) = .ok (.ifCond .eq off, 3)) (ht : ((pc + 1 : Nat) : Int) + off = (tgt : Int)) (kt : x = y → ev_E G k b u tgt L st M Q) (kf : ¬ (x = y) → ev_E G k b u (pc + 4) L st M Q) : ev_E G k b u pc L (vl y :: vl x :: st) M Q :=
  ev_lc_eq d d2 ht (fun q => kt (q)) (fun q => kf (q))
theorem ev_lcc_ne {x y : Int64} {off : Int} {tgt : Nat} {M : ev_M} (d : decode k.1 pc = .ok (.lcmp, 1)) (d2 : decode k.1 (pc + 1) = .ok (.ifCond .ne off, 3)) (ht : ((pc + 1 : Nat) : Int) + off = (tgt : Int)) (kt : ¬ (x = y) → ev_E G k b u tgt L st M Q) (kf : x = y → ev_E G k b u (pc + 4) L st M Q) : ev_E G k b u pc L (vl y :: vl x :: st) M Q :=
  ev_lc_ne d d2 ht (fun q => kt (q)) (fun q => kf (q))
theorem ev_lcc_lt {x y : Int64} {off : Int} {tgt : Nat} {M : ev_M} (d : decode k.1 pc = .ok (.lcmp, 1)) (d2 : decode k.1 (pc + 1) = .ok (.ifCond .lt off, 3)) (ht : ((pc + 1 : Nat) : Int) + off = (tgt : Int)) (kt : x < y → ev_E G k b u tgt L st M Q) (kf : ¬ (x < y) → ev_E G k b u (pc + 4) L st M Q) : ev_E G k b u pc L (vl y :: vl x :: st) M Q :=
  ev_lc_lt d d2 ht (fun q => kt (q)) (fun q => kf (Int64.not_lt.mpr q))
theorem ev_lcc_ge {x y : Int64} {off : Int} {tgt : Nat} {M : ev_M} (d : decode k.1 pc = .ok (.lcmp, 1)) (d2 : decode k.1 (pc + 1) = .ok (.ifCond .ge off, 3)) (ht : ((pc + 1 : Nat) : Int) + off = (tgt : Int)) (kt : ¬ (x < y) → ev_E G k b u tgt L st M Q) (kf : x < y → ev_E G k b u (pc + 4) L st M Q) : ev_E G k b u pc L (vl y :: vl x :: st) M Q :=
  ev_lc_ge d d2 ht (fun q => kt (Int64.not_lt.mpr q)) (fun q => kf (q))
theorem ev_lcc_gt {x y : Int64} {off : Int} {tgt : Nat} {M : ev_M} (d : decode k.1 pc = .ok (.lcmp, 1)) (d2 : decode k.1 (pc + 1) = .ok (.ifCond .gt off, 3)) (ht : ((pc + 1 : Nat) : Int) + off = (tgt : Int)) (kt : y < x → ev_E G k b u tgt L st M Q) (kf : ¬ (y < x) → ev_E G k b u (pc + 4) L st M Q) : ev_E G k b u pc L (vl y :: vl x :: st) M Q :=
  ev_lc_gt d d2 ht (fun q => kt (q)) (fun q => kf (Int64.not_lt.mpr q))
theorem ev_lcc_le {x y : Int64} {off : Int} {tgt : Nat} {M : ev_M} (d : decode k.1 pc = .ok (.lcmp, 1)) (d2 : decode k.1 (pc + 1) = .ok (.ifCond .le off, 3)) (ht : ((pc + 1 : Nat) : Int) + off = (tgt : Int)) (kt : ¬ (y < x) → ev_E G k b u tgt L st M Q) (kf : y < x → ev_E G k b u (pc + 4) L st M Q) : ev_E G k b u pc L (vl y :: vl x :: st) M Q :=
  ev_lc_le d d2 ht (fun q => kt (Int64.not_lt.mpr q)) (fun q => kf (q))
/-- a switch's case; none of the cases -/
theorem ev_tin {dflt lo hi off : Int} {offs : Array Int} {len : Nat} {x cv : Int32} {M : ev_M} (j : Nat) {tgt : Nat} (hx : x = cv) (hcv : cv.toInt = lo + j ∧ lo + j ≤ hi) (d : decode k.1 pc = .ok (.tableswitch dflt lo hi offs, len)) (ho : offs[j]? = some off) (ht : (pc : Int) + off = (tgt : Int)) (kk : ev_E G k b u tgt L st M Q) : ev_E G k b u pc L (vi x :: st) M Q := by
  subst hx
  intro p l e R s m args below meth c H locs ls Z F RT hH h1 h2 h3 hS hu hl
  refine lv_tableIn F.1 F.2.1 d (by omega) (by omega) (off := off) ?_ ht (kk p l e R s m args below meth c H locs ls Z F RT hH h1 h2.2 h3 hS hu hl)
  rw [show (x.toInt - lo).toNat = j by omega]
  exact ho
theorem ev_tout {dflt hi : Int} {offs : Array Int} {len : Nat} {x : Int32} {M : ev_M} (n : Nat) {tgt : Nat} (hn : hi + 1 = n) (hn2 : n < 2 ^ 31) (hall : ∀ j, j < n → ¬ x = nI j) (d : decode k.1 pc = .ok (.tableswitch dflt 0 hi offs, len)) (ht : (pc : Int) + dflt = (tgt : Int)) (kk : ev_E G k b u tgt L st M Q) : ev_E G k b u pc L (vi x :: st) M Q := by
  intro p l e R s m args below meth c H locs ls Z F RT hH h1 h2 h3 hS hu hl
  refine lv_tableOut F.1 F.2.1 d ?_ ht (kk p l e R s m args below meth c H locs ls Z F RT hH h1 h2.2 h3 hS hu hl)
  by_cases a : x.toInt < 0
  · exact Or.inl a
  · right
    refine Int.not_le.mp (fun q => ?_)
    refine hall x.toInt.toNat (by omega) (Int32.toInt_inj.mp ?_)
    rw [nI_toInt (by omega)]
    omega
end EV1
