/-! rows of the machine over the world: stack, locals, numbers, branches, answers -/
section EVR
variable {G : ev_G} {k : ev_K} {b : ev_B} {u : Nat × Nat} {pc : Nat} {L : List (Option ev_V)} {st : List ev_V} {M : ev_M} {Q : Option ev_V → ev_M → Prop}
theorem ev_has_at {ls : Array Slot} {n i : Nat} {v : ev_V} (hl : lv_has ls n (ev_al G 0 L)) (h : L[i]? = some (some v)) : ls[i]? = some (.val (ev_real G v)) := by
  have := hl.2.2 _ (ev_al_at (G := G) (i := 0) h)
  simpa using this
theorem ev_has_set {ls : Array Slot} {n i : Nat} {v : ev_V} {X : List (Nat × Value)} (hX : ∀ q ∈ (ev_al G 0 L).filter (fun q => !(q.1 == i) && !(q.1 + 1 == i && q.2.category == 2)), q ∈ X) (hc : ev_nl L i = true) (h : lv_has ls n ((i, ev_real G v) :: X)) : lv_has ls n (ev_al G 0 (L.set i (some v))) := by
  refine ⟨h.1, h.2.1, fun q hq => ?_⟩
  obtain ⟨j, w, rfl, hj⟩ := ev_al_of hq
  rw [Nat.zero_add]
  by_cases e : j = i
  · subst e
    rw [List.getElem?_set_self'] at hj
    cases hz : L[j]? with
    | none => rw [hz] at hj; cases hj
    | some z =>
      rw [hz] at hj
      simp at hj
      subst hj
      exact h.2.2 _ List.mem_cons_self
  · rw [List.getElem?_set_ne (fun q => e q.symm)] at hj
    have h1 := ev_al_at (G := G) (i := 0) hj
    rw [Nat.zero_add] at h1
    refine h.2.2 _ (List.mem_cons_of_mem _ (hX _ (List.mem_filter.mpr ⟨h1, ?_⟩)))
    simp only [Bool.and_eq_true, Bool.not_eq_true', beq_eq_false_iff_ne, ne_eq, Bool.and_eq_false_iff]
    refine ⟨e, ?_⟩
    by_cases e2 : j + 1 = i
    · right
      have := ev_nl_cat (G := G) hc hj e2
      simp [this]
    · left
      exact e2
theorem ev_has_set2 {ls : Array Slot} {n i : Nat} {v : ev_V} {X : List (Nat × Value)} (hX : ∀ q ∈ (ev_al G 0 L).filter (fun q => !(q.1 == i) && (!(q.1 == i + 1) && !(q.1 + 1 == i && q.2.category == 2))), q ∈ X) (hc : ev_nl L i = true) (h : lv_has ls n ((i, ev_real G v) :: X)) : lv_has ls n (ev_al G 0 ((L.set i (some v)).set (i + 1) none)) := by
  refine ⟨h.1, h.2.1, fun q hq => ?_⟩
  obtain ⟨j, w, rfl, hj⟩ := ev_al_of hq
  rw [Nat.zero_add]
  have n1 : j ≠ i + 1 := by
    intro e
    subst e
    rw [List.getElem?_set_self'] at hj
    cases hz : (L.set i (some v))[i + 1]? with
    | none => rw [hz] at hj; cases hj
    | some z => rw [hz] at hj; simp at hj
  rw [List.getElem?_set_ne (fun q => n1 q.symm)] at hj
  by_cases e : j = i
  · subst e
    rw [List.getElem?_set_self'] at hj
    cases hz : L[j]? with
    | none => rw [hz] at hj; cases hj
    | some z =>
      rw [hz] at hj
      simp at hj
      subst hj
      exact h.2.2 _ List.mem_cons_self
  · rw [List.getElem?_set_ne (fun q => e q.symm)] at hj
    have h1 := ev_al_at (G := G) (i := 0) hj
    rw [Nat.zero_add] at h1
    refine h.2.2 _ (List.mem_cons_of_mem _ (hX _ (List.mem_filter.mpr ⟨h1, ?_⟩)))
    simp only [Bool.and_eq_true, Bool.not_eq_true', beq_eq_false_iff_ne, ne_eq, Bool.and_eq_false_iff]
    refine ⟨e, n1, ?_⟩
    by_cases e2 : j + 1 = i
    · right
      have := ev_nl_cat (G := G) hc hj e2
      simp [this]
    · left
      exact e2
theorem ev_iconst {n : Int} {v : Int32} (d : decode k.1 pc = .ok (.iconst n, 1)) (hv : Int32.ofInt n = v) (kk : ev_E G k b u (pc + 1) L (vi v :: st) M Q) : ev_E G k b u pc L st M Q := by
  intro p l e R s m args below meth c H locs ls Z F RT hH h1 h2 h3 hS hu hl
  exact lv_iconst F.1 F.2.1 d hv (kk p l e R s m args below meth c H locs ls Z F RT hH h1 ⟨trivial, h2⟩ h3 hS hu hl)
theorem ev_bipush {n : Int} {v : Int32} (d : decode k.1 pc = .ok (.bipush n, 2)) (hv : (Int8.ofInt n).toInt32 = v) (kk : ev_E G k b u (pc + 2) L (vi v :: st) M Q) : ev_E G k b u pc L st M Q := by
  intro p l e R s m args below meth c H locs ls Z F RT hH h1 h2 h3 hS hu hl
  exact lv_bipush F.1 F.2.1 d hv (kk p l e R s m args below meth c H locs ls Z F RT hH h1 ⟨trivial, h2⟩ h3 hS hu hl)
theorem ev_sipush {n : Int} {v : Int32} (d : decode k.1 pc = .ok (.sipush n, 3)) (hv : (Int16.ofInt n).toInt32 = v) (kk : ev_E G k b u (pc + 3) L (vi v :: st) M Q) : ev_E G k b u pc L st M Q := by
  intro p l e R s m args below meth c H locs ls Z F RT hH h1 h2 h3 hS hu hl
  exact lv_sipush F.1 F.2.1 d hv (kk p l e R s m args below meth c H locs ls Z F RT hH h1 ⟨trivial, h2⟩ h3 hS hu hl)
theorem ev_lconst {n : Fin 2} {v : Int64} (d : decode k.1 pc = .ok (.lconst n, 1)) (hv : Int64.ofNat (n : Nat) = v) (kk : ev_E G k b u (pc + 1) L (vl v :: st) M Q) : ev_E G k b u pc L st M Q := by
  intro p l e R s m args below meth c H locs ls Z F RT hH h1 h2 h3 hS hu hl
  exact lv_lconst F.1 F.2.1 d hv (kk p l e R s m args below meth c H locs ls Z F RT hH h1 ⟨trivial, h2⟩ h3 hS hu hl)
theorem ev_null (d : decode k.1 pc = .ok (.aconst_null, 1)) (kk : ev_E G k b u (pc + 1) L (vn :: st) M Q) : ev_E G k b u pc L st M Q := by
  intro p l e R s m args below meth c H locs ls Z F RT hH h1 h2 h3 hS hu hl
  exact lv_null F.1 F.2.1 d (kk p l e R s m args below meth c H locs ls Z F RT hH h1 ⟨trivial, h2⟩ h3 hS hu hl)
theorem ev_ldc {i : Nat} {v : Int32} (hc : Jvm.Cond.constant k.2.1.cls i v ∈ ev_GW) (d : decode k.1 pc = .ok (.ldc i, 2)) (kk : ev_E G k b u (pc + 2) L (vi v :: st) M Q) : ev_E G k b u pc L st M Q := by
  intro p l e R s m args below meth c H locs ls Z F RT hH h1 h2 h3 hS hu hl
  exact lv_ldc F.1 F.2.1 F.2.2.2.2.1 (F.2.2.2.2.2.1 _ hc) d (kk p l e R s m args below meth c H locs ls Z F RT hH h1 ⟨trivial, h2⟩ h3 hS hu hl)
theorem ev_ldcw {i : Nat} {v : Int32} (hc : Jvm.Cond.constant k.2.1.cls i v ∈ ev_GW) (d : decode k.1 pc = .ok (.ldc_w i, 3)) (kk : ev_E G k b u (pc + 3) L (vi v :: st) M Q) : ev_E G k b u pc L st M Q := by
  intro p l e R s m args below meth c H locs ls Z F RT hH h1 h2 h3 hS hu hl
  exact lv_ldcw F.1 F.2.1 F.2.2.2.2.1 (F.2.2.2.2.2.1 _ hc) d (kk p l e R s m args below meth c H locs ls Z F RT hH h1 ⟨trivial, h2⟩ h3 hS hu hl)
theorem ev_ldc2 {i : Nat} {v : Int64} (hc : Jvm.Cond.constantLong k.2.1.cls i v ∈ ev_GW) (d : decode k.1 pc = .ok (.ldc2_w i, 3)) (kk : ev_E G k b u (pc + 3) L (vl v :: st) M Q) : ev_E G k b u pc L st M Q := by
  intro p l e R s m args below meth c H locs ls Z F RT hH h1 h2 h3 hS hu hl
  exact lv_ldc2 F.1 F.2.1 F.2.2.2.2.1 (F.2.2.2.2.2.1 _ hc) d (kk p l e R s m args below meth c H locs ls Z F RT hH h1 ⟨trivial, h2⟩ h3 hS hu hl)
theorem ev_iadd {x y : Int32} (d : decode k.1 pc = .ok (.iadd, 1)) (kk : ev_E G k b u (pc + 1) L (vi (x + y) :: st) M Q) : ev_E G k b u pc L (vi y :: vi x :: st) M Q := by
  intro p l e R s m args below meth c H locs ls Z F RT hH h1 h2 h3 hS hu hl
  exact lv_iadd F.1 F.2.1 d (kk p l e R s m args below meth c H locs ls Z F RT hH h1 ⟨trivial, h2.2.2⟩ h3 hS hu hl)
theorem ev_isub {x y : Int32} (d : decode k.1 pc = .ok (.isub, 1)) (kk : ev_E G k b u (pc + 1) L (vi (x - y) :: st) M Q) : ev_E G k b u pc L (vi y :: vi x :: st) M Q := by
  intro p l e R s m args below meth c H locs ls Z F RT hH h1 h2 h3 hS hu hl
  exact lv_isub F.1 F.2.1 d (kk p l e R s m args below meth c H locs ls Z F RT hH h1 ⟨trivial, h2.2.2⟩ h3 hS hu hl)
theorem ev_imul {x y : Int32} (d : decode k.1 pc = .ok (.imul, 1)) (kk : ev_E G k b u (pc + 1) L (vi (x * y) :: st) M Q) : ev_E G k b u pc L (vi y :: vi x :: st) M Q := by
  intro p l e R s m args below meth c H locs ls Z F RT hH h1 h2 h3 hS hu hl
  exact lv_imul F.1 F.2.1 d (kk p l e R s m args below meth c H locs ls Z F RT hH h1 ⟨trivial, h2.2.2⟩ h3 hS hu hl)
theorem ev_iand {x y : Int32} (d : decode k.1 pc = .ok (.iand, 1)) (kk : ev_E G k b u (pc + 1) L (vi (x &&& y) :: st) M Q) : ev_E G k b u pc L (vi y :: vi x :: st) M Q := by
  intro p l e R s m args below meth c H locs ls Z F RT hH h1 h2 h3 hS hu hl
  exact lv_iand F.1 F.2.1 d (kk p l e R s m args below meth c H locs ls Z F RT hH h1 ⟨trivial, h2.2.2⟩ h3 hS hu hl)
theorem ev_ior {x y : Int32} (d : decode k.1 pc = .ok (.ior, 1)) (kk : ev_E G k b u (pc + 1) L (vi (x ||| y) :: st) M Q) : ev_E G k b u pc L (vi y :: vi x :: st) M Q := by
  intro p l e R s m args below meth c H locs ls Z F RT hH h1 h2 h3 hS hu hl
  exact lv_ior F.1 F.2.1 d (kk p l e R s m args below meth c H locs ls Z F RT hH h1 ⟨trivial, h2.2.2⟩ h3 hS hu hl)
theorem ev_ishl {x y : Int32} (d : decode k.1 pc = .ok (.ishl, 1)) (kk : ev_E G k b u (pc + 1) L (vi (x <<< (y &&& 31)) :: st) M Q) : ev_E G k b u pc L (vi y :: vi x :: st) M Q := by
  intro p l e R s m args below meth c H locs ls Z F RT hH h1 h2 h3 hS hu hl
  exact lv_ishl F.1 F.2.1 d (kk p l e R s m args below meth c H locs ls Z F RT hH h1 ⟨trivial, h2.2.2⟩ h3 hS hu hl)
theorem ev_ishr {x y : Int32} (d : decode k.1 pc = .ok (.ishr, 1)) (kk : ev_E G k b u (pc + 1) L (vi (x >>> (y &&& 31)) :: st) M Q) : ev_E G k b u pc L (vi y :: vi x :: st) M Q := by
  intro p l e R s m args below meth c H locs ls Z F RT hH h1 h2 h3 hS hu hl
  exact lv_ishr F.1 F.2.1 d (kk p l e R s m args below meth c H locs ls Z F RT hH h1 ⟨trivial, h2.2.2⟩ h3 hS hu hl)
theorem ev_idiv {x y : Int32} (d : decode k.1 pc = .ok (.idiv, 1)) (hne : ¬ y = 0) (kk : ev_E G k b u (pc + 1) L (vi (x / y) :: st) M Q) : ev_E G k b u pc L (vi y :: vi x :: st) M Q := by
  intro p l e R s m args below meth c H locs ls Z F RT hH h1 h2 h3 hS hu hl
  exact lv_idiv F.1 F.2.1 d hne (kk p l e R s m args below meth c H locs ls Z F RT hH h1 ⟨trivial, h2.2.2⟩ h3 hS hu hl)
theorem ev_irem {x y : Int32} (d : decode k.1 pc = .ok (.irem, 1)) (hne : ¬ y = 0) (kk : ev_E G k b u (pc + 1) L (vi (x - x / y * y) :: st) M Q) : ev_E G k b u pc L (vi y :: vi x :: st) M Q := by
  intro p l e R s m args below meth c H locs ls Z F RT hH h1 h2 h3 hS hu hl
  exact lv_irem F.1 F.2.1 d hne (kk p l e R s m args below meth c H locs ls Z F RT hH h1 ⟨trivial, h2.2.2⟩ h3 hS hu hl)
theorem ev_ineg {x : Int32} (d : decode k.1 pc = .ok (.ineg, 1)) (kk : ev_E G k b u (pc + 1) L (vi (-x) :: st) M Q) : ev_E G k b u pc L (vi x :: st) M Q := by
  intro p l e R s m args below meth c H locs ls Z F RT hH h1 h2 h3 hS hu hl
  exact lv_ineg F.1 F.2.1 d (kk p l e R s m args below meth c H locs ls Z F RT hH h1 ⟨trivial, h2.2⟩ h3 hS hu hl)
theorem ev_iushr {x y : Int32} (d : decode k.1 pc = .ok (.iushr, 1)) (kk : ev_E G k b u (pc + 1) L (vi (x.toUInt32 >>> (y.toUInt32 &&& Int32.toUInt32 31)).toInt32 :: st) M Q) : ev_E G k b u pc L (vi y :: vi x :: st) M Q := by
  intro p l e R s m args below meth c H locs ls Z F RT hH h1 h2 h3 hS hu hl
  exact lv_iushr F.1 F.2.1 d rfl (kk p l e R s m args below meth c H locs ls Z F RT hH h1 ⟨trivial, h2.2.2⟩ h3 hS hu hl)
theorem ev_ladd {x y : Int64} (d : decode k.1 pc = .ok (.ladd, 1)) (kk : ev_E G k b u (pc + 1) L (vl (x + y) :: st) M Q) : ev_E G k b u pc L (vl y :: vl x :: st) M Q := by
  intro p l e R s m args below meth c H locs ls Z F RT hH h1 h2 h3 hS hu hl
  exact lv_ladd F.1 F.2.1 d (kk p l e R s m args below meth c H locs ls Z F RT hH h1 ⟨trivial, h2.2.2⟩ h3 hS hu hl)
theorem ev_lsub {x y : Int64} (d : decode k.1 pc = .ok (.lsub, 1)) (kk : ev_E G k b u (pc + 1) L (vl (x - y) :: st) M Q) : ev_E G k b u pc L (vl y :: vl x :: st) M Q := by
  intro p l e R s m args below meth c H locs ls Z F RT hH h1 h2 h3 hS hu hl
  exact lv_lsub F.1 F.2.1 d (kk p l e R s m args below meth c H locs ls Z F RT hH h1 ⟨trivial, h2.2.2⟩ h3 hS hu hl)
theorem ev_lmul {x y : Int64} (d : decode k.1 pc = .ok (.lmul, 1)) (kk : ev_E G k b u (pc + 1) L (vl (x * y) :: st) M Q) : ev_E G k b u pc L (vl y :: vl x :: st) M Q := by
  intro p l e R s m args below meth c H locs ls Z F RT hH h1 h2 h3 hS hu hl
  exact lv_lmul F.1 F.2.1 d (kk p l e R s m args below meth c H locs ls Z F RT hH h1 ⟨trivial, h2.2.2⟩ h3 hS hu hl)
theorem ev_lor {x y : Int64} (d : decode k.1 pc = .ok (.lor, 1)) (kk : ev_E G k b u (pc + 1) L (vl (x ||| y) :: st) M Q) : ev_E G k b u pc L (vl y :: vl x :: st) M Q := by
  intro p l e R s m args below meth c H locs ls Z F RT hH h1 h2 h3 hS hu hl
  exact lv_lor F.1 F.2.1 d (kk p l e R s m args below meth c H locs ls Z F RT hH h1 ⟨trivial, h2.2.2⟩ h3 hS hu hl)
theorem ev_ldiv {x y : Int64} (d : decode k.1 pc = .ok (.ldiv, 1)) (hne : ¬ y = 0) (kk : ev_E G k b u (pc + 1) L (vl (x / y) :: st) M Q) : ev_E G k b u pc L (vl y :: vl x :: st) M Q := by
  intro p l e R s m args below meth c H locs ls Z F RT hH h1 h2 h3 hS hu hl
  exact lv_ldiv F.1 F.2.1 d hne (kk p l e R s m args below meth c H locs ls Z F RT hH h1 ⟨trivial, h2.2.2⟩ h3 hS hu hl)
theorem ev_lneg {x : Int64} (d : decode k.1 pc = .ok (.lneg, 1)) (kk : ev_E G k b u (pc + 1) L (vl (-x) :: st) M Q) : ev_E G k b u pc L (vl x :: st) M Q := by
  intro p l e R s m args below meth c H locs ls Z F RT hH h1 h2 h3 hS hu hl
  exact lv_lneg F.1 F.2.1 d (kk p l e R s m args below meth c H locs ls Z F RT hH h1 ⟨trivial, h2.2⟩ h3 hS hu hl)
theorem ev_lshl {x : Int64} {y : Int32} (d : decode k.1 pc = .ok (.lshl, 1)) (kk : ev_E G k b u (pc + 1) L (vl (x <<< (y.toInt64 &&& 63)) :: st) M Q) : ev_E G k b u pc L (vi y :: vl x :: st) M Q := by
  intro p l e R s m args below meth c H locs ls Z F RT hH h1 h2 h3 hS hu hl
  exact lv_lshl F.1 F.2.1 d rfl (kk p l e R s m args below meth c H locs ls Z F RT hH h1 ⟨trivial, h2.2.2⟩ h3 hS hu hl)
theorem ev_i2l {x : Int32} (d : decode k.1 pc = .ok (.i2l, 1)) (kk : ev_E G k b u (pc + 1) L (vl x.toInt64 :: st) M Q) : ev_E G k b u pc L (vi x :: st) M Q := by
  intro p l e R s m args below meth c H locs ls Z F RT hH h1 h2 h3 hS hu hl
  exact lv_i2l F.1 F.2.1 d rfl (kk p l e R s m args below meth c H locs ls Z F RT hH h1 ⟨trivial, h2.2⟩ h3 hS hu hl)
theorem ev_l2i {x : Int64} (d : decode k.1 pc = .ok (.l2i, 1)) (kk : ev_E G k b u (pc + 1) L (vi x.toInt32 :: st) M Q) : ev_E G k b u pc L (vl x :: st) M Q := by
  intro p l e R s m args below meth c H locs ls Z F RT hH h1 h2 h3 hS hu hl
  exact lv_l2i F.1 F.2.1 d rfl (kk p l e R s m args below meth c H locs ls Z F RT hH h1 ⟨trivial, h2.2⟩ h3 hS hu hl)
theorem ev_i2b {x : Int32} (d : decode k.1 pc = .ok (.i2b, 1)) (kk : ev_E G k b u (pc + 1) L (vi x.toInt8.toInt32 :: st) M Q) : ev_E G k b u pc L (vi x :: st) M Q := by
  intro p l e R s m args below meth c H locs ls Z F RT hH h1 h2 h3 hS hu hl
  exact lv_i2b F.1 F.2.1 d rfl (kk p l e R s m args below meth c H locs ls Z F RT hH h1 ⟨trivial, h2.2⟩ h3 hS hu hl)
theorem ev_dup_i {x : Int32} (d : decode k.1 pc = .ok (.dup, 1)) (kk : ev_E G k b u (pc + 1) L (vi x :: vi x :: st) M Q) : ev_E G k b u pc L (vi x :: st) M Q := by
  intro p l e R s m args below meth c H locs ls Z F RT hH h1 h2 h3 hS hu hl
  exact lv_dup F.1 F.2.1 d rfl (kk p l e R s m args below meth c H locs ls Z F RT hH h1 ⟨trivial, h2⟩ h3 hS hu hl)
theorem ev_dup_r {r i : Nat} (d : decode k.1 pc = .ok (.dup, 1)) (kk : ev_E G k b u (pc + 1) L (vr r i :: vr r i :: st) M Q) : ev_E G k b u pc L (vr r i :: st) M Q := by
  intro p l e R s m args below meth c H locs ls Z F RT hH h1 h2 h3 hS hu hl
  exact lv_dup F.1 F.2.1 d rfl (kk p l e R s m args below meth c H locs ls Z F RT hH h1 ⟨h2.1, h2⟩ h3 hS hu hl)
theorem ev_dup2_ri {r i : Nat} {x : Int32} (d : decode k.1 pc = .ok (.dup2, 1)) (kk : ev_E G k b u (pc + 1) L (vi x :: vr r i :: vi x :: vr r i :: st) M Q) : ev_E G k b u pc L (vi x :: vr r i :: st) M Q := by
  intro p l e R s m args below meth c H locs ls Z F RT hH h1 h2 h3 hS hu hl
  exact lv_dup2_11 F.1 F.2.1 d rfl rfl (kk p l e R s m args below meth c H locs ls Z F RT hH h1 ⟨trivial, h2.2.1, h2⟩ h3 hS hu hl)
theorem ev_pop_i {x : Int32} (d : decode k.1 pc = .ok (.pop, 1)) (kk : ev_E G k b u (pc + 1) L (st) M Q) : ev_E G k b u pc L (vi x :: st) M Q := by
  intro p l e R s m args below meth c H locs ls Z F RT hH h1 h2 h3 hS hu hl
  exact lv_pop F.1 F.2.1 d rfl (kk p l e R s m args below meth c H locs ls Z F RT hH h1 h2.2 h3 hS hu hl)
theorem ev_if_eq {x : Int32} {off : Int} {tgt : Nat} (d : decode k.1 pc = .ok (.ifCond .eq off, 3)) (ht : (pc : Int) + off = (tgt : Int)) (kt : x = 0 → ev_E G k b u tgt L st M Q) (kf : ¬ x = 0 → ev_E G k b u (pc + 3) L st M Q) : ev_E G k b u pc L (vi x :: st) M Q := by
  intro p l e R s m args below meth c H locs ls Z F RT hH h1 h2 h3 hS hu hl
  exact lv_if_eq F.1 F.2.1 d ht (fun q => kt q p l e R s m args below meth c H locs ls Z F RT hH h1 h2.2 h3 hS hu hl) (fun q => kf ( q) p l e R s m args below meth c H locs ls Z F RT hH h1 h2.2 h3 hS hu hl)
theorem ev_ic_eq {x y : Int32} {off : Int} {tgt : Nat} (d : decode k.1 pc = .ok (.if_icmp .eq off, 3)) (ht : (pc : Int) + off = (tgt : Int)) (kt : x = y → ev_E G k b u tgt L st M Q) (kf : ¬ x = y → ev_E G k b u (pc + 3) L st M Q) : ev_E G k b u pc L (vi y :: vi x :: st) M Q := by
  intro p l e R s m args below meth c H locs ls Z F RT hH h1 h2 h3 hS hu hl
  exact lv_icmp_eq F.1 F.2.1 d ht (fun q => kt q p l e R s m args below meth c H locs ls Z F RT hH h1 h2.2.2 h3 hS hu hl) (fun q => kf ( q) p l e R s m args below meth c H locs ls Z F RT hH h1 h2.2.2 h3 hS hu hl)
theorem ev_if_ne {x : Int32} {off : Int} {tgt : Nat} (d : decode k.1 pc = .ok (.ifCond .ne off, 3)) (ht : (pc : Int) + off = (tgt : Int)) (kt : ¬ x = 0 → ev_E G k b u tgt L st M Q) (kf : x = 0 → ev_E G k b u (pc + 3) L st M Q) : ev_E G k b u pc L (vi x :: st) M Q := by
  intro p l e R s m args below meth c H locs ls Z F RT hH h1 h2 h3 hS hu hl
  exact lv_if_ne F.1 F.2.1 d ht (fun q => kt q p l e R s m args below meth c H locs ls Z F RT hH h1 h2.2 h3 hS hu hl) (fun q => kf ( q) p l e R s m args below meth c H locs ls Z F RT hH h1 h2.2 h3 hS hu hl)
theorem ev_ic_ne {x y : Int32} {off : Int} {tgt : Nat} (d : decode k.1 pc = .ok (.if_icmp .ne off, 3)) (ht : (pc : Int) + off = (tgt : Int)) (kt : ¬ x = y → ev_E G k b u tgt L st M Q) (kf : x = y → ev_E G k b u (pc + 3) L st M Q) : ev_E G k b u pc L (vi y :: vi x :: st) M Q := by
  intro p l e R s m args below meth c H locs ls Z F RT hH h1 h2 h3 hS hu hl
  exact lv_icmp_ne F.1 F.2.1 d ht (fun q => kt q p l e R s m args below meth c H locs ls Z F RT hH h1 h2.2.2 h3 hS hu hl) (fun q => kf ( q) p l e R s m args below meth c H locs ls Z F RT hH h1 h2.2.2 h3 hS hu hl)
theorem ev_if_lt {x : Int32} {off : Int} {tgt : Nat} (d : decode k.1 pc = .ok (.ifCond .lt off, 3)) (ht : (pc : Int) + off = (tgt : Int)) (kt : x < 0 → ev_E G k b u tgt L st M Q) (kf : 0 ≤ x → ev_E G k b u (pc + 3) L st M Q) : ev_E G k b u pc L (vi x :: st) M Q := by
  intro p l e R s m args below meth c H locs ls Z F RT hH h1 h2 h3 hS hu hl
  exact lv_if_lt F.1 F.2.1 d ht (fun q => kt q p l e R s m args below meth c H locs ls Z F RT hH h1 h2.2 h3 hS hu hl) (fun q => kf (Int32.not_lt.mp q) p l e R s m args below meth c H locs ls Z F RT hH h1 h2.2 h3 hS hu hl)
theorem ev_ic_lt {x y : Int32} {off : Int} {tgt : Nat} (d : decode k.1 pc = .ok (.if_icmp .lt off, 3)) (ht : (pc : Int) + off = (tgt : Int)) (kt : x < y → ev_E G k b u tgt L st M Q) (kf : y ≤ x → ev_E G k b u (pc + 3) L st M Q) : ev_E G k b u pc L (vi y :: vi x :: st) M Q := by
  intro p l e R s m args below meth c H locs ls Z F RT hH h1 h2 h3 hS hu hl
  exact lv_icmp_lt F.1 F.2.1 d ht (fun q => kt q p l e R s m args below meth c H locs ls Z F RT hH h1 h2.2.2 h3 hS hu hl) (fun q => kf (Int32.not_lt.mp q) p l e R s m args below meth c H locs ls Z F RT hH h1 h2.2.2 h3 hS hu hl)
theorem ev_if_ge {x : Int32} {off : Int} {tgt : Nat} (d : decode k.1 pc = .ok (.ifCond .ge off, 3)) (ht : (pc : Int) + off = (tgt : Int)) (kt : 0 ≤ x → ev_E G k b u tgt L st M Q) (kf : x < 0 → ev_E G k b u (pc + 3) L st M Q) : ev_E G k b u pc L (vi x :: st) M Q := by
  intro p l e R s m args below meth c H locs ls Z F RT hH h1 h2 h3 hS hu hl
  exact lv_if_ge F.1 F.2.1 d ht (fun q => kt q p l e R s m args below meth c H locs ls Z F RT hH h1 h2.2 h3 hS hu hl) (fun q => kf (Int32.not_le.mp q) p l e R s m args below meth c H locs ls Z F RT hH h1 h2.2 h3 hS hu hl)
theorem ev_ic_ge {x y : Int32} {off : Int} {tgt : Nat} (d : decode k.1 pc = .ok (.if_icmp .ge off, 3)) (ht : (pc : Int) + off = (tgt : Int)) (kt : y ≤ x → ev_E G k b u tgt L st M Q) (kf : x < y → ev_E G k b u (pc + 3) L st M Q) : ev_E G k b u pc L (vi y :: vi x :: st) M Q := by
  intro p l e R s m args below meth c H locs ls Z F RT hH h1 h2 h3 hS hu hl
  exact lv_icmp_ge F.1 F.2.1 d ht (fun q => kt q p l e R s m args below meth c H locs ls Z F RT hH h1 h2.2.2 h3 hS hu hl) (fun q => kf (Int32.not_le.mp q) p l e R s m args below meth c H locs ls Z F RT hH h1 h2.2.2 h3 hS hu hl)
theorem ev_if_gt {x : Int32} {off : Int} {tgt : Nat} (d : decode k.1 pc = .ok (.ifCond .gt off, 3)) (ht : (pc : Int) + off = (tgt : Int)) (kt : 0 < x → ev_E G k b u tgt L st M Q) (kf : x ≤ 0 → ev_E G k b u (pc + 3) L st M Q) : ev_E G k b u pc L (vi x :: st) M Q := by
  intro p l e R s m args below meth c H locs ls Z F RT hH h1 h2 h3 hS hu hl
  exact lv_if_gt F.1 F.2.1 d ht (fun q => kt q p l e R s m args below meth c H locs ls Z F RT hH h1 h2.2 h3 hS hu hl) (fun q => kf (Int32.not_lt.mp q) p l e R s m args below meth c H locs ls Z F RT hH h1 h2.2 h3 hS hu hl)
theorem ev_ic_gt {x y : Int32} {off : Int} {tgt : Nat} (d : decode k.1 pc = .ok (.if_icmp .gt off, 3)) (ht : (pc : Int) + off = (tgt : Int)) (kt : y < x → ev_E G k b u tgt L st M Q) (kf : x ≤ y → ev_E G k b u (pc + 3) L st M Q) : ev_E G k b u pc L (vi y :: vi x :: st) M Q := by
  intro p l e R s m args below meth c H locs ls Z F RT hH h1 h2 h3 hS hu hl
  exact lv_icmp_gt F.1 F.2.1 d ht (fun q => kt q p l e R s m args below meth c H locs ls Z F RT hH h1 h2.2.2 h3 hS hu hl) (fun q => kf (Int32.not_lt.mp q) p l e R s m args below meth c H locs ls Z F RT hH h1 h2.2.2 h3 hS hu hl)
theorem ev_if_le {x : Int32} {off : Int} {tgt : Nat} (d : decode k.1 pc = .ok (.ifCond .le off, 3)) (ht : (pc : Int) + off = (tgt : Int)) (kt : x ≤ 0 → ev_E G k b u tgt L st M Q) (kf : 0 < x → ev_E G k b u (pc + 3) L st M Q) : ev_E G k b u pc L (vi x :: st) M Q := by
  intro p l e R s m args below meth c H locs ls Z F RT hH h1 h2 h3 hS hu hl
  exact lv_if_le F.1 F.2.1 d ht (fun q => kt q p l e R s m args below meth c H locs ls Z F RT hH h1 h2.2 h3 hS hu hl) (fun q => kf (Int32.not_le.mp q) p l e R s m args below meth c H locs ls Z F RT hH h1 h2.2 h3 hS hu hl)
theorem ev_ic_le {x y : Int32} {off : Int} {tgt : Nat} (d : decode k.1 pc = .ok (.if_icmp .le off, 3)) (ht : (pc : Int) + off = (tgt : Int)) (kt : x ≤ y → ev_E G k b u tgt L st M Q) (kf : y < x → ev_E G k b u (pc + 3) L st M Q) : ev_E G k b u pc L (vi y :: vi x :: st) M Q := by
  intro p l e R s m args below meth c H locs ls Z F RT hH h1 h2 h3 hS hu hl
  exact lv_icmp_le F.1 F.2.1 d ht (fun q => kt q p l e R s m args below meth c H locs ls Z F RT hH h1 h2.2.2 h3 hS hu hl) (fun q => kf (Int32.not_le.mp q) p l e R s m args below meth c H locs ls Z F RT hH h1 h2.2.2 h3 hS hu hl)
theorem ev_goto {off : Int} {tgt : Nat} (d : decode k.1 pc = .ok (.goto off, 3)) (ht : (pc : Int) + off = (tgt : Int)) (kk : ev_E G k b u tgt L st M Q) : ev_E G k b u pc L st M Q := by
  intro p l e R s m args below meth c H locs ls Z F RT hH h1 h2 h3 hS hu hl
  exact lv_goto F.1 F.2.1 d ht (kk p l e R s m args below meth c H locs ls Z F RT hH h1 h2 h3 hS hu hl)
theorem ev_ifnull {o : ev_R} {off : Int} {tgt : Nat} (d : decode k.1 pc = .ok (.ifnull off, 3)) (ht : (pc : Int) + off = (tgt : Int)) (kt : o = none → ev_E G k b u tgt L st M Q) (kf : ∀ r i, o = some (r, i) → ev_E G k b u (pc + 3) L st M Q) : ev_E G k b u pc L (vq o :: st) M Q := by
  intro p l e R s m args below meth c H locs ls Z F RT hH h1 h2 h3 hS hu hl
  match o, kt, kf, h2 with
  | none, kt, _, h2 => exact lv_ifnullN F.1 F.2.1 d ht (kt rfl p l e R s m args below meth c H locs ls Z F RT hH h1 h2.2 h3 hS hu hl)
  | some (r, i), _, kf, h2 => exact lv_ifnull F.1 F.2.1 d (kf r i rfl p l e R s m args below meth c H locs ls Z F RT hH h1 h2.2 h3 hS hu hl)
theorem ev_ifnonnull {o : ev_R} {off : Int} {tgt : Nat} (d : decode k.1 pc = .ok (.ifnonnull off, 3)) (ht : (pc : Int) + off = (tgt : Int)) (kt : ∀ r i, o = some (r, i) → ev_E G k b u tgt L st M Q) (kf : o = none → ev_E G k b u (pc + 3) L st M Q) : ev_E G k b u pc L (vq o :: st) M Q := by
  intro p l e R s m args below meth c H locs ls Z F RT hH h1 h2 h3 hS hu hl
  match o, kt, kf, h2 with
  | none, _, kf, h2 => exact lv_ifnonnullN F.1 F.2.1 d (kf rfl p l e R s m args below meth c H locs ls Z F RT hH h1 h2.2 h3 hS hu hl)
  | some (r, i), kt, _, h2 => exact lv_ifnonnull F.1 F.2.1 d ht (kt r i rfl p l e R s m args below meth c H locs ls Z F RT hH h1 h2.2 h3 hS hu hl)
theorem ev_ifnull_r {r i : Nat} {off : Int} (d : decode k.1 pc = .ok (.ifnull off, 3)) (kk : ev_E G k b u (pc + 3) L st M Q) : ev_E G k b u pc L (vr r i :: st) M Q := by
  intro p l e R s m args below meth c H locs ls Z F RT hH h1 h2 h3 hS hu hl
  exact lv_ifnull F.1 F.2.1 d (kk p l e R s m args below meth c H locs ls Z F RT hH h1 h2.2 h3 hS hu hl)
theorem ev_ifnull_n {off : Int} {tgt : Nat} (d : decode k.1 pc = .ok (.ifnull off, 3)) (ht : (pc : Int) + off = (tgt : Int)) (kk : ev_E G k b u tgt L st M Q) : ev_E G k b u pc L (vn :: st) M Q := by
  intro p l e R s m args below meth c H locs ls Z F RT hH h1 h2 h3 hS hu hl
  exact lv_ifnullN F.1 F.2.1 d ht (kk p l e R s m args below meth c H locs ls Z F RT hH h1 h2.2 h3 hS hu hl)
theorem ev_ifnonnull_r {r i : Nat} {off : Int} {tgt : Nat} (d : decode k.1 pc = .ok (.ifnonnull off, 3)) (ht : (pc : Int) + off = (tgt : Int)) (kk : ev_E G k b u tgt L st M Q) : ev_E G k b u pc L (vr r i :: st) M Q := by
  intro p l e R s m args below meth c H locs ls Z F RT hH h1 h2 h3 hS hu hl
  exact lv_ifnonnull F.1 F.2.1 d ht (kk p l e R s m args below meth c H locs ls Z F RT hH h1 h2.2 h3 hS hu hl)
theorem ev_ifnonnull_n {off : Int} (d : decode k.1 pc = .ok (.ifnonnull off, 3)) (kk : ev_E G k b u (pc + 3) L st M Q) : ev_E G k b u pc L (vn :: st) M Q := by
  intro p l e R s m args below meth c H locs ls Z F RT hH h1 h2 h3 hS hu hl
  exact lv_ifnonnullN F.1 F.2.1 d (kk p l e R s m args below meth c H locs ls Z F RT hH h1 h2.2 h3 hS hu hl)
theorem ev_lgc (x y : Int64) : (lg_cmp x y = 0 ↔ x = y) ∧ (lg_cmp x y < 0 ↔ x < y) ∧ (0 < lg_cmp x y ↔ y < x) ∧ (lg_cmp x y ≤ 0 ↔ x ≤ y) ∧ (0 ≤ lg_cmp x y ↔ y ≤ x) := by
  simp only [Int64.lt_iff_toInt_lt, Int64.le_iff_toInt_le, ← Int64.toInt_inj]
  unfold lg_cmp
  simp only [Int64.lt_iff_toInt_lt, ← Int64.toInt_inj]
  by_cases h1 : y.toInt < x.toInt
  · rw [if_pos h1]
    refine ⟨⟨fun h => absurd h (by decide), fun h => by omega⟩, ⟨fun h => absurd h (by decide), fun h => by omega⟩, ⟨fun _ => h1, fun _ => by decide⟩, ⟨fun h => absurd h (by decide), fun h => by omega⟩, ⟨fun _ => by omega, fun _ => by decide⟩⟩
  · rw [if_neg h1]
    by_cases h2 : x.toInt = y.toInt
    · rw [if_pos h2]
      refine ⟨⟨fun _ => h2, fun _ => rfl⟩, ⟨fun h => absurd h (by decide), fun h => by omega⟩, ⟨fun h => absurd h (by decide), fun h => by omega⟩, ⟨fun _ => by omega, fun _ => by decide⟩, ⟨fun _ => by omega, fun _ => by decide⟩⟩
    · rw [if_neg h2]
      refine ⟨⟨fun h => absurd h (by decide), fun h => by omega⟩, ⟨fun _ => by omega, fun _ => by decide⟩, ⟨fun h => absurd h (by decide), fun h => by omega⟩, ⟨fun _ => by omega, fun _ => by decide⟩, ⟨fun h => absurd h (by decide), fun h => by omega⟩⟩
theorem ev_lcmp {x y : Int64} (d : decode k.1 pc = .ok (.lcmp, 1)) (kk : ev_E G k b u (pc + 1) L (vi (lg_cmp x y) :: st) M Q) : ev_E G k b u pc L (vl y :: vl x :: st) M Q := by
  intro p l e R s m args below meth c H locs ls Z F RT hH h1 h2 h3 hS hu hl
  exact W.lcmp F.1 F.2.1 d (kk p l e R s m args below meth c H locs ls Z F RT hH h1 ⟨trivial, h2.2.2⟩ h3 hS hu hl)
theorem ev_lc_eq {x y : Int64} {off : Int} {tgt : Nat} (d : decode k.1 pc = .ok (.lcmp, 1)) (d2 : decode k.1 (pc + 1) = .ok (.ifCond .eq off, 3)) (ht : ((pc + 1 : Nat) : Int) + off = (tgt : Int)) (kt : x = y → ev_E G k b u tgt L st M Q) (kf : ¬ x = y → ev_E G k b u (pc + 4) L st M Q) : ev_E G k b u pc L (vl y :: vl x :: st) M Q :=
  ev_lcmp d (ev_if_eq d2 ht (fun q => kt ((ev_lgc x y).1.mp q)) (fun q => kf (fun z => q ((ev_lgc x y).1.mpr z))))
theorem ev_lc_ne {x y : Int64} {off : Int} {tgt : Nat} (d : decode k.1 pc = .ok (.lcmp, 1)) (d2 : decode k.1 (pc + 1) = .ok (.ifCond .ne off, 3)) (ht : ((pc + 1 : Nat) : Int) + off = (tgt : Int)) (kt : ¬ x = y → ev_E G k b u tgt L st M Q) (kf : x = y → ev_E G k b u (pc + 4) L st M Q) : ev_E G k b u pc L (vl y :: vl x :: st) M Q :=
  ev_lcmp d (ev_if_ne d2 ht (fun q => kt (fun z => q ((ev_lgc x y).1.mpr z))) (fun q => kf ((ev_lgc x y).1.mp q)))
theorem ev_lc_lt {x y : Int64} {off : Int} {tgt : Nat} (d : decode k.1 pc = .ok (.lcmp, 1)) (d2 : decode k.1 (pc + 1) = .ok (.ifCond .lt off, 3)) (ht : ((pc + 1 : Nat) : Int) + off = (tgt : Int)) (kt : x < y → ev_E G k b u tgt L st M Q) (kf : y ≤ x → ev_E G k b u (pc + 4) L st M Q) : ev_E G k b u pc L (vl y :: vl x :: st) M Q :=
  ev_lcmp d (ev_if_lt d2 ht (fun q => kt ((ev_lgc x y).2.1.mp q)) (fun q => kf ((ev_lgc x y).2.2.2.2.mp q)))
theorem ev_lc_ge {x y : Int64} {off : Int} {tgt : Nat} (d : decode k.1 pc = .ok (.lcmp, 1)) (d2 : decode k.1 (pc + 1) = .ok (.ifCond .ge off, 3)) (ht : ((pc + 1 : Nat) : Int) + off = (tgt : Int)) (kt : y ≤ x → ev_E G k b u tgt L st M Q) (kf : x < y → ev_E G k b u (pc + 4) L st M Q) : ev_E G k b u pc L (vl y :: vl x :: st) M Q :=
  ev_lcmp d (ev_if_ge d2 ht (fun q => kt ((ev_lgc x y).2.2.2.2.mp q)) (fun q => kf ((ev_lgc x y).2.1.mp q)))
theorem ev_lc_gt {x y : Int64} {off : Int} {tgt : Nat} (d : decode k.1 pc = .ok (.lcmp, 1)) (d2 : decode k.1 (pc + 1) = .ok (.ifCond .gt off, 3)) (ht : ((pc + 1 : Nat) : Int) + off = (tgt : Int)) (kt : y < x → ev_E G k b u tgt L st M Q) (kf : x ≤ y → ev_E G k b u (pc + 4) L st M Q) : ev_E G k b u pc L (vl y :: vl x :: st) M Q :=
  ev_lcmp d (ev_if_gt d2 ht (fun q => kt ((ev_lgc x y).2.2.1.mp q)) (fun q => kf ((ev_lgc x y).2.2.2.1.mp q)))
theorem ev_lc_le {x y : Int64} {off : Int} {tgt : Nat} (d : decode k.1 pc = .ok (.lcmp, 1)) (d2 : decode k.1 (pc + 1) = .ok (.ifCond .le off, 3)) (ht : ((pc + 1 : Nat) : Int) + off = (tgt : Int)) (kt : x ≤ y → ev_E G k b u tgt L st M Q) (kf : y < x → ev_E G k b u (pc + 4) L st M Q) : ev_E G k b u pc L (vl y :: vl x :: st) M Q :=
  ev_lcmp d (ev_if_le d2 ht (fun q => kt ((ev_lgc x y).2.2.2.1.mp q)) (fun q => kf ((ev_lgc x y).2.2.1.mp q)))
theorem ev_iloadn {j : Fin 4} {x : Int32} (d : decode k.1 pc = .ok (.iload_n j, 1)) (hL : L[(j : Nat)]? = some (some (vi x))) (kk : ev_E G k b u (pc + 1) L (vi x :: st) M Q) : ev_E G k b u pc L st M Q := by
  intro p l e R s m args below meth c H locs ls Z F RT hH h1 h2 h3 hS hu hl
  exact lv_iload_n F.1 F.2.1 d rfl (ev_has_at hl hL) (kk p l e R s m args below meth c H locs ls Z F RT hH h1 ⟨trivial, h2⟩ h3 hS hu hl)
theorem ev_iloadw {j : Nat} {x : Int32} (d : decode k.1 pc = .ok (.iload j, 2)) (hL : L[j]? = some (some (vi x))) (kk : ev_E G k b u (pc + 2) L (vi x :: st) M Q) : ev_E G k b u pc L st M Q := by
  intro p l e R s m args below meth c H locs ls Z F RT hH h1 h2 h3 hS hu hl
  exact lv_iload F.1 F.2.1 d (ev_has_at hl hL) (kk p l e R s m args below meth c H locs ls Z F RT hH h1 ⟨trivial, h2⟩ h3 hS hu hl)
theorem ev_lloadn {j : Fin 4} {x : Int64} (d : decode k.1 pc = .ok (.lload_n j, 1)) (hL : L[(j : Nat)]? = some (some (vl x))) (kk : ev_E G k b u (pc + 1) L (vl x :: st) M Q) : ev_E G k b u pc L st M Q := by
  intro p l e R s m args below meth c H locs ls Z F RT hH h1 h2 h3 hS hu hl
  exact lv_lload_n F.1 F.2.1 d rfl (ev_has_at hl hL) (kk p l e R s m args below meth c H locs ls Z F RT hH h1 ⟨trivial, h2⟩ h3 hS hu hl)
theorem ev_lloadw {j : Nat} {x : Int64} (d : decode k.1 pc = .ok (.lload j, 2)) (hL : L[j]? = some (some (vl x))) (kk : ev_E G k b u (pc + 2) L (vl x :: st) M Q) : ev_E G k b u pc L st M Q := by
  intro p l e R s m args below meth c H locs ls Z F RT hH h1 h2 h3 hS hu hl
  exact lv_lload F.1 F.2.1 d (ev_has_at hl hL) (kk p l e R s m args below meth c H locs ls Z F RT hH h1 ⟨trivial, h2⟩ h3 hS hu hl)
theorem ev_aloadn {j : Fin 4} {o : ev_R} (d : decode k.1 pc = .ok (.aload_n j, 1)) (hL : L[(j : Nat)]? = some (some (vq o))) (kk : ev_E G k b u (pc + 1) L (vq o :: st) M Q) : ev_E G k b u pc L st M Q := by
  intro p l e R s m args below meth c H locs ls Z F RT hH h1 h2 h3 hS hu hl
  match o, hL, kk with
  | none, hL, kk => exact lv_aload_nN F.1 F.2.1 d rfl (ev_has_at hl hL) (kk p l e R s m args below meth c H locs ls Z F RT hH h1 ⟨trivial, h2⟩ h3 hS hu hl)
  | some q, hL, kk => exact lv_aload_n F.1 F.2.1 d rfl (ev_has_at hl hL) (kk p l e R s m args below meth c H locs ls Z F RT hH h1 ⟨ev_okl_at h1 hL, h2⟩ h3 hS hu hl)
theorem ev_aloadw {j : Nat} {o : ev_R} (d : decode k.1 pc = .ok (.aload j, 2)) (hL : L[j]? = some (some (vq o))) (kk : ev_E G k b u (pc + 2) L (vq o :: st) M Q) : ev_E G k b u pc L st M Q := by
  intro p l e R s m args below meth c H locs ls Z F RT hH h1 h2 h3 hS hu hl
  match o, hL, kk with
  | none, hL, kk => exact lv_aloadN F.1 F.2.1 d (ev_has_at hl hL) (kk p l e R s m args below meth c H locs ls Z F RT hH h1 ⟨trivial, h2⟩ h3 hS hu hl)
  | some q, hL, kk => exact lv_aload F.1 F.2.1 d (ev_has_at hl hL) (kk p l e R s m args below meth c H locs ls Z F RT hH h1 ⟨ev_okl_at h1 hL, h2⟩ h3 hS hu hl)
theorem ev_istoren {j : Fin 4} {x : Int32} (d : decode k.1 pc = .ok (.istore_n j, 1)) (hn : (j : Nat) < k.2.2.1) (hc : ev_nl L (j : Nat) = true) (kk : ev_E G k b u (pc + 1) (L.set (j : Nat) (some (vi x))) st M Q) : ev_E G k b u pc L (vi x :: st) M Q := by
  intro p l e R s m args below meth c H locs ls Z F RT hH h1 h2 h3 hS hu hl
  exact lv_istore_n F.1 F.2.1 d rfl hl hn rfl (fun ls2 hl2 => (kk p l e R s m args below meth c H locs ls2 Z F RT hH (ev_okl_set h1 (fun v q => by cases q; trivial)) h2.2 h3 hS hu (ev_has_set (fun _ z => z) hc hl2)))
theorem ev_istorew {j : Nat} {x : Int32} (d : decode k.1 pc = .ok (.istore j, 2)) (hn : j < k.2.2.1) (hc : ev_nl L j = true) (kk : ev_E G k b u (pc + 2) (L.set j (some (vi x))) st M Q) : ev_E G k b u pc L (vi x :: st) M Q := by
  intro p l e R s m args below meth c H locs ls Z F RT hH h1 h2 h3 hS hu hl
  exact lv_istore F.1 F.2.1 d hl hn rfl (fun ls2 hl2 => (kk p l e R s m args below meth c H locs ls2 Z F RT hH (ev_okl_set h1 (fun v q => by cases q; trivial)) h2.2 h3 hS hu (ev_has_set (fun _ z => z) hc hl2)))
theorem ev_astoren {j : Fin 4} {o : ev_R} (d : decode k.1 pc = .ok (.astore_n j, 1)) (hn : (j : Nat) < k.2.2.1) (hc : ev_nl L (j : Nat) = true) (kk : ev_E G k b u (pc + 1) (L.set (j : Nat) (some (vq o))) st M Q) : ev_E G k b u pc L (vq o :: st) M Q := by
  intro p l e R s m args below meth c H locs ls Z F RT hH h1 h2 h3 hS hu hl
  match o, h2, kk with
  | none, h2, kk => exact lv_astore_nN F.1 F.2.1 d rfl hl hn rfl (fun ls2 hl2 => (kk p l e R s m args below meth c H locs ls2 Z F RT hH (ev_okl_set h1 (fun v q => by cases q; exact h2.1)) h2.2 h3 hS hu (ev_has_set (fun _ z => z) hc hl2)))
  | some q, h2, kk => exact lv_astore_n F.1 F.2.1 d rfl hl hn rfl (fun ls2 hl2 => (kk p l e R s m args below meth c H locs ls2 Z F RT hH (ev_okl_set h1 (fun v q => by cases q; exact h2.1)) h2.2 h3 hS hu (ev_has_set (fun _ z => z) hc hl2)))
theorem ev_astorew {j : Nat} {o : ev_R} (d : decode k.1 pc = .ok (.astore j, 2)) (hn : j < k.2.2.1) (hc : ev_nl L j = true) (kk : ev_E G k b u (pc + 2) (L.set j (some (vq o))) st M Q) : ev_E G k b u pc L (vq o :: st) M Q := by
  intro p l e R s m args below meth c H locs ls Z F RT hH h1 h2 h3 hS hu hl
  match o, h2, kk with
  | none, h2, kk => exact lv_astoreN F.1 F.2.1 d hl hn rfl (fun ls2 hl2 => (kk p l e R s m args below meth c H locs ls2 Z F RT hH (ev_okl_set h1 (fun v q => by cases q; exact h2.1)) h2.2 h3 hS hu (ev_has_set (fun _ z => z) hc hl2)))
  | some q, h2, kk => exact lv_astore F.1 F.2.1 d hl hn rfl (fun ls2 hl2 => (kk p l e R s m args below meth c H locs ls2 Z F RT hH (ev_okl_set h1 (fun v q => by cases q; exact h2.1)) h2.2 h3 hS hu (ev_has_set (fun _ z => z) hc hl2)))
theorem ev_lstoren {j : Fin 4} {x : Int64} (d : decode k.1 pc = .ok (.lstore_n j, 1)) (hn : (j : Nat) + 1 < k.2.2.1) (hc : ev_nl L (j : Nat) = true) (kk : ev_E G k b u (pc + 1) ((L.set (j : Nat) (some (vl x))).set ((j : Nat) + 1) none) st M Q) : ev_E G k b u pc L (vl x :: st) M Q := by
  intro p l e R s m args below meth c H locs ls Z F RT hH h1 h2 h3 hS hu hl
  exact lv_lstore_n F.1 F.2.1 d rfl hl hn rfl (fun ls2 hl2 => (kk p l e R s m args below meth c H locs ls2 Z F RT hH (ev_okl_set (ev_okl_set h1 (fun v q => by cases q; trivial)) (fun v q => by cases q)) h2.2 h3 hS hu (ev_has_set2 (fun _ z => z) hc hl2)))
theorem ev_lstorew {j : Nat} {x : Int64} (d : decode k.1 pc = .ok (.lstore j, 2)) (hn : j + 1 < k.2.2.1) (hc : ev_nl L j = true) (kk : ev_E G k b u (pc + 2) ((L.set j (some (vl x))).set (j + 1) none) st M Q) : ev_E G k b u pc L (vl x :: st) M Q := by
  intro p l e R s m args below meth c H locs ls Z F RT hH h1 h2 h3 hS hu hl
  exact lv_lstore F.1 F.2.1 d hl hn rfl (fun ls2 hl2 => (kk p l e R s m args below meth c H locs ls2 Z F RT hH (ev_okl_set (ev_okl_set h1 (fun v q => by cases q; trivial)) (fun v q => by cases q)) h2.2 h3 hS hu (ev_has_set2 (fun _ z => z) hc hl2)))
theorem ev_iincw {j : Nat} {n : Int} {x : Int32} (d : decode k.1 pc = .ok (.iinc j n, 3)) (hL : L[j]? = some (some (vi x))) (hn : j < k.2.2.1) (hc : ev_nl L j = true) (kk : ev_E G k b u (pc + 3) (L.set j (some (vi (x + Int32.ofInt n)))) st M Q) : ev_E G k b u pc L st M Q := by
  intro p l e R s m args below meth c H locs ls Z F RT hH h1 h2 h3 hS hu hl
  have hx : lv_has ls k.2.2.1 ((j, Value.int x) :: ev_al G 0 L) := ⟨hl.1, hl.2.1, fun q hq => by
    rcases List.mem_cons.mp hq with rfl | hq
    · exact ev_has_at hl hL
    · exact hl.2.2 q hq⟩
  exact lv_iinc (k := 0) F.1 F.2.1 d hx rfl rfl hn rfl (fun ls2 hl2 => (kk p l e R s m args below meth c H locs ls2 Z F RT hH (ev_okl_set h1 (fun v q => by cases q; trivial)) h2 h3 hS hu (ev_has_set (v := vi (x + Int32.ofInt n)) (fun q z => by
    obtain ⟨z1, z2⟩ := List.mem_filter.mp z
    exact List.mem_filter.mpr ⟨List.mem_cons_of_mem _ z1, z2⟩) hc hl2)))
theorem ev_iret {x : Int32} {ty : FieldType} (d : decode k.1 pc = .ok (.ireturn, 1)) (hr : k.2.2.2 = some ty) (hn : narrow ty (.int x) = .int x) (hq : Q (some (vi x)) M) : ev_E G k b u pc L [vi x] M Q := by
  intro p l e R s m args below meth c H locs ls Z F RT hH h1 h2 h3 hS hu hl
  exact RT (some (vi x)) M H locs u pc ls hq hH h3 (fun w q => by cases q; trivial) hS hu.1 hu.2 ⟨d, ty, hr, hn⟩
theorem ev_lret {x : Int64} (d : decode k.1 pc = .ok (.lreturn, 1)) (hr : k.2.2.2 = some .long) (hq : Q (some (vl x)) M) : ev_E G k b u pc L [vl x] M Q := by
  intro p l e R s m args below meth c H locs ls Z F RT hH h1 h2 h3 hS hu hl
  exact RT (some (vl x)) M H locs u pc ls hq hH h3 (fun w q => by cases q; trivial) hS hu.1 hu.2 ⟨d, hr⟩
theorem ev_aret {o : ev_R} {n : String} (d : decode k.1 pc = .ok (.areturn, 1)) (hr : k.2.2.2 = some (.object n)) (hq : Q (some (vq o)) M) : ev_E G k b u pc L [vq o] M Q := by
  intro p l e R s m args below meth c H locs ls Z F RT hH h1 h2 h3 hS hu hl
  exact RT (some (vq o)) M H locs u pc ls hq hH h3 (fun w q => by cases q; exact h2.1) hS hu.1 hu.2 ⟨d, n, hr⟩
theorem ev_vret (d : decode k.1 pc = .ok (.return_, 1)) (hr : k.2.2.2 = none) (hq : Q none M) : ev_E G k b u pc L [] M Q := by
  intro p l e R s m args below meth c H locs ls Z F RT hH h1 h2 h3 hS hu hl
  exact RT none M H locs u pc ls hq hH h3 (fun w q => by cases q) hS hu.1 hu.2 ⟨d, hr⟩
/-- more room is no harm; a weaker end -/
theorem ev_E.weaken {Q' : Option ev_V → ev_M → Prop} (h : ev_E G k b u pc L st M Q) (hq : ∀ v M, Q v M → Q' v M) : ev_E G k b u pc L st M Q' := by
  intro p l e R s m args below meth c H locs ls Z F RT hH h1 h2 h3 hS hu hl
  exact h p l e R s m args below meth c H locs ls Z F (fun v M H locs u pc ls q => RT v M H locs u pc ls (hq v M q)) hH h1 h2 h3 hS hu hl
/-- what is known of validity -/
theorem ev_E.known (h : ev_okl L → ev_oks st → ev_okM M → ev_E G k b u pc L st M Q) : ev_E G k b u pc L st M Q := by
  intro p l e R s m args below meth c H locs ls Z F RT hH h1 h2 h3 hS hu hl
  exact h h1 h2 h3 p l e R s m args below meth c H locs ls Z F RT hH h1 h2 h3 hS hu hl
theorem ev_iload_0 {t : List (Option ev_V)} {x : Int32} (d : decode k.1 pc = .ok (.iload_n 0, 1)) (kk : ev_E G k b u (pc + 1) (some (vi x) :: t) (vi x :: st) M Q) : ev_E G k b u pc (some (vi x) :: t) st M Q := ev_iloadn (j := 0) d rfl kk
theorem ev_lload_0 {t : List (Option ev_V)} {x : Int64} (d : decode k.1 pc = .ok (.lload_n 0, 1)) (kk : ev_E G k b u (pc + 1) (some (vl x) :: t) (vl x :: st) M Q) : ev_E G k b u pc (some (vl x) :: t) st M Q := ev_lloadn (j := 0) d rfl kk
theorem ev_aload_0 {t : List (Option ev_V)} {o : ev_R} (d : decode k.1 pc = .ok (.aload_n 0, 1)) (kk : ev_E G k b u (pc + 1) (some (vq o) :: t) (vq o :: st) M Q) : ev_E G k b u pc (some (vq o) :: t) st M Q := ev_aloadn (j := 0) d rfl kk
theorem ev_istore_0 {t : List (Option ev_V)} {z : Option ev_V} {x : Int32} (d : decode k.1 pc = .ok (.istore_n 0, 1)) (hn : 0 < k.2.2.1) (hc : ev_nl (z :: t) 0 = true) (kk : ev_E G k b u (pc + 1) (some (vi x) :: t) st M Q) : ev_E G k b u pc (z :: t) (vi x :: st) M Q := ev_istoren (j := 0) d hn hc kk
theorem ev_astore_0 {t : List (Option ev_V)} {z : Option ev_V} {o : ev_R} (d : decode k.1 pc = .ok (.astore_n 0, 1)) (hn : 0 < k.2.2.1) (hc : ev_nl (z :: t) 0 = true) (kk : ev_E G k b u (pc + 1) (some (vq o) :: t) st M Q) : ev_E G k b u pc (z :: t) (vq o :: st) M Q := ev_astoren (j := 0) d hn hc kk
theorem ev_lstore_0 {t : List (Option ev_V)} {z z2 : Option ev_V} {x : Int64} (d : decode k.1 pc = .ok (.lstore_n 0, 1)) (hn : 0 + 1 < k.2.2.1) (hc : ev_nl (z :: z2 :: t) 0 = true) (kk : ev_E G k b u (pc + 1) (some (vl x) :: none :: t) st M Q) : ev_E G k b u pc (z :: z2 :: t) (vl x :: st) M Q := ev_lstoren (j := 0) d hn hc kk
theorem ev_iinc_0 {t : List (Option ev_V)} {n : Int} {x y : Int32} (d : decode k.1 pc = .ok (.iinc 0 n, 3)) (hy : x + Int32.ofInt n = y) (hn : 0 < k.2.2.1) (hc : ev_nl (some (vi x) :: t) 0 = true) (kk : ev_E G k b u (pc + 3) (some (vi y) :: t) st M Q) : ev_E G k b u pc (some (vi x) :: t) st M Q := by
  subst hy
  exact ev_iincw (j := 0) d rfl hn hc kk
theorem ev_iload_1 {o0 : Option ev_V} {t : List (Option ev_V)} {x : Int32} (d : decode k.1 pc = .ok (.iload_n 1, 1)) (kk : ev_E G k b u (pc + 1) (o0 :: some (vi x) :: t) (vi x :: st) M Q) : ev_E G k b u pc (o0 :: some (vi x) :: t) st M Q := ev_iloadn (j := 1) d rfl kk
theorem ev_lload_1 {o0 : Option ev_V} {t : List (Option ev_V)} {x : Int64} (d : decode k.1 pc = .ok (.lload_n 1, 1)) (kk : ev_E G k b u (pc + 1) (o0 :: some (vl x) :: t) (vl x :: st) M Q) : ev_E G k b u pc (o0 :: some (vl x) :: t) st M Q := ev_lloadn (j := 1) d rfl kk
theorem ev_aload_1 {o0 : Option ev_V} {t : List (Option ev_V)} {o : ev_R} (d : decode k.1 pc = .ok (.aload_n 1, 1)) (kk : ev_E G k b u (pc + 1) (o0 :: some (vq o) :: t) (vq o :: st) M Q) : ev_E G k b u pc (o0 :: some (vq o) :: t) st M Q := ev_aloadn (j := 1) d rfl kk
theorem ev_istore_1 {o0 : Option ev_V} {t : List (Option ev_V)} {z : Option ev_V} {x : Int32} (d : decode k.1 pc = .ok (.istore_n 1, 1)) (hn : 1 < k.2.2.1) (hc : ev_nl (o0 :: z :: t) 1 = true) (kk : ev_E G k b u (pc + 1) (o0 :: some (vi x) :: t) st M Q) : ev_E G k b u pc (o0 :: z :: t) (vi x :: st) M Q := ev_istoren (j := 1) d hn hc kk
theorem ev_astore_1 {o0 : Option ev_V} {t : List (Option ev_V)} {z : Option ev_V} {o : ev_R} (d : decode k.1 pc = .ok (.astore_n 1, 1)) (hn : 1 < k.2.2.1) (hc : ev_nl (o0 :: z :: t) 1 = true) (kk : ev_E G k b u (pc + 1) (o0 :: some (vq o) :: t) st M Q) : ev_E G k b u pc (o0 :: z :: t) (vq o :: st) M Q := ev_astoren (j := 1) d hn hc kk
theorem ev_lstore_1 {o0 : Option ev_V} {t : List (Option ev_V)} {z z2 : Option ev_V} {x : Int64} (d : decode k.1 pc = .ok (.lstore_n 1, 1)) (hn : 1 + 1 < k.2.2.1) (hc : ev_nl (o0 :: z :: z2 :: t) 1 = true) (kk : ev_E G k b u (pc + 1) (o0 :: some (vl x) :: none :: t) st M Q) : ev_E G k b u pc (o0 :: z :: z2 :: t) (vl x :: st) M Q := ev_lstoren (j := 1) d hn hc kk
theorem ev_iinc_1 {o0 : Option ev_V} {t : List (Option ev_V)} {n : Int} {x y : Int32} (d : decode k.1 pc = .ok (.iinc 1 n, 3)) (hy : x + Int32.ofInt n = y) (hn : 1 < k.2.2.1) (hc : ev_nl (o0 :: some (vi x) :: t) 1 = true) (kk : ev_E G k b u (pc + 3) (o0 :: some (vi y) :: t) st M Q) : ev_E G k b u pc (o0 :: some (vi x) :: t) st M Q := by
  subst hy
  exact ev_iincw (j := 1) d rfl hn hc kk
theorem ev_iload_2 {o0 o1 : Option ev_V} {t : List (Option ev_V)} {x : Int32} (d : decode k.1 pc = .ok (.iload_n 2, 1)) (kk : ev_E G k b u (pc + 1) (o0 :: o1 :: some (vi x) :: t) (vi x :: st) M Q) : ev_E G k b u pc (o0 :: o1 :: some (vi x) :: t) st M Q := ev_iloadn (j := 2) d rfl kk
theorem ev_lload_2 {o0 o1 : Option ev_V} {t : List (Option ev_V)} {x : Int64} (d : decode k.1 pc = .ok (.lload_n 2, 1)) (kk : ev_E G k b u (pc + 1) (o0 :: o1 :: some (vl x) :: t) (vl x :: st) M Q) : ev_E G k b u pc (o0 :: o1 :: some (vl x) :: t) st M Q := ev_lloadn (j := 2) d rfl kk
theorem ev_aload_2 {o0 o1 : Option ev_V} {t : List (Option ev_V)} {o : ev_R} (d : decode k.1 pc = .ok (.aload_n 2, 1)) (kk : ev_E G k b u (pc + 1) (o0 :: o1 :: some (vq o) :: t) (vq o :: st) M Q) : ev_E G k b u pc (o0 :: o1 :: some (vq o) :: t) st M Q := ev_aloadn (j := 2) d rfl kk
theorem ev_istore_2 {o0 o1 : Option ev_V} {t : List (Option ev_V)} {z : Option ev_V} {x : Int32} (d : decode k.1 pc = .ok (.istore_n 2, 1)) (hn : 2 < k.2.2.1) (hc : ev_nl (o0 :: o1 :: z :: t) 2 = true) (kk : ev_E G k b u (pc + 1) (o0 :: o1 :: some (vi x) :: t) st M Q) : ev_E G k b u pc (o0 :: o1 :: z :: t) (vi x :: st) M Q := ev_istoren (j := 2) d hn hc kk
theorem ev_astore_2 {o0 o1 : Option ev_V} {t : List (Option ev_V)} {z : Option ev_V} {o : ev_R} (d : decode k.1 pc = .ok (.astore_n 2, 1)) (hn : 2 < k.2.2.1) (hc : ev_nl (o0 :: o1 :: z :: t) 2 = true) (kk : ev_E G k b u (pc + 1) (o0 :: o1 :: some (vq o) :: t) st M Q) : ev_E G k b u pc (o0 :: o1 :: z :: t) (vq o :: st) M Q := ev_astoren (j := 2) d hn hc kk
theorem ev_lstore_2 {o0 o1 : Option ev_V} {t : List (Option ev_V)} {z z2 : Option ev_V} {x : Int64} (d : decode k.1 pc = .ok (.lstore_n 2, 1)) (hn : 2 + 1 < k.2.2.1) (hc : ev_nl (o0 :: o1 :: z :: z2 :: t) 2 = true) (kk : ev_E G k b u (pc + 1) (o0 :: o1 :: some (vl x) :: none :: t) st M Q) : ev_E G k b u pc (o0 :: o1 :: z :: z2 :: t) (vl x :: st) M Q := ev_lstoren (j := 2) d hn hc kk
theorem ev_iinc_2 {o0 o1 : Option ev_V} {t : List (Option ev_V)} {n : Int} {x y : Int32} (d : decode k.1 pc = .ok (.iinc 2 n, 3)) (hy : x + Int32.ofInt n = y) (hn : 2 < k.2.2.1) (hc : ev_nl (o0 :: o1 :: some (vi x) :: t) 2 = true) (kk : ev_E G k b u (pc + 3) (o0 :: o1 :: some (vi y) :: t) st M Q) : ev_E G k b u pc (o0 :: o1 :: some (vi x) :: t) st M Q := by
  subst hy
  exact ev_iincw (j := 2) d rfl hn hc kk
theorem ev_iload_3 {o0 o1 o2 : Option ev_V} {t : List (Option ev_V)} {x : Int32} (d : decode k.1 pc = .ok (.iload_n 3, 1)) (kk : ev_E G k b u (pc + 1) (o0 :: o1 :: o2 :: some (vi x) :: t) (vi x :: st) M Q) : ev_E G k b u pc (o0 :: o1 :: o2 :: some (vi x) :: t) st M Q := ev_iloadn (j := 3) d rfl kk
theorem ev_lload_3 {o0 o1 o2 : Option ev_V} {t : List (Option ev_V)} {x : Int64} (d : decode k.1 pc = .ok (.lload_n 3, 1)) (kk : ev_E G k b u (pc + 1) (o0 :: o1 :: o2 :: some (vl x) :: t) (vl x :: st) M Q) : ev_E G k b u pc (o0 :: o1 :: o2 :: some (vl x) :: t) st M Q := ev_lloadn (j := 3) d rfl kk
theorem ev_aload_3 {o0 o1 o2 : Option ev_V} {t : List (Option ev_V)} {o : ev_R} (d : decode k.1 pc = .ok (.aload_n 3, 1)) (kk : ev_E G k b u (pc + 1) (o0 :: o1 :: o2 :: some (vq o) :: t) (vq o :: st) M Q) : ev_E G k b u pc (o0 :: o1 :: o2 :: some (vq o) :: t) st M Q := ev_aloadn (j := 3) d rfl kk
theorem ev_istore_3 {o0 o1 o2 : Option ev_V} {t : List (Option ev_V)} {z : Option ev_V} {x : Int32} (d : decode k.1 pc = .ok (.istore_n 3, 1)) (hn : 3 < k.2.2.1) (hc : ev_nl (o0 :: o1 :: o2 :: z :: t) 3 = true) (kk : ev_E G k b u (pc + 1) (o0 :: o1 :: o2 :: some (vi x) :: t) st M Q) : ev_E G k b u pc (o0 :: o1 :: o2 :: z :: t) (vi x :: st) M Q := ev_istoren (j := 3) d hn hc kk
theorem ev_astore_3 {o0 o1 o2 : Option ev_V} {t : List (Option ev_V)} {z : Option ev_V} {o : ev_R} (d : decode k.1 pc = .ok (.astore_n 3, 1)) (hn : 3 < k.2.2.1) (hc : ev_nl (o0 :: o1 :: o2 :: z :: t) 3 = true) (kk : ev_E G k b u (pc + 1) (o0 :: o1 :: o2 :: some (vq o) :: t) st M Q) : ev_E G k b u pc (o0 :: o1 :: o2 :: z :: t) (vq o :: st) M Q := ev_astoren (j := 3) d hn hc kk
theorem ev_lstore_3 {o0 o1 o2 : Option ev_V} {t : List (Option ev_V)} {z z2 : Option ev_V} {x : Int64} (d : decode k.1 pc = .ok (.lstore_n 3, 1)) (hn : 3 + 1 < k.2.2.1) (hc : ev_nl (o0 :: o1 :: o2 :: z :: z2 :: t) 3 = true) (kk : ev_E G k b u (pc + 1) (o0 :: o1 :: o2 :: some (vl x) :: none :: t) st M Q) : ev_E G k b u pc (o0 :: o1 :: o2 :: z :: z2 :: t) (vl x :: st) M Q := ev_lstoren (j := 3) d hn hc kk
theorem ev_iinc_3 {o0 o1 o2 : Option ev_V} {t : List (Option ev_V)} {n : Int} {x y : Int32} (d : decode k.1 pc = .ok (.iinc 3 n, 3)) (hy : x + Int32.ofInt n = y) (hn : 3 < k.2.2.1) (hc : ev_nl (o0 :: o1 :: o2 :: some (vi x) :: t) 3 = true) (kk : ev_E G k b u (pc + 3) (o0 :: o1 :: o2 :: some (vi y) :: t) st M Q) : ev_E G k b u pc (o0 :: o1 :: o2 :: some (vi x) :: t) st M Q := by
  subst hy
  exact ev_iincw (j := 3) d rfl hn hc kk
theorem ev_iload_4 {o0 o1 o2 o3 : Option ev_V} {t : List (Option ev_V)} {x : Int32} (d : decode k.1 pc = .ok (.iload 4, 2)) (kk : ev_E G k b u (pc + 2) (o0 :: o1 :: o2 :: o3 :: some (vi x) :: t) (vi x :: st) M Q) : ev_E G k b u pc (o0 :: o1 :: o2 :: o3 :: some (vi x) :: t) st M Q := ev_iloadw (j := 4) d rfl kk
theorem ev_lload_4 {o0 o1 o2 o3 : Option ev_V} {t : List (Option ev_V)} {x : Int64} (d : decode k.1 pc = .ok (.lload 4, 2)) (kk : ev_E G k b u (pc + 2) (o0 :: o1 :: o2 :: o3 :: some (vl x) :: t) (vl x :: st) M Q) : ev_E G k b u pc (o0 :: o1 :: o2 :: o3 :: some (vl x) :: t) st M Q := ev_lloadw (j := 4) d rfl kk
theorem ev_aload_4 {o0 o1 o2 o3 : Option ev_V} {t : List (Option ev_V)} {o : ev_R} (d : decode k.1 pc = .ok (.aload 4, 2)) (kk : ev_E G k b u (pc + 2) (o0 :: o1 :: o2 :: o3 :: some (vq o) :: t) (vq o :: st) M Q) : ev_E G k b u pc (o0 :: o1 :: o2 :: o3 :: some (vq o) :: t) st M Q := ev_aloadw (j := 4) d rfl kk
theorem ev_istore_4 {o0 o1 o2 o3 : Option ev_V} {t : List (Option ev_V)} {z : Option ev_V} {x : Int32} (d : decode k.1 pc = .ok (.istore 4, 2)) (hn : 4 < k.2.2.1) (hc : ev_nl (o0 :: o1 :: o2 :: o3 :: z :: t) 4 = true) (kk : ev_E G k b u (pc + 2) (o0 :: o1 :: o2 :: o3 :: some (vi x) :: t) st M Q) : ev_E G k b u pc (o0 :: o1 :: o2 :: o3 :: z :: t) (vi x :: st) M Q := ev_istorew (j := 4) d hn hc kk
theorem ev_astore_4 {o0 o1 o2 o3 : Option ev_V} {t : List (Option ev_V)} {z : Option ev_V} {o : ev_R} (d : decode k.1 pc = .ok (.astore 4, 2)) (hn : 4 < k.2.2.1) (hc : ev_nl (o0 :: o1 :: o2 :: o3 :: z :: t) 4 = true) (kk : ev_E G k b u (pc + 2) (o0 :: o1 :: o2 :: o3 :: some (vq o) :: t) st M Q) : ev_E G k b u pc (o0 :: o1 :: o2 :: o3 :: z :: t) (vq o :: st) M Q := ev_astorew (j := 4) d hn hc kk
theorem ev_lstore_4 {o0 o1 o2 o3 : Option ev_V} {t : List (Option ev_V)} {z z2 : Option ev_V} {x : Int64} (d : decode k.1 pc = .ok (.lstore 4, 2)) (hn : 4 + 1 < k.2.2.1) (hc : ev_nl (o0 :: o1 :: o2 :: o3 :: z :: z2 :: t) 4 = true) (kk : ev_E G k b u (pc + 2) (o0 :: o1 :: o2 :: o3 :: some (vl x) :: none :: t) st M Q) : ev_E G k b u pc (o0 :: o1 :: o2 :: o3 :: z :: z2 :: t) (vl x :: st) M Q := ev_lstorew (j := 4) d hn hc kk
theorem ev_iinc_4 {o0 o1 o2 o3 : Option ev_V} {t : List (Option ev_V)} {n : Int} {x y : Int32} (d : decode k.1 pc = .ok (.iinc 4 n, 3)) (hy : x + Int32.ofInt n = y) (hn : 4 < k.2.2.1) (hc : ev_nl (o0 :: o1 :: o2 :: o3 :: some (vi x) :: t) 4 = true) (kk : ev_E G k b u (pc + 3) (o0 :: o1 :: o2 :: o3 :: some (vi y) :: t) st M Q) : ev_E G k b u pc (o0 :: o1 :: o2 :: o3 :: some (vi x) :: t) st M Q := by
  subst hy
  exact ev_iincw (j := 4) d rfl hn hc kk
theorem ev_iload_5 {o0 o1 o2 o3 o4 : Option ev_V} {t : List (Option ev_V)} {x : Int32} (d : decode k.1 pc = .ok (.iload 5, 2)) (kk : ev_E G k b u (pc + 2) (o0 :: o1 :: o2 :: o3 :: o4 :: some (vi x) :: t) (vi x :: st) M Q) : ev_E G k b u pc (o0 :: o1 :: o2 :: o3 :: o4 :: some (vi x) :: t) st M Q := ev_iloadw (j := 5) d rfl kk
theorem ev_lload_5 {o0 o1 o2 o3 o4 : Option ev_V} {t : List (Option ev_V)} {x : Int64} (d : decode k.1 pc = .ok (.lload 5, 2)) (kk : ev_E G k b u (pc + 2) (o0 :: o1 :: o2 :: o3 :: o4 :: some (vl x) :: t) (vl x :: st) M Q) : ev_E G k b u pc (o0 :: o1 :: o2 :: o3 :: o4 :: some (vl x) :: t) st M Q := ev_lloadw (j := 5) d rfl kk
theorem ev_aload_5 {o0 o1 o2 o3 o4 : Option ev_V} {t : List (Option ev_V)} {o : ev_R} (d : decode k.1 pc = .ok (.aload 5, 2)) (kk : ev_E G k b u (pc + 2) (o0 :: o1 :: o2 :: o3 :: o4 :: some (vq o) :: t) (vq o :: st) M Q) : ev_E G k b u pc (o0 :: o1 :: o2 :: o3 :: o4 :: some (vq o) :: t) st M Q := ev_aloadw (j := 5) d rfl kk
theorem ev_istore_5 {o0 o1 o2 o3 o4 : Option ev_V} {t : List (Option ev_V)} {z : Option ev_V} {x : Int32} (d : decode k.1 pc = .ok (.istore 5, 2)) (hn : 5 < k.2.2.1) (hc : ev_nl (o0 :: o1 :: o2 :: o3 :: o4 :: z :: t) 5 = true) (kk : ev_E G k b u (pc + 2) (o0 :: o1 :: o2 :: o3 :: o4 :: some (vi x) :: t) st M Q) : ev_E G k b u pc (o0 :: o1 :: o2 :: o3 :: o4 :: z :: t) (vi x :: st) M Q := ev_istorew (j := 5) d hn hc kk
theorem ev_astore_5 {o0 o1 o2 o3 o4 : Option ev_V} {t : List (Option ev_V)} {z : Option ev_V} {o : ev_R} (d : decode k.1 pc = .ok (.astore 5, 2)) (hn : 5 < k.2.2.1) (hc : ev_nl (o0 :: o1 :: o2 :: o3 :: o4 :: z :: t) 5 = true) (kk : ev_E G k b u (pc + 2) (o0 :: o1 :: o2 :: o3 :: o4 :: some (vq o) :: t) st M Q) : ev_E G k b u pc (o0 :: o1 :: o2 :: o3 :: o4 :: z :: t) (vq o :: st) M Q := ev_astorew (j := 5) d hn hc kk
theorem ev_lstore_5 {o0 o1 o2 o3 o4 : Option ev_V} {t : List (Option ev_V)} {z z2 : Option ev_V} {x : Int64} (d : decode k.1 pc = .ok (.lstore 5, 2)) (hn : 5 + 1 < k.2.2.1) (hc : ev_nl (o0 :: o1 :: o2 :: o3 :: o4 :: z :: z2 :: t) 5 = true) (kk : ev_E G k b u (pc + 2) (o0 :: o1 :: o2 :: o3 :: o4 :: some (vl x) :: none :: t) st M Q) : ev_E G k b u pc (o0 :: o1 :: o2 :: o3 :: o4 :: z :: z2 :: t) (vl x :: st) M Q := ev_lstorew (j := 5) d hn hc kk
theorem ev_iinc_5 {o0 o1 o2 o3 o4 : Option ev_V} {t : List (Option ev_V)} {n : Int} {x y : Int32} (d : decode k.1 pc = .ok (.iinc 5 n, 3)) (hy : x + Int32.ofInt n = y) (hn : 5 < k.2.2.1) (hc : ev_nl (o0 :: o1 :: o2 :: o3 :: o4 :: some (vi x) :: t) 5 = true) (kk : ev_E G k b u (pc + 3) (o0 :: o1 :: o2 :: o3 :: o4 :: some (vi y) :: t) st M Q) : ev_E G k b u pc (o0 :: o1 :: o2 :: o3 :: o4 :: some (vi x) :: t) st M Q := by
  subst hy
  exact ev_iincw (j := 5) d rfl hn hc kk
theorem ev_iload_6 {o0 o1 o2 o3 o4 o5 : Option ev_V} {t : List (Option ev_V)} {x : Int32} (d : decode k.1 pc = .ok (.iload 6, 2)) (kk : ev_E G k b u (pc + 2) (o0 :: o1 :: o2 :: o3 :: o4 :: o5 :: some (vi x) :: t) (vi x :: st) M Q) : ev_E G k b u pc (o0 :: o1 :: o2 :: o3 :: o4 :: o5 :: some (vi x) :: t) st M Q := ev_iloadw (j := 6) d rfl kk
theorem ev_lload_6 {o0 o1 o2 o3 o4 o5 : Option ev_V} {t : List (Option ev_V)} {x : Int64} (d : decode k.1 pc = .ok (.lload 6, 2)) (kk : ev_E G k b u (pc + 2) (o0 :: o1 :: o2 :: o3 :: o4 :: o5 :: some (vl x) :: t) (vl x :: st) M Q) : ev_E G k b u pc (o0 :: o1 :: o2 :: o3 :: o4 :: o5 :: some (vl x) :: t) st M Q := ev_lloadw (j := 6) d rfl kk
theorem ev_aload_6 {o0 o1 o2 o3 o4 o5 : Option ev_V} {t : List (Option ev_V)} {o : ev_R} (d : decode k.1 pc = .ok (.aload 6, 2)) (kk : ev_E G k b u (pc + 2) (o0 :: o1 :: o2 :: o3 :: o4 :: o5 :: some (vq o) :: t) (vq o :: st) M Q) : ev_E G k b u pc (o0 :: o1 :: o2 :: o3 :: o4 :: o5 :: some (vq o) :: t) st M Q := ev_aloadw (j := 6) d rfl kk
theorem ev_istore_6 {o0 o1 o2 o3 o4 o5 : Option ev_V} {t : List (Option ev_V)} {z : Option ev_V} {x : Int32} (d : decode k.1 pc = .ok (.istore 6, 2)) (hn : 6 < k.2.2.1) (hc : ev_nl (o0 :: o1 :: o2 :: o3 :: o4 :: o5 :: z :: t) 6 = true) (kk : ev_E G k b u (pc + 2) (o0 :: o1 :: o2 :: o3 :: o4 :: o5 :: some (vi x) :: t) st M Q) : ev_E G k b u pc (o0 :: o1 :: o2 :: o3 :: o4 :: o5 :: z :: t) (vi x :: st) M Q := ev_istorew (j := 6) d hn hc kk
theorem ev_astore_6 {o0 o1 o2 o3 o4 o5 : Option ev_V} {t : List (Option ev_V)} {z : Option ev_V} {o : ev_R} (d : decode k.1 pc = .ok (.astore 6, 2)) (hn : 6 < k.2.2.1) (hc : ev_nl (o0 :: o1 :: o2 :: o3 :: o4 :: o5 :: z :: t) 6 = true) (kk : ev_E G k b u (pc + 2) (o0 :: o1 :: o2 :: o3 :: o4 :: o5 :: some (vq o) :: t) st M Q) : ev_E G k b u pc (o0 :: o1 :: o2 :: o3 :: o4 :: o5 :: z :: t) (vq o :: st) M Q := ev_astorew (j := 6) d hn hc kk
theorem ev_lstore_6 {o0 o1 o2 o3 o4 o5 : Option ev_V} {t : List (Option ev_V)} {z z2 : Option ev_V} {x : Int64} (d : decode k.1 pc = .ok (.lstore 6, 2)) (hn : 6 + 1 < k.2.2.1) (hc : ev_nl (o0 :: o1 :: o2 :: o3 :: o4 :: o5 :: z :: z2 :: t) 6 = true) (kk : ev_E G k b u (pc + 2) (o0 :: o1 :: o2 :: o3 :: o4 :: o5 :: some (vl x) :: none :: t) st M Q) : ev_E G k b u pc (o0 :: o1 :: o2 :: o3 :: o4 :: o5 :: z :: z2 :: t) (vl x :: st) M Q := ev_lstorew (j := 6) d hn hc kk
theorem ev_iinc_6 {o0 o1 o2 o3 o4 o5 : Option ev_V} {t : List (Option ev_V)} {n : Int} {x y : Int32} (d : decode k.1 pc = .ok (.iinc 6 n, 3)) (hy : x + Int32.ofInt n = y) (hn : 6 < k.2.2.1) (hc : ev_nl (o0 :: o1 :: o2 :: o3 :: o4 :: o5 :: some (vi x) :: t) 6 = true) (kk : ev_E G k b u (pc + 3) (o0 :: o1 :: o2 :: o3 :: o4 :: o5 :: some (vi y) :: t) st M Q) : ev_E G k b u pc (o0 :: o1 :: o2 :: o3 :: o4 :: o5 :: some (vi x) :: t) st M Q := by
  subst hy
  exact ev_iincw (j := 6) d rfl hn hc kk
theorem ev_iload_7 {o0 o1 o2 o3 o4 o5 o6 : Option ev_V} {t : List (Option ev_V)} {x : Int32} (d : decode k.1 pc = .ok (.iload 7, 2)) (kk : ev_E G k b u (pc + 2) (o0 :: o1 :: o2 :: o3 :: o4 :: o5 :: o6 :: some (vi x) :: t) (vi x :: st) M Q) : ev_E G k b u pc (o0 :: o1 :: o2 :: o3 :: o4 :: o5 :: o6 :: some (vi x) :: t) st M Q := ev_iloadw (j := 7) d rfl kk
theorem ev_lload_7 {o0 o1 o2 o3 o4 o5 o6 : Option ev_V} {t : List (Option ev_V)} {x : Int64} (d : decode k.1 pc = .ok (.lload 7, 2)) (kk : ev_E G k b u (pc + 2) (o0 :: o1 :: o2 :: o3 :: o4 :: o5 :: o6 :: some (vl x) :: t) (vl x :: st) M Q) : ev_E G k b u pc (o0 :: o1 :: o2 :: o3 :: o4 :: o5 :: o6 :: some (vl x) :: t) st M Q := ev_lloadw (j := 7) d rfl kk
theorem ev_aload_7 {o0 o1 o2 o3 o4 o5 o6 : Option ev_V} {t : List (Option ev_V)} {o : ev_R} (d : decode k.1 pc = .ok (.aload 7, 2)) (kk : ev_E G k b u (pc + 2) (o0 :: o1 :: o2 :: o3 :: o4 :: o5 :: o6 :: some (vq o) :: t) (vq o :: st) M Q) : ev_E G k b u pc (o0 :: o1 :: o2 :: o3 :: o4 :: o5 :: o6 :: some (vq o) :: t) st M Q := ev_aloadw (j := 7) d rfl kk
theorem ev_istore_7 {o0 o1 o2 o3 o4 o5 o6 : Option ev_V} {t : List (Option ev_V)} {z : Option ev_V} {x : Int32} (d : decode k.1 pc = .ok (.istore 7, 2)) (hn : 7 < k.2.2.1) (hc : ev_nl (o0 :: o1 :: o2 :: o3 :: o4 :: o5 :: o6 :: z :: t) 7 = true) (kk : ev_E G k b u (pc + 2) (o0 :: o1 :: o2 :: o3 :: o4 :: o5 :: o6 :: some (vi x) :: t) st M Q) : ev_E G k b u pc (o0 :: o1 :: o2 :: o3 :: o4 :: o5 :: o6 :: z :: t) (vi x :: st) M Q := ev_istorew (j := 7) d hn hc kk
theorem ev_astore_7 {o0 o1 o2 o3 o4 o5 o6 : Option ev_V} {t : List (Option ev_V)} {z : Option ev_V} {o : ev_R} (d : decode k.1 pc = .ok (.astore 7, 2)) (hn : 7 < k.2.2.1) (hc : ev_nl (o0 :: o1 :: o2 :: o3 :: o4 :: o5 :: o6 :: z :: t) 7 = true) (kk : ev_E G k b u (pc + 2) (o0 :: o1 :: o2 :: o3 :: o4 :: o5 :: o6 :: some (vq o) :: t) st M Q) : ev_E G k b u pc (o0 :: o1 :: o2 :: o3 :: o4 :: o5 :: o6 :: z :: t) (vq o :: st) M Q := ev_astorew (j := 7) d hn hc kk
theorem ev_lstore_7 {o0 o1 o2 o3 o4 o5 o6 : Option ev_V} {t : List (Option ev_V)} {z z2 : Option ev_V} {x : Int64} (d : decode k.1 pc = .ok (.lstore 7, 2)) (hn : 7 + 1 < k.2.2.1) (hc : ev_nl (o0 :: o1 :: o2 :: o3 :: o4 :: o5 :: o6 :: z :: z2 :: t) 7 = true) (kk : ev_E G k b u (pc + 2) (o0 :: o1 :: o2 :: o3 :: o4 :: o5 :: o6 :: some (vl x) :: none :: t) st M Q) : ev_E G k b u pc (o0 :: o1 :: o2 :: o3 :: o4 :: o5 :: o6 :: z :: z2 :: t) (vl x :: st) M Q := ev_lstorew (j := 7) d hn hc kk
theorem ev_iinc_7 {o0 o1 o2 o3 o4 o5 o6 : Option ev_V} {t : List (Option ev_V)} {n : Int} {x y : Int32} (d : decode k.1 pc = .ok (.iinc 7 n, 3)) (hy : x + Int32.ofInt n = y) (hn : 7 < k.2.2.1) (hc : ev_nl (o0 :: o1 :: o2 :: o3 :: o4 :: o5 :: o6 :: some (vi x) :: t) 7 = true) (kk : ev_E G k b u (pc + 3) (o0 :: o1 :: o2 :: o3 :: o4 :: o5 :: o6 :: some (vi y) :: t) st M Q) : ev_E G k b u pc (o0 :: o1 :: o2 :: o3 :: o4 :: o5 :: o6 :: some (vi x) :: t) st M Q := by
  subst hy
  exact ev_iincw (j := 7) d rfl hn hc kk
theorem ev_iload_8 {o0 o1 o2 o3 o4 o5 o6 o7 : Option ev_V} {t : List (Option ev_V)} {x : Int32} (d : decode k.1 pc = .ok (.iload 8, 2)) (kk : ev_E G k b u (pc + 2) (o0 :: o1 :: o2 :: o3 :: o4 :: o5 :: o6 :: o7 :: some (vi x) :: t) (vi x :: st) M Q) : ev_E G k b u pc (o0 :: o1 :: o2 :: o3 :: o4 :: o5 :: o6 :: o7 :: some (vi x) :: t) st M Q := ev_iloadw (j := 8) d rfl kk
theorem ev_lload_8 {o0 o1 o2 o3 o4 o5 o6 o7 : Option ev_V} {t : List (Option ev_V)} {x : Int64} (d : decode k.1 pc = .ok (.lload 8, 2)) (kk : ev_E G k b u (pc + 2) (o0 :: o1 :: o2 :: o3 :: o4 :: o5 :: o6 :: o7 :: some (vl x) :: t) (vl x :: st) M Q) : ev_E G k b u pc (o0 :: o1 :: o2 :: o3 :: o4 :: o5 :: o6 :: o7 :: some (vl x) :: t) st M Q := ev_lloadw (j := 8) d rfl kk
theorem ev_aload_8 {o0 o1 o2 o3 o4 o5 o6 o7 : Option ev_V} {t : List (Option ev_V)} {o : ev_R} (d : decode k.1 pc = .ok (.aload 8, 2)) (kk : ev_E G k b u (pc + 2) (o0 :: o1 :: o2 :: o3 :: o4 :: o5 :: o6 :: o7 :: some (vq o) :: t) (vq o :: st) M Q) : ev_E G k b u pc (o0 :: o1 :: o2 :: o3 :: o4 :: o5 :: o6 :: o7 :: some (vq o) :: t) st M Q := ev_aloadw (j := 8) d rfl kk
theorem ev_istore_8 {o0 o1 o2 o3 o4 o5 o6 o7 : Option ev_V} {t : List (Option ev_V)} {z : Option ev_V} {x : Int32} (d : decode k.1 pc = .ok (.istore 8, 2)) (hn : 8 < k.2.2.1) (hc : ev_nl (o0 :: o1 :: o2 :: o3 :: o4 :: o5 :: o6 :: o7 :: z :: t) 8 = true) (kk : ev_E G k b u (pc + 2) (o0 :: o1 :: o2 :: o3 :: o4 :: o5 :: o6 :: o7 :: some (vi x) :: t) st M Q) : ev_E G k b u pc (o0 :: o1 :: o2 :: o3 :: o4 :: o5 :: o6 :: o7 :: z :: t) (vi x :: st) M Q := ev_istorew (j := 8) d hn hc kk
theorem ev_astore_8 {o0 o1 o2 o3 o4 o5 o6 o7 : Option ev_V} {t : List (Option ev_V)} {z : Option ev_V} {o : ev_R} (d : decode k.1 pc = .ok (.astore 8, 2)) (hn : 8 < k.2.2.1) (hc : ev_nl (o0 :: o1 :: o2 :: o3 :: o4 :: o5 :: o6 :: o7 :: z :: t) 8 = true) (kk : ev_E G k b u (pc + 2) (o0 :: o1 :: o2 :: o3 :: o4 :: o5 :: o6 :: o7 :: some (vq o) :: t) st M Q) : ev_E G k b u pc (o0 :: o1 :: o2 :: o3 :: o4 :: o5 :: o6 :: o7 :: z :: t) (vq o :: st) M Q := ev_astorew (j := 8) d hn hc kk
theorem ev_lstore_8 {o0 o1 o2 o3 o4 o5 o6 o7 : Option ev_V} {t : List (Option ev_V)} {z z2 : Option ev_V} {x : Int64} (d : decode k.1 pc = .ok (.lstore 8, 2)) (hn : 8 + 1 < k.2.2.1) (hc : ev_nl (o0 :: o1 :: o2 :: o3 :: o4 :: o5 :: o6 :: o7 :: z :: z2 :: t) 8 = true) (kk : ev_E G k b u (pc + 2) (o0 :: o1 :: o2 :: o3 :: o4 :: o5 :: o6 :: o7 :: some (vl x) :: none :: t) st M Q) : ev_E G k b u pc (o0 :: o1 :: o2 :: o3 :: o4 :: o5 :: o6 :: o7 :: z :: z2 :: t) (vl x :: st) M Q := ev_lstorew (j := 8) d hn hc kk
theorem ev_iinc_8 {o0 o1 o2 o3 o4 o5 o6 o7 : Option ev_V} {t : List (Option ev_V)} {n : Int} {x y : Int32} (d : decode k.1 pc = .ok (.iinc 8 n, 3)) (hy : x + Int32.ofInt n = y) (hn : 8 < k.2.2.1) (hc : ev_nl (o0 :: o1 :: o2 :: o3 :: o4 :: o5 :: o6 :: o7 :: some (vi x) :: t) 8 = true) (kk : ev_E G k b u (pc + 3) (o0 :: o1 :: o2 :: o3 :: o4 :: o5 :: o6 :: o7 :: some (vi y) :: t) st M Q) : ev_E G k b u pc (o0 :: o1 :: o2 :: o3 :: o4 :: o5 :: o6 :: o7 :: some (vi x) :: t) st M Q := by
  subst hy
  exact ev_iincw (j := 8) d rfl hn hc kk
theorem ev_iload_9 {o0 o1 o2 o3 o4 o5 o6 o7 o8 : Option ev_V} {t : List (Option ev_V)} {x : Int32} (d : decode k.1 pc = .ok (.iload 9, 2)) (kk : ev_E G k b u (pc + 2) (o0 :: o1 :: o2 :: o3 :: o4 :: o5 :: o6 :: o7 :: o8 :: some (vi x) :: t) (vi x :: st) M Q) : ev_E G k b u pc (o0 :: o1 :: o2 :: o3 :: o4 :: o5 :: o6 :: o7 :: o8 :: some (vi x) :: t) st M Q := ev_iloadw (j := 9) d rfl kk
theorem ev_lload_9 {o0 o1 o2 o3 o4 o5 o6 o7 o8 : Option ev_V} {t : List (Option ev_V)} {x : Int64} (d : decode k.1 pc = .ok (.lload 9, 2)) (kk : ev_E G k b u (pc + 2) (o0 :: o1 :: o2 :: o3 :: o4 :: o5 :: o6 :: o7 :: o8 :: some (vl x) :: t) (vl x :: st) M Q) : ev_E G k b u pc (o0 :: o1 :: o2 :: o3 :: o4 :: o5 :: o6 :: o7 :: o8 :: some (vl x) :: t) st M Q := ev_lloadw (j := 9) d rfl kk
theorem ev_aload_9 {o0 o1 o2 o3 o4 o5 o6 o7 o8 : Option ev_V} {t : List (Option ev_V)} {o : ev_R} (d : decode k.1 pc = .ok (.aload 9, 2)) (kk : ev_E G k b u (pc + 2) (o0 :: o1 :: o2 :: o3 :: o4 :: o5 :: o6 :: o7 :: o8 :: some (vq o) :: t) (vq o :: st) M Q) : ev_E G k b u pc (o0 :: o1 :: o2 :: o3 :: o4 :: o5 :: o6 :: o7 :: o8 :: some (vq o) :: t) st M Q := ev_aloadw (j := 9) d rfl kk
theorem ev_istore_9 {o0 o1 o2 o3 o4 o5 o6 o7 o8 : Option ev_V} {t : List (Option ev_V)} {z : Option ev_V} {x : Int32} (d : decode k.1 pc = .ok (.istore 9, 2)) (hn : 9 < k.2.2.1) (hc : ev_nl (o0 :: o1 :: o2 :: o3 :: o4 :: o5 :: o6 :: o7 :: o8 :: z :: t) 9 = true) (kk : ev_E G k b u (pc + 2) (o0 :: o1 :: o2 :: o3 :: o4 :: o5 :: o6 :: o7 :: o8 :: some (vi x) :: t) st M Q) : ev_E G k b u pc (o0 :: o1 :: o2 :: o3 :: o4 :: o5 :: o6 :: o7 :: o8 :: z :: t) (vi x :: st) M Q := ev_istorew (j := 9) d hn hc kk
theorem ev_astore_9 {o0 o1 o2 o3 o4 o5 o6 o7 o8 : Option ev_V} {t : List (Option ev_V)} {z : Option ev_V} {o : ev_R} (d : decode k.1 pc = .ok (.astore 9, 2)) (hn : 9 < k.2.2.1) (hc : ev_nl (o0 :: o1 :: o2 :: o3 :: o4 :: o5 :: o6 :: o7 :: o8 :: z :: t) 9 = true) (kk : ev_E G k b u (pc + 2) (o0 :: o1 :: o2 :: o3 :: o4 :: o5 :: o6 :: o7 :: o8 :: some (vq o) :: t) st M Q) : ev_E G k b u pc (o0 :: o1 :: o2 :: o3 :: o4 :: o5 :: o6 :: o7 :: o8 :: z :: t) (vq o :: st) M Q := ev_astorew (j := 9) d hn hc kk
theorem ev_lstore_9 {o0 o1 o2 o3 o4 o5 o6 o7 o8 : Option ev_V} {t : List (Option ev_V)} {z z2 : Option ev_V} {x : Int64} (d : decode k.1 pc = .ok (.lstore 9, 2)) (hn : 9 + 1 < k.2.2.1) (hc : ev_nl (o0 :: o1 :: o2 :: o3 :: o4 :: o5 :: o6 :: o7 :: o8 :: z :: z2 :: t) 9 = true) (kk : ev_E G k b u (pc + 2) (o0 :: o1 :: o2 :: o3 :: o4 :: o5 :: o6 :: o7 :: o8 :: some (vl x) :: none :: t) st M Q) : ev_E G k b u pc (o0 :: o1 :: o2 :: o3 :: o4 :: o5 :: o6 :: o7 :: o8 :: z :: z2 :: t) (vl x :: st) M Q := ev_lstorew (j := 9) d hn hc kk
theorem ev_iinc_9 {o0 o1 o2 o3 o4 o5 o6 o7 o8 : Option ev_V} {t : List (Option ev_V)} {n : Int} {x y : Int32} (d : decode k.1 pc = .ok (.iinc 9 n, 3)) (hy : x + Int32.ofInt n = y) (hn : 9 < k.2.2.1) (hc : ev_nl (o0 :: o1 :: o2 :: o3 :: o4 :: o5 :: o6 :: o7 :: o8 :: some (vi x) :: t) 9 = true) (kk : ev_E G k b u (pc + 3) (o0 :: o1 :: o2 :: o3 :: o4 :: o5 :: o6 :: o7 :: o8 :: some (vi y) :: t) st M Q) : ev_E G k b u pc (o0 :: o1 :: o2 :: o3 :: o4 :: o5 :: o6 :: o7 :: o8 :: some (vi x) :: t) st M Q := by
  subst hy
  exact ev_iincw (j := 9) d rfl hn hc kk
theorem ev_iload_10 {o0 o1 o2 o3 o4 o5 o6 o7 o8 o9 : Option ev_V} {t : List (Option ev_V)} {x : Int32} (d : decode k.1 pc = .ok (.iload 10, 2)) (kk : ev_E G k b u (pc + 2) (o0 :: o1 :: o2 :: o3 :: o4 :: o5 :: o6 :: o7 :: o8 :: o9 :: some (vi x) :: t) (vi x :: st) M Q) : ev_E G k b u pc (o0 :: o1 :: o2 :: o3 :: o4 :: o5 :: o6 :: o7 :: o8 :: o9 :: some (vi x) :: t) st M Q := ev_iloadw (j := 10) d rfl kk
theorem ev_lload_10 {o0 o1 o2 o3 o4 o5 o6 o7 o8 o9 : Option ev_V} {t : List (Option ev_V)} {x : Int64} (d : decode k.1 pc = .ok (.lload 10, 2)) (kk : ev_E G k b u (pc + 2) (o0 :: o1 :: o2 :: o3 :: o4 :: o5 :: o6 :: o7 :: o8 :: o9 :: some (vl x) :: t) (vl x :: st) M Q) : ev_E G k b u pc (o0 :: o1 :: o2 :: o3 :: o4 :: o5 :: o6 :: o7 :: o8 :: o9 :: some (vl x) :: t) st M Q := ev_lloadw (j := 10) d rfl kk
theorem ev_aload_10 {o0 o1 o2 o3 o4 o5 o6 o7 o8 o9 : Option ev_V} {t : List (Option ev_V)} {o : ev_R} (d : decode k.1 pc = .ok (.aload 10, 2)) (kk : ev_E G k b u (pc + 2) (o0 :: o1 :: o2 :: o3 :: o4 :: o5 :: o6 :: o7 :: o8 :: o9 :: some (vq o) :: t) (vq o :: st) M Q) : ev_E G k b u pc (o0 :: o1 :: o2 :: o3 :: o4 :: o5 :: o6 :: o7 :: o8 :: o9 :: some (vq o) :: t) st M Q := ev_aloadw (j := 10) d rfl kk
theorem ev_istore_10 {o0 o1 o2 o3 o4 o5 o6 o7 o8 o9 : Option ev_V} {t : List (Option ev_V)} {z : Option ev_V} {x : Int32} (d : decode k.1 pc = .ok (.istore 10, 2)) (hn : 10 < k.2.2.1) (hc : ev_nl (o0 :: o1 :: o2 :: o3 :: o4 :: o5 :: o6 :: o7 :: o8 :: o9 :: z :: t) 10 = true) (kk : ev_E G k b u (pc + 2) (o0 :: o1 :: o2 :: o3 :: o4 :: o5 :: o6 :: o7 :: o8 :: o9 :: some (vi x) :: t) st M Q) : ev_E G k b u pc (o0 :: o1 :: o2 :: o3 :: o4 :: o5 :: o6 :: o7 :: o8 :: o9 :: z :: t) (vi x :: st) M Q := ev_istorew (j := 10) d hn hc kk
theorem ev_astore_10 {o0 o1 o2 o3 o4 o5 o6 o7 o8 o9 : Option ev_V} {t : List (Option ev_V)} {z : Option ev_V} {o : ev_R} (d : decode k.1 pc = .ok (.astore 10, 2)) (hn : 10 < k.2.2.1) (hc : ev_nl (o0 :: o1 :: o2 :: o3 :: o4 :: o5 :: o6 :: o7 :: o8 :: o9 :: z :: t) 10 = true) (kk : ev_E G k b u (pc + 2) (o0 :: o1 :: o2 :: o3 :: o4 :: o5 :: o6 :: o7 :: o8 :: o9 :: some (vq o) :: t) st M Q) : ev_E G k b u pc (o0 :: o1 :: o2 :: o3 :: o4 :: o5 :: o6 :: o7 :: o8 :: o9 :: z :: t) (vq o :: st) M Q := ev_astorew (j := 10) d hn hc kk
theorem ev_lstore_10 {o0 o1 o2 o3 o4 o5 o6 o7 o8 o9 : Option ev_V} {t : List (Option ev_V)} {z z2 : Option ev_V} {x : Int64} (d : decode k.1 pc = .ok (.lstore 10, 2)) (hn : 10 + 1 < k.2.2.1) (hc : ev_nl (o0 :: o1 :: o2 :: o3 :: o4 :: o5 :: o6 :: o7 :: o8 :: o9 :: z :: z2 :: t) 10 = true) (kk : ev_E G k b u (pc + 2) (o0 :: o1 :: o2 :: o3 :: o4 :: o5 :: o6 :: o7 :: o8 :: o9 :: some (vl x) :: none :: t) st M Q) : ev_E G k b u pc (o0 :: o1 :: o2 :: o3 :: o4 :: o5 :: o6 :: o7 :: o8 :: o9 :: z :: z2 :: t) (vl x :: st) M Q := ev_lstorew (j := 10) d hn hc kk
theorem ev_iinc_10 {o0 o1 o2 o3 o4 o5 o6 o7 o8 o9 : Option ev_V} {t : List (Option ev_V)} {n : Int} {x y : Int32} (d : decode k.1 pc = .ok (.iinc 10 n, 3)) (hy : x + Int32.ofInt n = y) (hn : 10 < k.2.2.1) (hc : ev_nl (o0 :: o1 :: o2 :: o3 :: o4 :: o5 :: o6 :: o7 :: o8 :: o9 :: some (vi x) :: t) 10 = true) (kk : ev_E G k b u (pc + 3) (o0 :: o1 :: o2 :: o3 :: o4 :: o5 :: o6 :: o7 :: o8 :: o9 :: some (vi y) :: t) st M Q) : ev_E G k b u pc (o0 :: o1 :: o2 :: o3 :: o4 :: o5 :: o6 :: o7 :: o8 :: o9 :: some (vi x) :: t) st M Q := by
  subst hy
  exact ev_iincw (j := 10) d rfl hn hc kk
theorem ev_iload_11 {o0 o1 o2 o3 o4 o5 o6 o7 o8 o9 o10 : Option ev_V} {t : List (Option ev_V)} {x : Int32} (d : decode k.1 pc = .ok (.iload 11, 2)) (kk : ev_E G k b u (pc + 2) (o0 :: o1 :: o2 :: o3 :: o4 :: o5 :: o6 :: o7 :: o8 :: o9 :: o10 :: some (vi x) :: t) (vi x :: st) M Q) : ev_E G k b u pc (o0 :: o1 :: o2 :: o3 :: o4 :: o5 :: o6 :: o7 :: o8 :: o9 :: o10 :: some (vi x) :: t) st M Q := ev_iloadw (j := 11) d rfl kk
theorem ev_lload_11 {o0 o1 o2 o3 o4 o5 o6 o7 o8 o9 o10 : Option ev_V} {t : List (Option ev_V)} {x : Int64} (d : decode k.1 pc = .ok (.lload 11, 2)) (kk : ev_E G k b u (pc + 2) (o0 :: o1 :: o2 :: o3 :: o4 :: o5 :: o6 :: o7 :: o8 :: o9 :: o10 :: some (vl x) :: t) (vl x :: st) M Q) : ev_E G k b u pc (o0 :: o1 :: o2 :: o3 :: o4 :: o5 :: o6 :: o7 :: o8 :: o9 :: o10 :: some (vl x) :: t) st M Q := ev_lloadw (j := 11) d rfl kk
theorem ev_aload_11 {o0 o1 o2 o3 o4 o5 o6 o7 o8 o9 o10 : Option ev_V} {t : List (Option ev_V)} {o : ev_R} (d : decode k.1 pc = .ok (.aload 11, 2)) (kk : ev_E G k b u (pc + 2) (o0 :: o1 :: o2 :: o3 :: o4 :: o5 :: o6 :: o7 :: o8 :: o9 :: o10 :: some (vq o) :: t) (vq o :: st) M Q) : ev_E G k b u pc (o0 :: o1 :: o2 :: o3 :: o4 :: o5 :: o6 :: o7 :: o8 :: o9 :: o10 :: some (vq o) :: t) st M Q := ev_aloadw (j := 11) d rfl kk
theorem ev_istore_11 {o0 o1 o2 o3 o4 o5 o6 o7 o8 o9 o10 : Option ev_V} {t : List (Option ev_V)} {z : Option ev_V} {x : Int32} (d : decode k.1 pc = .ok (.istore 11, 2)) (hn : 11 < k.2.2.1) (hc : ev_nl (o0 :: o1 :: o2 :: o3 :: o4 :: o5 :: o6 :: o7 :: o8 :: o9 :: o10 :: z :: t) 11 = true) (kk : ev_E G k b u (pc + 2) (o0 :: o1 :: o2 :: o3 :: o4 :: o5 :: o6 :: o7 :: o8 :: o9 :: o10 :: some (vi x) :: t) st M Q) : ev_E G k b u pc (o0 :: o1 :: o2 :: o3 :: o4 :: o5 :: o6 :: o7 :: o8 :: o9 :: o10 :: z :: t) (vi x :: st) M Q := ev_istorew (j := 11) d hn hc kk
theorem ev_astore_11 {o0 o1 o2 o3 o4 o5 o6 o7 o8 o9 o10 : Option ev_V} {t : List (Option ev_V)} {z : Option ev_V} {o : ev_R} (d : decode k.1 pc = .ok (.astore 11, 2)) (hn : 11 < k.2.2.1) (hc : ev_nl (o0 :: o1 :: o2 :: o3 :: o4 :: o5 :: o6 :: o7 :: o8 :: o9 :: o10 :: z :: t) 11 = true) (kk : ev_E G k b u (pc + 2) (o0 :: o1 :: o2 :: o3 :: o4 :: o5 :: o6 :: o7 :: o8 :: o9 :: o10 :: some (vq o) :: t) st M Q) : ev_E G k b u pc (o0 :: o1 :: o2 :: o3 :: o4 :: o5 :: o6 :: o7 :: o8 :: o9 :: o10 :: z :: t) (vq o :: st) M Q := ev_astorew (j := 11) d hn hc kk
theorem ev_lstore_11 {o0 o1 o2 o3 o4 o5 o6 o7 o8 o9 o10 : Option ev_V} {t : List (Option ev_V)} {z z2 : Option ev_V} {x : Int64} (d : decode k.1 pc = .ok (.lstore 11, 2)) (hn : 11 + 1 < k.2.2.1) (hc : ev_nl (o0 :: o1 :: o2 :: o3 :: o4 :: o5 :: o6 :: o7 :: o8 :: o9 :: o10 :: z :: z2 :: t) 11 = true) (kk : ev_E G k b u (pc + 2) (o0 :: o1 :: o2 :: o3 :: o4 :: o5 :: o6 :: o7 :: o8 :: o9 :: o10 :: some (vl x) :: none :: t) st M Q) : ev_E G k b u pc (o0 :: o1 :: o2 :: o3 :: o4 :: o5 :: o6 :: o7 :: o8 :: o9 :: o10 :: z :: z2 :: t) (vl x :: st) M Q := ev_lstorew (j := 11) d hn hc kk
theorem ev_iinc_11 {o0 o1 o2 o3 o4 o5 o6 o7 o8 o9 o10 : Option ev_V} {t : List (Option ev_V)} {n : Int} {x y : Int32} (d : decode k.1 pc = .ok (.iinc 11 n, 3)) (hy : x + Int32.ofInt n = y) (hn : 11 < k.2.2.1) (hc : ev_nl (o0 :: o1 :: o2 :: o3 :: o4 :: o5 :: o6 :: o7 :: o8 :: o9 :: o10 :: some (vi x) :: t) 11 = true) (kk : ev_E G k b u (pc + 3) (o0 :: o1 :: o2 :: o3 :: o4 :: o5 :: o6 :: o7 :: o8 :: o9 :: o10 :: some (vi y) :: t) st M Q) : ev_E G k b u pc (o0 :: o1 :: o2 :: o3 :: o4 :: o5 :: o6 :: o7 :: o8 :: o9 :: o10 :: some (vi x) :: t) st M Q := by
  subst hy
  exact ev_iincw (j := 11) d rfl hn hc kk
theorem ev_iload_12 {o0 o1 o2 o3 o4 o5 o6 o7 o8 o9 o10 o11 : Option ev_V} {t : List (Option ev_V)} {x : Int32} (d : decode k.1 pc = .ok (.iload 12, 2)) (kk : ev_E G k b u (pc + 2) (o0 :: o1 :: o2 :: o3 :: o4 :: o5 :: o6 :: o7 :: o8 :: o9 :: o10 :: o11 :: some (vi x) :: t) (vi x :: st) M Q) : ev_E G k b u pc (o0 :: o1 :: o2 :: o3 :: o4 :: o5 :: o6 :: o7 :: o8 :: o9 :: o10 :: o11 :: some (vi x) :: t) st M Q := ev_iloadw (j := 12) d rfl kk
theorem ev_lload_12 {o0 o1 o2 o3 o4 o5 o6 o7 o8 o9 o10 o11 : Option ev_V} {t : List (Option ev_V)} {x : Int64} (d : decode k.1 pc = .ok (.lload 12, 2)) (kk : ev_E G k b u (pc + 2) (o0 :: o1 :: o2 :: o3 :: o4 :: o5 :: o6 :: o7 :: o8 :: o9 :: o10 :: o11 :: some (vl x) :: t) (vl x :: st) M Q) : ev_E G k b u pc (o0 :: o1 :: o2 :: o3 :: o4 :: o5 :: o6 :: o7 :: o8 :: o9 :: o10 :: o11 :: some (vl x) :: t) st M Q := ev_lloadw (j := 12) d rfl kk
theorem ev_aload_12 {o0 o1 o2 o3 o4 o5 o6 o7 o8 o9 o10 o11 : Option ev_V} {t : List (Option ev_V)} {o : ev_R} (d : decode k.1 pc = .ok (.aload 12, 2)) (kk : ev_E G k b u (pc + 2) (o0 :: o1 :: o2 :: o3 :: o4 :: o5 :: o6 :: o7 :: o8 :: o9 :: o10 :: o11 :: some (vq o) :: t) (vq o :: st) M Q) : ev_E G k b u pc (o0 :: o1 :: o2 :: o3 :: o4 :: o5 :: o6 :: o7 :: o8 :: o9 :: o10 :: o11 :: some (vq o) :: t) st M Q := ev_aloadw (j := 12) d rfl kk
theorem ev_istore_12 {o0 o1 o2 o3 o4 o5 o6 o7 o8 o9 o10 o11 : Option ev_V} {t : List (Option ev_V)} {z : Option ev_V} {x : Int32} (d : decode k.1 pc = .ok (.istore 12, 2)) (hn : 12 < k.2.2.1) (hc : ev_nl (o0 :: o1 :: o2 :: o3 :: o4 :: o5 :: o6 :: o7 :: o8 :: o9 :: o10 :: o11 :: z :: t) 12 = true) (kk : ev_E G k b u (pc + 2) (o0 :: o1 :: o2 :: o3 :: o4 :: o5 :: o6 :: o7 :: o8 :: o9 :: o10 :: o11 :: some (vi x) :: t) st M Q) : ev_E G k b u pc (o0 :: o1 :: o2 :: o3 :: o4 :: o5 :: o6 :: o7 :: o8 :: o9 :: o10 :: o11 :: z :: t) (vi x :: st) M Q := ev_istorew (j := 12) d hn hc kk
theorem ev_astore_12 {o0 o1 o2 o3 o4 o5 o6 o7 o8 o9 o10 o11 : Option ev_V} {t : List (Option ev_V)} {z : Option ev_V} {o : ev_R} (d : decode k.1 pc = .ok (.astore 12, 2)) (hn : 12 < k.2.2.1) (hc : ev_nl (o0 :: o1 :: o2 :: o3 :: o4 :: o5 :: o6 :: o7 :: o8 :: o9 :: o10 :: o11 :: z :: t) 12 = true) (kk : ev_E G k b u (pc + 2) (o0 :: o1 :: o2 :: o3 :: o4 :: o5 :: o6 :: o7 :: o8 :: o9 :: o10 :: o11 :: some (vq o) :: t) st M Q) : ev_E G k b u pc (o0 :: o1 :: o2 :: o3 :: o4 :: o5 :: o6 :: o7 :: o8 :: o9 :: o10 :: o11 :: z :: t) (vq o :: st) M Q := ev_astorew (j := 12) d hn hc kk
theorem ev_lstore_12 {o0 o1 o2 o3 o4 o5 o6 o7 o8 o9 o10 o11 : Option ev_V} {t : List (Option ev_V)} {z z2 : Option ev_V} {x : Int64} (d : decode k.1 pc = .ok (.lstore 12, 2)) (hn : 12 + 1 < k.2.2.1) (hc : ev_nl (o0 :: o1 :: o2 :: o3 :: o4 :: o5 :: o6 :: o7 :: o8 :: o9 :: o10 :: o11 :: z :: z2 :: t) 12 = true) (kk : ev_E G k b u (pc + 2) (o0 :: o1 :: o2 :: o3 :: o4 :: o5 :: o6 :: o7 :: o8 :: o9 :: o10 :: o11 :: some (vl x) :: none :: t) st M Q) : ev_E G k b u pc (o0 :: o1 :: o2 :: o3 :: o4 :: o5 :: o6 :: o7 :: o8 :: o9 :: o10 :: o11 :: z :: z2 :: t) (vl x :: st) M Q := ev_lstorew (j := 12) d hn hc kk
theorem ev_iinc_12 {o0 o1 o2 o3 o4 o5 o6 o7 o8 o9 o10 o11 : Option ev_V} {t : List (Option ev_V)} {n : Int} {x y : Int32} (d : decode k.1 pc = .ok (.iinc 12 n, 3)) (hy : x + Int32.ofInt n = y) (hn : 12 < k.2.2.1) (hc : ev_nl (o0 :: o1 :: o2 :: o3 :: o4 :: o5 :: o6 :: o7 :: o8 :: o9 :: o10 :: o11 :: some (vi x) :: t) 12 = true) (kk : ev_E G k b u (pc + 3) (o0 :: o1 :: o2 :: o3 :: o4 :: o5 :: o6 :: o7 :: o8 :: o9 :: o10 :: o11 :: some (vi y) :: t) st M Q) : ev_E G k b u pc (o0 :: o1 :: o2 :: o3 :: o4 :: o5 :: o6 :: o7 :: o8 :: o9 :: o10 :: o11 :: some (vi x) :: t) st M Q := by
  subst hy
  exact ev_iincw (j := 12) d rfl hn hc kk
theorem ev_iload_13 {o0 o1 o2 o3 o4 o5 o6 o7 o8 o9 o10 o11 o12 : Option ev_V} {t : List (Option ev_V)} {x : Int32} (d : decode k.1 pc = .ok (.iload 13, 2)) (kk : ev_E G k b u (pc + 2) (o0 :: o1 :: o2 :: o3 :: o4 :: o5 :: o6 :: o7 :: o8 :: o9 :: o10 :: o11 :: o12 :: some (vi x) :: t) (vi x :: st) M Q) : ev_E G k b u pc (o0 :: o1 :: o2 :: o3 :: o4 :: o5 :: o6 :: o7 :: o8 :: o9 :: o10 :: o11 :: o12 :: some (vi x) :: t) st M Q := ev_iloadw (j := 13) d rfl kk
theorem ev_lload_13 {o0 o1 o2 o3 o4 o5 o6 o7 o8 o9 o10 o11 o12 : Option ev_V} {t : List (Option ev_V)} {x : Int64} (d : decode k.1 pc = .ok (.lload 13, 2)) (kk : ev_E G k b u (pc + 2) (o0 :: o1 :: o2 :: o3 :: o4 :: o5 :: o6 :: o7 :: o8 :: o9 :: o10 :: o11 :: o12 :: some (vl x) :: t) (vl x :: st) M Q) : ev_E G k b u pc (o0 :: o1 :: o2 :: o3 :: o4 :: o5 :: o6 :: o7 :: o8 :: o9 :: o10 :: o11 :: o12 :: some (vl x) :: t) st M Q := ev_lloadw (j := 13) d rfl kk
theorem ev_aload_13 {o0 o1 o2 o3 o4 o5 o6 o7 o8 o9 o10 o11 o12 : Option ev_V} {t : List (Option ev_V)} {o : ev_R} (d : decode k.1 pc = .ok (.aload 13, 2)) (kk : ev_E G k b u (pc + 2) (o0 :: o1 :: o2 :: o3 :: o4 :: o5 :: o6 :: o7 :: o8 :: o9 :: o10 :: o11 :: o12 :: some (vq o) :: t) (vq o :: st) M Q) : ev_E G k b u pc (o0 :: o1 :: o2 :: o3 :: o4 :: o5 :: o6 :: o7 :: o8 :: o9 :: o10 :: o11 :: o12 :: some (vq o) :: t) st M Q := ev_aloadw (j := 13) d rfl kk
theorem ev_istore_13 {o0 o1 o2 o3 o4 o5 o6 o7 o8 o9 o10 o11 o12 : Option ev_V} {t : List (Option ev_V)} {z : Option ev_V} {x : Int32} (d : decode k.1 pc = .ok (.istore 13, 2)) (hn : 13 < k.2.2.1) (hc : ev_nl (o0 :: o1 :: o2 :: o3 :: o4 :: o5 :: o6 :: o7 :: o8 :: o9 :: o10 :: o11 :: o12 :: z :: t) 13 = true) (kk : ev_E G k b u (pc + 2) (o0 :: o1 :: o2 :: o3 :: o4 :: o5 :: o6 :: o7 :: o8 :: o9 :: o10 :: o11 :: o12 :: some (vi x) :: t) st M Q) : ev_E G k b u pc (o0 :: o1 :: o2 :: o3 :: o4 :: o5 :: o6 :: o7 :: o8 :: o9 :: o10 :: o11 :: o12 :: z :: t) (vi x :: st) M Q := ev_istorew (j := 13) d hn hc kk
theorem ev_astore_13 {o0 o1 o2 o3 o4 o5 o6 o7 o8 o9 o10 o11 o12 : Option ev_V} {t : List (Option ev_V)} {z : Option ev_V} {o : ev_R} (d : decode k.1 pc = .ok (.astore 13, 2)) (hn : 13 < k.2.2.1) (hc : ev_nl (o0 :: o1 :: o2 :: o3 :: o4 :: o5 :: o6 :: o7 :: o8 :: o9 :: o10 :: o11 :: o12 :: z :: t) 13 = true) (kk : ev_E G k b u (pc + 2) (o0 :: o1 :: o2 :: o3 :: o4 :: o5 :: o6 :: o7 :: o8 :: o9 :: o10 :: o11 :: o12 :: some (vq o) :: t) st M Q) : ev_E G k b u pc (o0 :: o1 :: o2 :: o3 :: o4 :: o5 :: o6 :: o7 :: o8 :: o9 :: o10 :: o11 :: o12 :: z :: t) (vq o :: st) M Q := ev_astorew (j := 13) d hn hc kk
theorem ev_lstore_13 {o0 o1 o2 o3 o4 o5 o6 o7 o8 o9 o10 o11 o12 : Option ev_V} {t : List (Option ev_V)} {z z2 : Option ev_V} {x : Int64} (d : decode k.1 pc = .ok (.lstore 13, 2)) (hn : 13 + 1 < k.2.2.1) (hc : ev_nl (o0 :: o1 :: o2 :: o3 :: o4 :: o5 :: o6 :: o7 :: o8 :: o9 :: o10 :: o11 :: o12 :: z :: z2 :: t) 13 = true) (kk : ev_E G k b u (pc + 2) (o0 :: o1 :: o2 :: o3 :: o4 :: o5 :: o6 :: o7 :: o8 :: o9 :: o10 :: o11 :: o12 :: some (vl x) :: none :: t) st M Q) : ev_E G k b u pc (o0 :: o1 :: o2 :: o3 :: o4 :: o5 :: o6 :: o7 :: o8 :: o9 :: o10 :: o11 :: o12 :: z :: z2 :: t) (vl x :: st) M Q := ev_lstorew (j := 13) d hn hc kk
theorem ev_iinc_13 {o0 o1 o2 o3 o4 o5 o6 o7 o8 o9 o10 o11 o12 : Option ev_V} {t : List (Option ev_V)} {n : Int} {x y : Int32} (d : decode k.1 pc = .ok (.iinc 13 n, 3)) (hy : x + Int32.ofInt n = y) (hn : 13 < k.2.2.1) (hc : ev_nl (o0 :: o1 :: o2 :: o3 :: o4 :: o5 :: o6 :: o7 :: o8 :: o9 :: o10 :: o11 :: o12 :: some (vi x) :: t) 13 = true) (kk : ev_E G k b u (pc + 3) (o0 :: o1 :: o2 :: o3 :: o4 :: o5 :: o6 :: o7 :: o8 :: o9 :: o10 :: o11 :: o12 :: some (vi y) :: t) st M Q) : ev_E G k b u pc (o0 :: o1 :: o2 :: o3 :: o4 :: o5 :: o6 :: o7 :: o8 :: o9 :: o10 :: o11 :: o12 :: some (vi x) :: t) st M Q := by
  subst hy
  exact ev_iincw (j := 13) d rfl hn hc kk
theorem ev_iload_14 {o0 o1 o2 o3 o4 o5 o6 o7 o8 o9 o10 o11 o12 o13 : Option ev_V} {t : List (Option ev_V)} {x : Int32} (d : decode k.1 pc = .ok (.iload 14, 2)) (kk : ev_E G k b u (pc + 2) (o0 :: o1 :: o2 :: o3 :: o4 :: o5 :: o6 :: o7 :: o8 :: o9 :: o10 :: o11 :: o12 :: o13 :: some (vi x) :: t) (vi x :: st) M Q) : ev_E G k b u pc (o0 :: o1 :: o2 :: o3 :: o4 :: o5 :: o6 :: o7 :: o8 :: o9 :: o10 :: o11 :: o12 :: o13 :: some (vi x) :: t) st M Q := ev_iloadw (j := 14) d rfl kk
theorem ev_lload_14 {o0 o1 o2 o3 o4 o5 o6 o7 o8 o9 o10 o11 o12 o13 : Option ev_V} {t : List (Option ev_V)} {x : Int64} (d : decode k.1 pc = .ok (.lload 14, 2)) (kk : ev_E G k b u (pc + 2) (o0 :: o1 :: o2 :: o3 :: o4 :: o5 :: o6 :: o7 :: o8 :: o9 :: o10 :: o11 :: o12 :: o13 :: some (vl x) :: t) (vl x :: st) M Q) : ev_E G k b u pc (o0 :: o1 :: o2 :: o3 :: o4 :: o5 :: o6 :: o7 :: o8 :: o9 :: o10 :: o11 :: o12 :: o13 :: some (vl x) :: t) st M Q := ev_lloadw (j := 14) d rfl kk
theorem ev_aload_14 {o0 o1 o2 o3 o4 o5 o6 o7 o8 o9 o10 o11 o12 o13 : Option ev_V} {t : List (Option ev_V)} {o : ev_R} (d : decode k.1 pc = .ok (.aload 14, 2)) (kk : ev_E G k b u (pc + 2) (o0 :: o1 :: o2 :: o3 :: o4 :: o5 :: o6 :: o7 :: o8 :: o9 :: o10 :: o11 :: o12 :: o13 :: some (vq o) :: t) (vq o :: st) M Q) : ev_E G k b u pc (o0 :: o1 :: o2 :: o3 :: o4 :: o5 :: o6 :: o7 :: o8 :: o9 :: o10 :: o11 :: o12 :: o13 :: some (vq o) :: t) st M Q := ev_aloadw (j := 14) d rfl kk
theorem ev_istore_14 {o0 o1 o2 o3 o4 o5 o6 o7 o8 o9 o10 o11 o12 o13 : Option ev_V} {t : List (Option ev_V)} {z : Option ev_V} {x : Int32} (d : decode k.1 pc = .ok (.istore 14, 2)) (hn : 14 < k.2.2.1) (hc : ev_nl (o0 :: o1 :: o2 :: o3 :: o4 :: o5 :: o6 :: o7 :: o8 :: o9 :: o10 :: o11 :: o12 :: o13 :: z :: t) 14 = true) (kk : ev_E G k b u (pc + 2) (o0 :: o1 :: o2 :: o3 :: o4 :: o5 :: o6 :: o7 :: o8 :: o9 :: o10 :: o11 :: o12 :: o13 :: some (vi x) :: t) st M Q) : ev_E G k b u pc (o0 :: o1 :: o2 :: o3 :: o4 :: o5 :: o6 :: o7 :: o8 :: o9 :: o10 :: o11 :: o12 :: o13 :: z :: t) (vi x :: st) M Q := ev_istorew (j := 14) d hn hc kk
theorem ev_astore_14 {o0 o1 o2 o3 o4 o5 o6 o7 o8 o9 o10 o11 o12 o13 : Option ev_V} {t : List (Option ev_V)} {z : Option ev_V} {o : ev_R} (d : decode k.1 pc = .ok (.astore 14, 2)) (hn : 14 < k.2.2.1) (hc : ev_nl (o0 :: o1 :: o2 :: o3 :: o4 :: o5 :: o6 :: o7 :: o8 :: o9 :: o10 :: o11 :: o12 :: o13 :: z :: t) 14 = true) (kk : ev_E G k b u (pc + 2) (o0 :: o1 :: o2 :: o3 :: o4 :: o5 :: o6 :: o7 :: o8 :: o9 :: o10 :: o11 :: o12 :: o13 :: some (vq o) :: t) st M Q) : ev_E G k b u pc (o0 :: o1 :: o2 :: o3 :: o4 :: o5 :: o6 :: o7 :: o8 :: o9 :: o10 :: o11 :: o12 :: o13 :: z :: t) (vq o :: st) M Q := ev_astorew (j := 14) d hn hc kk
theorem ev_lstore_14 {o0 o1 o2 o3 o4 o5 o6 o7 o8 o9 o10 o11 o12 o13 : Option ev_V} {t : List (Option ev_V)} {z z2 : Option ev_V} {x : Int64} (d : decode k.1 pc = .ok (.lstore 14, 2)) (hn : 14 + 1 < k.2.2.1) (hc : ev_nl (o0 :: o1 :: o2 :: o3 :: o4 :: o5 :: o6 :: o7 :: o8 :: o9 :: o10 :: o11 :: o12 :: o13 :: z :: z2 :: t) 14 = true) (kk : ev_E G k b u (pc + 2) (o0 :: o1 :: o2 :: o3 :: o4 :: o5 :: o6 :: o7 :: o8 :: o9 :: o10 :: o11 :: o12 :: o13 :: some (vl x) :: none :: t) st M Q) : ev_E G k b u pc (o0 :: o1 :: o2 :: o3 :: o4 :: o5 :: o6 :: o7 :: o8 :: o9 :: o10 :: o11 :: o12 :: o13 :: z :: z2 :: t) (vl x :: st) M Q := ev_lstorew (j := 14) d hn hc kk
theorem ev_iinc_14 {o0 o1 o2 o3 o4 o5 o6 o7 o8 o9 o10 o11 o12 o13 : Option ev_V} {t : List (Option ev_V)} {n : Int} {x y : Int32} (d : decode k.1 pc = .ok (.iinc 14 n, 3)) (hy : x + Int32.ofInt n = y) (hn : 14 < k.2.2.1) (hc : ev_nl (o0 :: o1 :: o2 :: o3 :: o4 :: o5 :: o6 :: o7 :: o8 :: o9 :: o10 :: o11 :: o12 :: o13 :: some (vi x) :: t) 14 = true) (kk : ev_E G k b u (pc + 3) (o0 :: o1 :: o2 :: o3 :: o4 :: o5 :: o6 :: o7 :: o8 :: o9 :: o10 :: o11 :: o12 :: o13 :: some (vi y) :: t) st M Q) : ev_E G k b u pc (o0 :: o1 :: o2 :: o3 :: o4 :: o5 :: o6 :: o7 :: o8 :: o9 :: o10 :: o11 :: o12 :: o13 :: some (vi x) :: t) st M Q := by
  subst hy
  exact ev_iincw (j := 14) d rfl hn hc kk
theorem ev_iload_15 {o0 o1 o2 o3 o4 o5 o6 o7 o8 o9 o10 o11 o12 o13 o14 : Option ev_V} {t : List (Option ev_V)} {x : Int32} (d : decode k.1 pc = .ok (.iload 15, 2)) (kk : ev_E G k b u (pc + 2) (o0 :: o1 :: o2 :: o3 :: o4 :: o5 :: o6 :: o7 :: o8 :: o9 :: o10 :: o11 :: o12 :: o13 :: o14 :: some (vi x) :: t) (vi x :: st) M Q) : ev_E G k b u pc (o0 :: o1 :: o2 :: o3 :: o4 :: o5 :: o6 :: o7 :: o8 :: o9 :: o10 :: o11 :: o12 :: o13 :: o14 :: some (vi x) :: t) st M Q := ev_iloadw (j := 15) d rfl kk
theorem ev_lload_15 {o0 o1 o2 o3 o4 o5 o6 o7 o8 o9 o10 o11 o12 o13 o14 : Option ev_V} {t : List (Option ev_V)} {x : Int64} (d : decode k.1 pc = .ok (.lload 15, 2)) (kk : ev_E G k b u (pc + 2) (o0 :: o1 :: o2 :: o3 :: o4 :: o5 :: o6 :: o7 :: o8 :: o9 :: o10 :: o11 :: o12 :: o13 :: o14 :: some (vl x) :: t) (vl x :: st) M Q) : ev_E G k b u pc (o0 :: o1 :: o2 :: o3 :: o4 :: o5 :: o6 :: o7 :: o8 :: o9 :: o10 :: o11 :: o12 :: o13 :: o14 :: some (vl x) :: t) st M Q := ev_lloadw (j := 15) d rfl kk
theorem ev_aload_15 {o0 o1 o2 o3 o4 o5 o6 o7 o8 o9 o10 o11 o12 o13 o14 : Option ev_V} {t : List (Option ev_V)} {o : ev_R} (d : decode k.1 pc = .ok (.aload 15, 2)) (kk : ev_E G k b u (pc + 2) (o0 :: o1 :: o2 :: o3 :: o4 :: o5 :: o6 :: o7 :: o8 :: o9 :: o10 :: o11 :: o12 :: o13 :: o14 :: some (vq o) :: t) (vq o :: st) M Q) : ev_E G k b u pc (o0 :: o1 :: o2 :: o3 :: o4 :: o5 :: o6 :: o7 :: o8 :: o9 :: o10 :: o11 :: o12 :: o13 :: o14 :: some (vq o) :: t) st M Q := ev_aloadw (j := 15) d rfl kk
theorem ev_istore_15 {o0 o1 o2 o3 o4 o5 o6 o7 o8 o9 o10 o11 o12 o13 o14 : Option ev_V} {t : List (Option ev_V)} {z : Option ev_V} {x : Int32} (d : decode k.1 pc = .ok (.istore 15, 2)) (hn : 15 < k.2.2.1) (hc : ev_nl (o0 :: o1 :: o2 :: o3 :: o4 :: o5 :: o6 :: o7 :: o8 :: o9 :: o10 :: o11 :: o12 :: o13 :: o14 :: z :: t) 15 = true) (kk : ev_E G k b u (pc + 2) (o0 :: o1 :: o2 :: o3 :: o4 :: o5 :: o6 :: o7 :: o8 :: o9 :: o10 :: o11 :: o12 :: o13 :: o14 :: some (vi x) :: t) st M Q) : ev_E G k b u pc (o0 :: o1 :: o2 :: o3 :: o4 :: o5 :: o6 :: o7 :: o8 :: o9 :: o10 :: o11 :: o12 :: o13 :: o14 :: z :: t) (vi x :: st) M Q := ev_istorew (j := 15) d hn hc kk
theorem ev_astore_15 {o0 o1 o2 o3 o4 o5 o6 o7 o8 o9 o10 o11 o12 o13 o14 : Option ev_V} {t : List (Option ev_V)} {z : Option ev_V} {o : ev_R} (d : decode k.1 pc = .ok (.astore 15, 2)) (hn : 15 < k.2.2.1) (hc : ev_nl (o0 :: o1 :: o2 :: o3 :: o4 :: o5 :: o6 :: o7 :: o8 :: o9 :: o10 :: o11 :: o12 :: o13 :: o14 :: z :: t) 15 = true) (kk : ev_E G k b u (pc + 2) (o0 :: o1 :: o2 :: o3 :: o4 :: o5 :: o6 :: o7 :: o8 :: o9 :: o10 :: o11 :: o12 :: o13 :: o14 :: some (vq o) :: t) st M Q) : ev_E G k b u pc (o0 :: o1 :: o2 :: o3 :: o4 :: o5 :: o6 :: o7 :: o8 :: o9 :: o10 :: o11 :: o12 :: o13 :: o14 :: z :: t) (vq o :: st) M Q := ev_astorew (j := 15) d hn hc kk
theorem ev_lstore_15 {o0 o1 o2 o3 o4 o5 o6 o7 o8 o9 o10 o11 o12 o13 o14 : Option ev_V} {t : List (Option ev_V)} {z z2 : Option ev_V} {x : Int64} (d : decode k.1 pc = .ok (.lstore 15, 2)) (hn : 15 + 1 < k.2.2.1) (hc : ev_nl (o0 :: o1 :: o2 :: o3 :: o4 :: o5 :: o6 :: o7 :: o8 :: o9 :: o10 :: o11 :: o12 :: o13 :: o14 :: z :: z2 :: t) 15 = true) (kk : ev_E G k b u (pc + 2) (o0 :: o1 :: o2 :: o3 :: o4 :: o5 :: o6 :: o7 :: o8 :: o9 :: o10 :: o11 :: o12 :: o13 :: o14 :: some (vl x) :: none :: t) st M Q) : ev_E G k b u pc (o0 :: o1 :: o2 :: o3 :: o4 :: o5 :: o6 :: o7 :: o8 :: o9 :: o10 :: o11 :: o12 :: o13 :: o14 :: z :: z2 :: t) (vl x :: st) M Q := ev_lstorew (j := 15) d hn hc kk
theorem ev_iinc_15 {o0 o1 o2 o3 o4 o5 o6 o7 o8 o9 o10 o11 o12 o13 o14 : Option ev_V} {t : List (Option ev_V)} {n : Int} {x y : Int32} (d : decode k.1 pc = .ok (.iinc 15 n, 3)) (hy : x + Int32.ofInt n = y) (hn : 15 < k.2.2.1) (hc : ev_nl (o0 :: o1 :: o2 :: o3 :: o4 :: o5 :: o6 :: o7 :: o8 :: o9 :: o10 :: o11 :: o12 :: o13 :: o14 :: some (vi x) :: t) 15 = true) (kk : ev_E G k b u (pc + 3) (o0 :: o1 :: o2 :: o3 :: o4 :: o5 :: o6 :: o7 :: o8 :: o9 :: o10 :: o11 :: o12 :: o13 :: o14 :: some (vi y) :: t) st M Q) : ev_E G k b u pc (o0 :: o1 :: o2 :: o3 :: o4 :: o5 :: o6 :: o7 :: o8 :: o9 :: o10 :: o11 :: o12 :: o13 :: o14 :: some (vi x) :: t) st M Q := by
  subst hy
  exact ev_iincw (j := 15) d rfl hn hc kk
theorem ev_iload_16 {o0 o1 o2 o3 o4 o5 o6 o7 o8 o9 o10 o11 o12 o13 o14 o15 : Option ev_V} {t : List (Option ev_V)} {x : Int32} (d : decode k.1 pc = .ok (.iload 16, 2)) (kk : ev_E G k b u (pc + 2) (o0 :: o1 :: o2 :: o3 :: o4 :: o5 :: o6 :: o7 :: o8 :: o9 :: o10 :: o11 :: o12 :: o13 :: o14 :: o15 :: some (vi x) :: t) (vi x :: st) M Q) : ev_E G k b u pc (o0 :: o1 :: o2 :: o3 :: o4 :: o5 :: o6 :: o7 :: o8 :: o9 :: o10 :: o11 :: o12 :: o13 :: o14 :: o15 :: some (vi x) :: t) st M Q := ev_iloadw (j := 16) d rfl kk
theorem ev_lload_16 {o0 o1 o2 o3 o4 o5 o6 o7 o8 o9 o10 o11 o12 o13 o14 o15 : Option ev_V} {t : List (Option ev_V)} {x : Int64} (d : decode k.1 pc = .ok (.lload 16, 2)) (kk : ev_E G k b u (pc + 2) (o0 :: o1 :: o2 :: o3 :: o4 :: o5 :: o6 :: o7 :: o8 :: o9 :: o10 :: o11 :: o12 :: o13 :: o14 :: o15 :: some (vl x) :: t) (vl x :: st) M Q) : ev_E G k b u pc (o0 :: o1 :: o2 :: o3 :: o4 :: o5 :: o6 :: o7 :: o8 :: o9 :: o10 :: o11 :: o12 :: o13 :: o14 :: o15 :: some (vl x) :: t) st M Q := ev_lloadw (j := 16) d rfl kk
theorem ev_aload_16 {o0 o1 o2 o3 o4 o5 o6 o7 o8 o9 o10 o11 o12 o13 o14 o15 : Option ev_V} {t : List (Option ev_V)} {o : ev_R} (d : decode k.1 pc = .ok (.aload 16, 2)) (kk : ev_E G k b u (pc + 2) (o0 :: o1 :: o2 :: o3 :: o4 :: o5 :: o6 :: o7 :: o8 :: o9 :: o10 :: o11 :: o12 :: o13 :: o14 :: o15 :: some (vq o) :: t) (vq o :: st) M Q) : ev_E G k b u pc (o0 :: o1 :: o2 :: o3 :: o4 :: o5 :: o6 :: o7 :: o8 :: o9 :: o10 :: o11 :: o12 :: o13 :: o14 :: o15 :: some (vq o) :: t) st M Q := ev_aloadw (j := 16) d rfl kk
theorem ev_istore_16 {o0 o1 o2 o3 o4 o5 o6 o7 o8 o9 o10 o11 o12 o13 o14 o15 : Option ev_V} {t : List (Option ev_V)} {z : Option ev_V} {x : Int32} (d : decode k.1 pc = .ok (.istore 16, 2)) (hn : 16 < k.2.2.1) (hc : ev_nl (o0 :: o1 :: o2 :: o3 :: o4 :: o5 :: o6 :: o7 :: o8 :: o9 :: o10 :: o11 :: o12 :: o13 :: o14 :: o15 :: z :: t) 16 = true) (kk : ev_E G k b u (pc + 2) (o0 :: o1 :: o2 :: o3 :: o4 :: o5 :: o6 :: o7 :: o8 :: o9 :: o10 :: o11 :: o12 :: o13 :: o14 :: o15 :: some (vi x) :: t) st M Q) : ev_E G k b u pc (o0 :: o1 :: o2 :: o3 :: o4 :: o5 :: o6 :: o7 :: o8 :: o9 :: o10 :: o11 :: o12 :: o13 :: o14 :: o15 :: z :: t) (vi x :: st) M Q := ev_istorew (j := 16) d hn hc kk
theorem ev_astore_16 {o0 o1 o2 o3 o4 o5 o6 o7 o8 o9 o10 o11 o12 o13 o14 o15 : Option ev_V} {t : List (Option ev_V)} {z : Option ev_V} {o : ev_R} (d : decode k.1 pc = .ok (.astore 16, 2)) (hn : 16 < k.2.2.1) (hc : ev_nl (o0 :: o1 :: o2 :: o3 :: o4 :: o5 :: o6 :: o7 :: o8 :: o9 :: o10 :: o11 :: o12 :: o13 :: o14 :: o15 :: z :: t) 16 = true) (kk : ev_E G k b u (pc + 2) (o0 :: o1 :: o2 :: o3 :: o4 :: o5 :: o6 :: o7 :: o8 :: o9 :: o10 :: o11 :: o12 :: o13 :: o14 :: o15 :: some (vq o) :: t) st M Q) : ev_E G k b u pc (o0 :: o1 :: o2 :: o3 :: o4 :: o5 :: o6 :: o7 :: o8 :: o9 :: o10 :: o11 :: o12 :: o13 :: o14 :: o15 :: z :: t) (vq o :: st) M Q := ev_astorew (j := 16) d hn hc kk
theorem ev_lstore_16 {o0 o1 o2 o3 o4 o5 o6 o7 o8 o9 o10 o11 o12 o13 o14 o15 : Option ev_V} {t : List (Option ev_V)} {z z2 : Option ev_V} {x : Int64} (d : decode k.1 pc = .ok (.lstore 16, 2)) (hn : 16 + 1 < k.2.2.1) (hc : ev_nl (o0 :: o1 :: o2 :: o3 :: o4 :: o5 :: o6 :: o7 :: o8 :: o9 :: o10 :: o11 :: o12 :: o13 :: o14 :: o15 :: z :: z2 :: t) 16 = true) (kk : ev_E G k b u (pc + 2) (o0 :: o1 :: o2 :: o3 :: o4 :: o5 :: o6 :: o7 :: o8 :: o9 :: o10 :: o11 :: o12 :: o13 :: o14 :: o15 :: some (vl x) :: none :: t) st M Q) : ev_E G k b u pc (o0 :: o1 :: o2 :: o3 :: o4 :: o5 :: o6 :: o7 :: o8 :: o9 :: o10 :: o11 :: o12 :: o13 :: o14 :: o15 :: z :: z2 :: t) (vl x :: st) M Q := ev_lstorew (j := 16) d hn hc kk
theorem ev_iinc_16 {o0 o1 o2 o3 o4 o5 o6 o7 o8 o9 o10 o11 o12 o13 o14 o15 : Option ev_V} {t : List (Option ev_V)} {n : Int} {x y : Int32} (d : decode k.1 pc = .ok (.iinc 16 n, 3)) (hy : x + Int32.ofInt n = y) (hn : 16 < k.2.2.1) (hc : ev_nl (o0 :: o1 :: o2 :: o3 :: o4 :: o5 :: o6 :: o7 :: o8 :: o9 :: o10 :: o11 :: o12 :: o13 :: o14 :: o15 :: some (vi x) :: t) 16 = true) (kk : ev_E G k b u (pc + 3) (o0 :: o1 :: o2 :: o3 :: o4 :: o5 :: o6 :: o7 :: o8 :: o9 :: o10 :: o11 :: o12 :: o13 :: o14 :: o15 :: some (vi y) :: t) st M Q) : ev_E G k b u pc (o0 :: o1 :: o2 :: o3 :: o4 :: o5 :: o6 :: o7 :: o8 :: o9 :: o10 :: o11 :: o12 :: o13 :: o14 :: o15 :: some (vi x) :: t) st M Q := by
  subst hy
  exact ev_iincw (j := 16) d rfl hn hc kk
theorem ev_tsw {dflt lo hi : Int} {offs : Array Int} {len : Nat} {x : Int32} {dt : Nat} (d : decode k.1 pc = .ok (.tableswitch dflt lo hi offs, len)) (hd : (pc : Int) + dflt = (dt : Int)) (ko : x.toInt < lo ∨ hi < x.toInt → ev_E G k b u dt L st M Q)
    (ki : ∀ j : Nat, x.toInt = lo + j → lo + j ≤ hi → ∃ (off : Int) (tgt : Nat), offs[j]? = some off ∧ (pc : Int) + off = (tgt : Int) ∧ ev_E G k b u tgt L st M Q) : ev_E G k b u pc L (vi x :: st) M Q := by
  intro p l e R s m args below meth c H locs ls Z F RT hH h1 h2 h3 hS hu hl
  by_cases a : x.toInt < lo
  · exact lv_tableOut F.1 F.2.1 d (Or.inl a) hd (ko (Or.inl a) p l e R s m args below meth c H locs ls Z F RT hH h1 h2.2 h3 hS hu hl)
  · by_cases a2 : hi < x.toInt
    · exact lv_tableOut F.1 F.2.1 d (Or.inr a2) hd (ko (Or.inr a2) p l e R s m args below meth c H locs ls Z F RT hH h1 h2.2 h3 hS hu hl)
    · obtain ⟨off, tgt, q1, q2, kk⟩ := ki (x.toInt - lo).toNat (by omega) (by omega)
      exact lv_tableIn F.1 F.2.1 d a a2 q1 q2 (kk p l e R s m args below meth c H locs ls Z F RT hH h1 h2.2 h3 hS hu hl)
end EVR
