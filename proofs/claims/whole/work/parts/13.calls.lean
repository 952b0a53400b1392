/-! calls and contracts over the world -/
def ev_cat (v : ev_V) : Nat := match v with
  | .inr (.inl _) => 2
  | _ => 1
def ev_cats : List ev_V → Nat
  | [] => 0
  | v :: t => ev_cat v + ev_cats t
theorem ev_cat_real (G : ev_G) (v : ev_V) : (ev_real G v).category = ev_cat v := by
  match v with
  | .inl _ => rfl
  | .inr (.inl _) => rfl
  | .inr (.inr none) => rfl
  | .inr (.inr (some _)) => rfl
theorem ev_cats_real (G : ev_G) : ∀ st : List ev_V, ((st.map (ev_real G)).map fun v => v.category).sum = ev_cats st
  | [] => rfl
  | v :: t => by
    have := ev_cats_real G t
    simp only [List.map_cons, List.sum_cons, this, ev_cat_real, ev_cats]
theorem ev_oks_app : ∀ {a b : List ev_V}, ev_oks (a ++ b) ↔ ev_oks a ∧ ev_oks b
  | [], b => ⟨fun h => ⟨trivial, h⟩, fun h => h.2⟩
  | v :: t, b => by
    have := ev_oks_app (a := t) (b := b)
    exact ⟨fun h => ⟨⟨h.1, (this.mp h.2).1⟩, (this.mp h.2).2⟩, fun h => ⟨h.1.1, this.mpr ⟨h.1.2, h.2⟩⟩⟩
theorem ev_oks_rev : ∀ {a : List ev_V}, ev_oks a.reverse ↔ ev_oks a
  | [] => Iff.rfl
  | v :: t => by
    rw [List.reverse_cons, ev_oks_app, ev_oks_rev (a := t)]
    exact ⟨fun h => ⟨h.2.1, h.1⟩, fun h => ⟨h.2, h.1, trivial⟩⟩
/-- the locals at a method's entry -/
def ev_en : List ev_V → List (Option ev_V)
  | [] => []
  | .inr (.inl x) :: t => some (vl x) :: none :: ev_en t
  | .inl x :: t => some (vi x) :: ev_en t
  | .inr (.inr o) :: t => some (vq o) :: ev_en t
theorem ev_en_len (G : ev_G) : ∀ vs : List ev_V, (lg_sl (vs.map (ev_real G))).length = (ev_en vs).length
  | [] => rfl
  | .inr (.inl x) :: t => by
    show ([Slot.val (.long x), Slot.second] ++ lg_sl (t.map (ev_real G))).length = (ev_en t).length + 1 + 1
    rw [List.length_append, ev_en_len G t]
    show 2 + _ = _
    omega
  | .inl x :: t => by
    show ([Slot.val (.int x)] ++ lg_sl (t.map (ev_real G))).length = (ev_en t).length + 1
    rw [List.length_append, ev_en_len G t]
    show 1 + _ = _
    omega
  | .inr (.inr none) :: t => by
    show ([Slot.val .null] ++ lg_sl (t.map (ev_real G))).length = (ev_en t).length + 1
    rw [List.length_append, ev_en_len G t]
    show 1 + _ = _
    omega
  | .inr (.inr (some q)) :: t => by
    show ([Slot.val (.ref (ev_la G q.1 q.2))] ++ lg_sl (t.map (ev_real G))).length = (ev_en t).length + 1
    rw [List.length_append, ev_en_len G t]
    show 1 + _ = _
    omega
theorem ev_al_none (G : ev_G) : ∀ (n i : Nat), ev_al G i (List.replicate n none) = []
  | 0, _ => rfl
  | n + 1, i => ev_al_none G n (i + 1)
theorem ev_en_al (G : ev_G) (n : Nat) : ∀ (vs : List ev_V) (i : Nat), ev_al G i (ev_en vs ++ List.replicate n none) = lv_args i (vs.map (ev_real G))
  | [], i => ev_al_none G n i
  | .inr (.inl x) :: t, i => by
    have := ev_en_al G n t (i + 2)
    show (i, ev_real G (vl x)) :: ev_al G (i + 1 + 1) (ev_en t ++ List.replicate n none) = _
    rw [show i + 1 + 1 = i + 2 by omega, this]
    rfl
  | .inl x :: t, i => by
    have := ev_en_al G n t (i + 1)
    show (i, ev_real G (vi x)) :: ev_al G (i + 1) (ev_en t ++ List.replicate n none) = _
    rw [this]
    rfl
  | .inr (.inr none) :: t, i => by
    have := ev_en_al G n t (i + 1)
    show (i, ev_real G (vq none)) :: ev_al G (i + 1) (ev_en t ++ List.replicate n none) = _
    rw [this]
    rfl
  | .inr (.inr (some q)) :: t, i => by
    have := ev_en_al G n t (i + 1)
    show (i, ev_real G (vq (some q))) :: ev_al G (i + 1) (ev_en t ++ List.replicate n none) = _
    rw [this]
    rfl
theorem ev_okl_en (n : Nat) : ∀ {vs : List ev_V}, ev_oks vs → ev_okl (ev_en vs ++ List.replicate n none)
  | [], _ => by
    show ev_okl (List.replicate n none)
    induction n with
    | zero => trivial
    | succ n ih => exact ih
  | .inr (.inl x) :: t, h => ⟨trivial, ev_okl_en n h.2⟩
  | .inl x :: t, h => ⟨trivial, ev_okl_en n h.2⟩
  | .inr (.inr o) :: t, h => ⟨h.1, ev_okl_en n h.2⟩
/-- an instance method, a static one, a constructor: what the tables say of it -/
def ev_Mb (k : ev_K) (n : Nat) : Prop := Cond.initialized k.2.1.cls ∈ ev_GW ∧ Cond.code k.2.1 k.1 k.2.2.1 k.2.2.2 ∈ ev_GW ∧ (k.2.1.cls ≠ "java/lang/invoke/MethodHandle" ∧ k.2.1.cls ≠ "java/lang/invoke/VarHandle") ∧ (parseMethodDescriptor k.2.1.desc).map (fun d => d.parameters.length) = some n
def ev_MI (k : ev_K) (n : Nat) : Prop := ev_Mb k n ∧ Cond.instanceMethod k.2.1 ∈ ev_GW ∧ Cond.selects k.2.1.cls k.2.1 k.2.1 ∈ ev_GW
def ev_MS (k : ev_K) (n : Nat) : Prop := ev_Mb k n ∧ Cond.static k.2.1 ∈ ev_GW
def ev_MC (k : ev_K) (n : Nat) : Prop := ev_Mb k n ∧ k.2.1.name = "<init>" ∧ Cond.instanceMethod k.2.1 ∈ ev_GW
section EVC
variable {G : ev_G} {k : ev_K} {b : ev_B} {u : Nat × Nat} {pc : Nat} {L : List (Option ev_V)} {st : List ev_V} {M : ev_M} {Q : Option ev_V → ev_M → Prop}
/-- a contract, from the body's run -/
theorem ev_Ct_of {vs : List ev_V} {L0 : List (Option ev_V)} (hp : plainName k.2.1.cls = true) (hL : ev_en vs ++ List.replicate (k.2.2.1 - (ev_en vs).length) none = L0) (hlen : (ev_en vs).length ≤ k.2.2.1) (kk : ev_E G k b (0, 0) 0 L0 [] M Q) : ev_Ct G k b vs M Q := by
  intro hok hM l
  refine Met.ofW (cc := k.1) (maxL := k.2.2.1) (ret := k.2.2.2) hp rfl ?_
  intro p e s m args below meth c s₁ B hml hv
  obtain ⟨rfl, hH, hK⟩ := hv
  have hts : ∀ w ∈ ev_ws k, w.before ((vs.map (ev_real G)).toArray) s = true := atoms_spec (ws := ev_ws k) B.pre
  rw [lg_entry_eq]
  have hl := lv_entry (vs.map (ev_real G)) (n := k.2.2.1) (by rw [ev_en_len]; exact hlen)
  generalize (lg_sl (vs.map (ev_real G)) ++ List.replicate (k.2.2.1 - (lg_sl (vs.map (ev_real G))).length) Slot.unset).toArray = ls at hl ⊢
  rw [← ev_en_al G (k.2.2.1 - (ev_en vs).length) vs 0, hL] at hl
  refine kk p l e _ s m _ below meth c s.heap [] ls _ ⟨B.exec, B.bytes, B.returns, hml, findClass_of_methodNamed B.named, fun w hw => hts w (List.mem_cons_of_mem _ hw), B.notSynchronized, (name_of_methodNamed B.named B.method).1, Nat.le_refl _, Nat.le_refl _, Nat.le_refl _, Nat.le_refl _, hK⟩ ?_ hH ?_ trivial hM ⟨Nat.le_refl _, fun _ _ _ => rfl, fun _ h => by cases h⟩ ⟨Nat.zero_le _, Nat.zero_le _⟩ hl
  · intro v M' H' locs' u' pc' ls' hQ hH' hM' hv hS hu1 hu2 hret
    have hq : ∀ (v' : Option Value), v' = v.map (ev_real G) → ∀ t : State, t.heap = H' → s.WarmedH t.vm → ev_Qc G Q ((vs.map (ev_real G)).toArray) s (.returned v') t := by
      intro v' hv' t ht _
      exact ⟨v, M', by rw [hv'], hQ, by rw [ht]; exact hH', hM', hv, by rw [ht]; exact hS.1⟩
    have hf : ∀ q ∈ locs', ev_AD G q.base := hS.2.2
    refine W.widen hu1 hu2 ?_
    match v, hret, hq with
    | none, hret, hq => exact W.vret B.exec B.bytes (B.returns.trans hret.2) (hq none rfl) hf hret.1 (hlocks := B.notSynchronized)
    | some (.inl x), hret, hq =>
      obtain ⟨d, ty, h1, h2⟩ := hret
      exact W.zret B.exec B.bytes (B.returns.trans h1) h2 (hq (some (.int x)) rfl) hf d (hlocks := B.notSynchronized)
    | some (.inr (.inl x)), hret, hq => exact W.lret B.exec B.bytes (B.returns.trans hret.2) (hq (some (.long x)) rfl) hf hret.1 (hlocks := B.notSynchronized)
    | some (.inr (.inr none)), hret, hq =>
      obtain ⟨d, n, h1⟩ := hret
      exact W.aret B.exec B.bytes (B.returns.trans h1) (Or.inl ⟨n, rfl⟩) (Or.inl rfl) (hq (some .null) rfl) hf d (hlocks := B.notSynchronized)
    | some (.inr (.inr (some q))), hret, hq =>
      obtain ⟨d, n, h1⟩ := hret
      exact W.aret B.exec B.bytes (B.returns.trans h1) (Or.inl ⟨n, rfl⟩) (Or.inr ⟨_, rfl⟩) (hq (some (.ref (ev_la G q.1 q.2))) rfl) hf d (hlocks := B.notSynchronized)
  · rw [← hL]
    exact ev_okl_en _ hok
theorem ev_blind {vs : List ev_V} : FrameBlind (va_Pc (vs.map (ev_real G)) (fun U => ev_Ho G M U.heap ∧ ev_Kn G U)) := fun _ U _ _ q => ⟨q.1, q.2.1, ev_Kn.same (s := U) rfl q.2.2⟩
theorem ev_wsG {k' : ev_K} {n : Nat} (hm : ev_Mb k' n) : GoodIn ev_GW (ev_ws k') := by
  intro w hw
  rcases List.mem_cons.mp hw with rfl | hw
  · exact ev_GW_good _ hm.2.1
  · exact ev_GW_good _ hw
theorem ev_cb {k' : ev_K} {b' : ev_B} {n idx : Nat} {p : Program} {R : Room} {s : State} {m : MethodId} {args : Array Value} {meth : Method} {c : Code} (F : ev_Fx G k b p R s m args meth c) (hl : Cond.methodLink k.2.1.cls idx k'.2.1 ∈ ev_GW) (hm : ev_Mb k' n) (hb1 : b'.1 + 1 ≤ b.1) (hb2 : 8 + (k'.2.2.1 + 11) + b'.2.1 ≤ b.2.1) :
    CallB R s args k.2.1.cls idx k'.2.1 k'.1 k'.2.2.1 k'.2.2.2 (ev_ws k') ({ frames := b'.1, cells := b'.2.2.1, slots := b'.2.2.2, locals := b'.2.1 }) b'.2.2.1 b'.2.2.2 n := by
  have hts := F.2.2.2.2.2.1
  refine ⟨rfl, rfl, Nat.le_trans hb1 F.2.2.2.2.2.2.2.2.1, Nat.le_trans hb2 F.2.2.2.2.2.2.2.2.2.1, pay_in hts (ev_wsG hm), List.mem_cons_self, hts _ hm.2.1, hts _ hm.1, hm.2.2.1, fun sig h => ?_, hts _ hl⟩
  have h2 := hm.2.2.2
  rw [h] at h2
  exact (Option.some.inj h2).symm
theorem ev_cn {k' : ev_K} {b' : ev_B} {n idx : Nat} {host : String} {p : Program} {R : Room} {s : State} {m : MethodId} {args : Array Value} {meth : Method} {c : Code} (F : ev_Fx G k b p R s m args meth c) (hl : (k.2.1.cls, idx, k'.2.1, host) ∈ ev_nm) (hm : ev_Mb k' n) (hb1 : b'.1 + 1 ≤ b.1) (hb2 : 8 + (k'.2.2.1 + 11) + b'.2.1 ≤ b.2.1) :
    va_CN R s args k.2.1.cls idx k'.2.1 host k'.1 k'.2.2.1 k'.2.2.2 (ev_ws k') ({ frames := b'.1, cells := b'.2.2.1, slots := b'.2.2.2, locals := b'.2.1 }) b'.2.2.1 b'.2.2.2 n := by
  have hts := F.2.2.2.2.2.1
  refine ⟨⟨rfl, rfl, Nat.le_trans hb1 F.2.2.2.2.2.2.2.2.1, Nat.le_trans hb2 F.2.2.2.2.2.2.2.2.2.1, pay_in hts (ev_wsG hm), List.mem_cons_self⟩, hts _ hm.2.1, hts _ hm.1, hm.2.2.1, fun sig h => ?_, va_Nw.use rfl (F.2.2.2.2.2.2.2.2.2.2.2.2.2.2.2.2.2.2.2.2.1 _ hl)⟩
  have h2 := hm.2.2.2
  rw [h] at h2
  exact (Option.some.inj h2).symm
/-- what a call leaves is taken up -/
theorem ev_after {Q' : Option ev_V → ev_M → Prop} {mc ms : Nat} {a : Array Value} {st0 : List ev_V} {p : Program} {l : Launch} {e : Env} {R : Room} {s : State} {m : MethodId} {args : Array Value} {below : List Frame} {meth : Method} {c : Code} {H : Heap} {locs : List Loc} {ls : Array Slot} {Z : State → Prop}
    (F : ev_Fx G k b p R s m args meth c) (RT : ev_Rt G k b p l e R s m args below meth c Z Q) (hH : ev_Ho G M H) (h1 : ev_okl L) (h2 : ev_oks st) (hS : va_S (ev_AD G) s.heap H locs) (hl : lv_has ls k.2.2.1 (ev_al G 0 L)) (hb3 : u.1 + mc ≤ b.2.2.1) (hb4 : u.2 + ms ≤ b.2.2.2)
    (hrun : va_Run p l e R s m args below meth c H locs u.1 u.2 mc ms (F0 m pc ls (st0.map (ev_real G))) (st.map (ev_real G)) (ev_Qc G Q' a) (ev_AD G))
    (kk : ∀ (v : Option ev_V) (M' : ev_M), Q' v M' → ev_E G k b (u.1 + mc, u.2 + ms) (pc + 3) L (v.toList ++ st) M' Q) : W p l e R s m args below meth c H locs u.1 u.2 Z (F0 m pc ls (st0.map (ev_real G))) := by
  intro T hT X
  obtain ⟨v, st₀, t, T', Lc, h0, X', hL, e1, e2, ⟨v', M', hv, hQ', hH', hM', hvok, hsz⟩, stp⟩ := hrun T hT X
  have hv2 : v = v'.map (ev_real G) := by injection hv
  subst hv2
  have hst : ev_oks (v'.toList ++ st) := by
    cases v' with
    | none => exact h2
    | some w => exact ⟨hvok w rfl, h2⟩
  have hS' : va_S (ev_AD G) s.heap T'.heap (locs ++ Lc) := by
    refine ⟨?_, fun q h3 h4 => ?_, fun q hq => ?_⟩
    · rw [e1]
      rw [h0] at hsz
      exact Nat.le_trans hS.1 hsz
    · have hq : q < ev_base G := Nat.not_le.mp h4
      rw [e1, hH'.2.1 q hq, ← hH.2.1 q hq]
      exact hS.2.1 q h3 h4
    · rcases List.mem_append.mp hq with h | h
      · exact hS.2.2 q h
      · exact hL q h
  obtain ⟨t2, a1, b1⟩ := kk v' M' hQ' p l e R s m args below meth c T'.heap (locs ++ Lc) ls Z F RT (by rw [e1]; exact hH') h1 hst hM' hS' ⟨hb3, hb4⟩ hl T' rfl X'
  refine ⟨t2, stp t2 ?_, b1⟩
  have e3 : (v'.toList ++ st).map (ev_real G) = (v'.map (ev_real G)).toList ++ st.map (ev_real G) := by
    cases v' <;> simp
  rw [e3] at a1
  exact a1
theorem ev_callV {k' : ev_K} {b' : ev_B} {r i ci n idx : Nat} {As : List ev_V} {Q' : Option ev_V → ev_M → Prop} (hl : Cond.methodLink k.2.1.cls idx k'.2.1 ∈ ev_GW) (hm : ev_MI k' n) (hr : ev_rk r = .inl ci) (hci : ev_cC ci = k'.2.1.cls) (hn : As.length = n) (d : decode k.1 pc = .ok (.invokevirtual idx, 3)) (ha : ev_od r i < M.2.2.2) (hb : (b'.1 + 1 ≤ b.1 ∧ 8 + (k'.2.2.1 + 11) + b'.2.1 ≤ b.2.1) ∧ u.1 + b'.2.2.1 ≤ b.2.2.1 ∧ u.2 + b'.2.2.2 ≤ b.2.2.2) (hs : ev_cats st ≤ 8)
    (hC : ev_Ct G k' b' (vr r i :: As) M Q') (kk : ∀ (v : Option ev_V) (M' : ev_M), Q' v M' → ev_E G k b (u.1 + b'.2.2.1, u.2 + b'.2.2.2) (pc + 3) L (v.toList ++ st) M' Q) : ev_E G k b u pc L (As.reverse ++ vr r i :: st) M Q := by
  intro p l e R s m args below meth c H locs ls Z F RT hH h1 h2 h3 hS hu hlv
  obtain ⟨g1, g2⟩ := ev_oks_app.mp h2
  have hM := hC ⟨g2.1, ev_oks_rev.mp g1⟩ h3 l
  have hts := F.2.2.2.2.2.1
  have hK := F.2.2.2.2.2.2.2.2.2.2.2.2
  obtain ⟨c1, c2, c3⟩ := ev_rk_cls hr
  refine ev_after F RT hH h1 g2.2 hS hlv hb.2.1 hb.2.2 (a := (Value.ref (ev_la G r i) :: As.map (ev_real G)).toArray) ?_ kk
  refine va_runV (As := As.map (ev_real G)) (b := ev_la G r i) (C := k'.2.1.cls) (own := k.2.1.cls) (Ts := ev_GW) ⟨F.1, F.2.1, F.2.2.2.1, F.2.2.2.2.1, hts⟩ hM ⟨ev_cb F hl hm.1 hb.1.1 hb.1.2, hts _ hm.2.1, hts _ hm.2.2⟩ ⟨ev_blind, ?_, fun U hU hW => ⟨rfl, by rw [hU]; exact hH, ev_Kn.warm hW hK⟩⟩ rfl (by rw [List.length_map]; exact hn) hlv.1 ?_ (by rw [ev_cats_real]; show 2 * 0 + _ ≤ 8; omega) d ⟨Nat.le_trans hb.2.1 F.2.2.2.2.2.2.2.2.2.2.1, Nat.le_trans hb.2.2 F.2.2.2.2.2.2.2.2.2.2.2.1⟩
  · obtain ⟨cell, q1, q2, q3, -⟩ := ev_obj hr hH g2.1 ha
    refine ⟨cell, q1, by rw [q3]; rfl, ?_⟩
    rw [← hci, q2]
    exact (hK.1.1 ci _ (ev_cl_at c1)).2.1
  · show (As.reverse ++ vr r i :: st).map (ev_real G) = _
    rw [List.map_append, List.map_reverse, List.map_cons]
    rfl
theorem ev_callS {k' : ev_K} {b' : ev_B} {n idx : Nat} {As : List ev_V} {Q' : Option ev_V → ev_M → Prop} (hl : Cond.methodLink k.2.1.cls idx k'.2.1 ∈ ev_GW) (hm : ev_MS k' n) (hn : As.length = n) (d : decode k.1 pc = .ok (.invokestatic idx, 3)) (hb : (b'.1 + 1 ≤ b.1 ∧ 8 + (k'.2.2.1 + 11) + b'.2.1 ≤ b.2.1) ∧ u.1 + b'.2.2.1 ≤ b.2.2.1 ∧ u.2 + b'.2.2.2 ≤ b.2.2.2) (hs : ev_cats st ≤ 8)
    (hC : ev_Ct G k' b' As M Q') (kk : ∀ (v : Option ev_V) (M' : ev_M), Q' v M' → ev_E G k b (u.1 + b'.2.2.1, u.2 + b'.2.2.2) (pc + 3) L (v.toList ++ st) M' Q) : ev_E G k b u pc L (As.reverse ++ st) M Q := by
  intro p l e R s m args below meth c H locs ls Z F RT hH h1 h2 h3 hS hu hlv
  obtain ⟨g1, g2⟩ := ev_oks_app.mp h2
  have hM := hC (ev_oks_rev.mp g1) h3 l
  have hts := F.2.2.2.2.2.1
  have hK := F.2.2.2.2.2.2.2.2.2.2.2.2
  refine ev_after F RT hH h1 g2 hS hlv hb.2.1 hb.2.2 (a := (As.map (ev_real G)).toArray) ?_ kk
  refine va_runS (As := As.map (ev_real G)) (own := k.2.1.cls) (Ts := ev_GW) ⟨F.1, F.2.1, F.2.2.2.1, F.2.2.2.2.1, hts⟩ hM ⟨ev_cb F hl hm.1 hb.1.1 hb.1.2, hts _ hm.2⟩ ⟨ev_blind, fun U hU hW => ⟨rfl, by rw [hU]; exact hH, ev_Kn.warm hW hK⟩⟩ rfl (by rw [List.length_map]; exact hn) hlv.1 ?_ (by rw [ev_cats_real]; show 2 * 0 + _ ≤ 8; omega) d ⟨Nat.le_trans hb.2.1 F.2.2.2.2.2.2.2.2.2.2.1, Nat.le_trans hb.2.2 F.2.2.2.2.2.2.2.2.2.2.2.1⟩
  show (As.reverse ++ st).map (ev_real G) = _
  rw [List.map_append, List.map_reverse]
theorem ev_callSN {k' : ev_K} {b' : ev_B} {n idx : Nat} {host : String} {As : List ev_V} {Q' : Option ev_V → ev_M → Prop} (hl : (k.2.1.cls, idx, k'.2.1, host) ∈ ev_nm) (hm : ev_MS k' n) (hn : As.length = n) (d : decode k.1 pc = .ok (.invokestatic idx, 3)) (hb : (b'.1 + 1 ≤ b.1 ∧ 8 + (k'.2.2.1 + 11) + b'.2.1 ≤ b.2.1) ∧ u.1 + b'.2.2.1 ≤ b.2.2.1 ∧ u.2 + b'.2.2.2 ≤ b.2.2.2) (hs : ev_cats st ≤ 8)
    (hC : ev_Ct G k' b' As M Q') (kk : ∀ (v : Option ev_V) (M' : ev_M), Q' v M' → ev_E G k b (u.1 + b'.2.2.1, u.2 + b'.2.2.2) (pc + 3) L (v.toList ++ st) M' Q) : ev_E G k b u pc L (As.reverse ++ st) M Q := by
  intro p l e R s m args below meth c H locs ls Z F RT hH h1 h2 h3 hS hu hlv
  obtain ⟨g1, g2⟩ := ev_oks_app.mp h2
  have hM := hC (ev_oks_rev.mp g1) h3 l
  have hts := F.2.2.2.2.2.1
  have hK := F.2.2.2.2.2.2.2.2.2.2.2.2
  refine ev_after F RT hH h1 g2 hS hlv hb.2.1 hb.2.2 (a := (As.map (ev_real G)).toArray) ?_ kk
  refine va_runSN (As := As.map (ev_real G)) (own := k.2.1.cls) (Ts := ev_GW) ⟨F.1, F.2.1, F.2.2.2.1, F.2.2.2.2.1, hts⟩ hM ⟨ev_cn F hl hm.1 hb.1.1 hb.1.2, hts _ hm.2, trivial⟩ ⟨ev_blind, fun U hU hW => ⟨rfl, by rw [hU]; exact hH, ev_Kn.warm hW hK⟩⟩ rfl (by rw [List.length_map]; exact hn) hlv.1 ?_ (by rw [ev_cats_real]; show 2 * 0 + _ ≤ 8; omega) d ⟨Nat.le_trans hb.2.1 F.2.2.2.2.2.2.2.2.2.2.1, Nat.le_trans hb.2.2 F.2.2.2.2.2.2.2.2.2.2.2.1⟩
  show (As.reverse ++ st).map (ev_real G) = _
  rw [List.map_append, List.map_reverse]
theorem ev_callC {k' : ev_K} {b' : ev_B} {r i n idx : Nat} {As : List ev_V} {Q' : Option ev_V → ev_M → Prop} (hl : Cond.methodLink k.2.1.cls idx k'.2.1 ∈ ev_GW) (hm : ev_MC k' n) (hret : k'.2.2.2 = none) (hn : As.length = n) (d : decode k.1 pc = .ok (.invokespecial idx, 3)) (hb : (b'.1 + 1 ≤ b.1 ∧ 8 + (k'.2.2.1 + 11) + b'.2.1 ≤ b.2.1) ∧ u.1 + b'.2.2.1 ≤ b.2.2.1 ∧ u.2 + b'.2.2.2 ≤ b.2.2.2) (hs : ev_cats st ≤ 8)
    (hC : ev_Ct G k' b' (vr r i :: As) M Q') (kk : ∀ (v : Option ev_V) (M' : ev_M), Q' v M' → ev_E G k b (u.1 + b'.2.2.1, u.2 + b'.2.2.2) (pc + 3) L (v.toList ++ st) M' Q) : ev_E G k b u pc L (As.reverse ++ vr r i :: st) M Q := by
  intro p l e R s m args below meth c H locs ls Z F RT hH h1 h2 h3 hS hu hlv
  obtain ⟨g1, g2⟩ := ev_oks_app.mp h2
  have hM := hC ⟨g2.1, ev_oks_rev.mp g1⟩ h3 l
  have hts := F.2.2.2.2.2.1
  have hK := F.2.2.2.2.2.2.2.2.2.2.2.2
  refine ev_after F RT hH h1 g2.2 hS hlv hb.2.1 hb.2.2 (a := (Value.ref (ev_la G r i) :: As.map (ev_real G)).toArray) ?_ kk
  refine va_runI (As := As.map (ev_real G)) (b := ev_la G r i) (own := k.2.1.cls) (Ts := ev_GW) ⟨F.1, F.2.1, F.2.2.2.1, F.2.2.2.2.1, hts⟩ hM ⟨by rw [← hret]; exact ev_cb F hl hm.1 hb.1.1 hb.1.2, hm.2.1, hts _ hm.2.2⟩ ⟨ev_blind, fun U hU hW => ⟨rfl, by rw [hU]; exact hH, ev_Kn.warm hW hK⟩⟩ rfl (by rw [List.length_map]; exact hn) hlv.1 ?_ (by rw [ev_cats_real]; show 2 * 0 + _ ≤ 8; omega) d ⟨Nat.le_trans hb.2.1 F.2.2.2.2.2.2.2.2.2.2.1, Nat.le_trans hb.2.2 F.2.2.2.2.2.2.2.2.2.2.2.1⟩
  show (As.reverse ++ vr r i :: st).map (ev_real G) = _
  rw [List.map_append, List.map_reverse, List.map_cons]
  rfl
theorem ev_callCN {k' : ev_K} {b' : ev_B} {r i n idx : Nat} {host : String} {As : List ev_V} {Q' : Option ev_V → ev_M → Prop} (hl : (k.2.1.cls, idx, k'.2.1, host) ∈ ev_nm) (hm : ev_MC k' n) (hret : k'.2.2.2 = none) (hn : As.length = n) (d : decode k.1 pc = .ok (.invokespecial idx, 3)) (hb : (b'.1 + 1 ≤ b.1 ∧ 8 + (k'.2.2.1 + 11) + b'.2.1 ≤ b.2.1) ∧ u.1 + b'.2.2.1 ≤ b.2.2.1 ∧ u.2 + b'.2.2.2 ≤ b.2.2.2) (hs : ev_cats st ≤ 8)
    (hC : ev_Ct G k' b' (vr r i :: As) M Q') (kk : ∀ (v : Option ev_V) (M' : ev_M), Q' v M' → ev_E G k b (u.1 + b'.2.2.1, u.2 + b'.2.2.2) (pc + 3) L (v.toList ++ st) M' Q) : ev_E G k b u pc L (As.reverse ++ vr r i :: st) M Q := by
  intro p l e R s m args below meth c H locs ls Z F RT hH h1 h2 h3 hS hu hlv
  obtain ⟨g1, g2⟩ := ev_oks_app.mp h2
  have hM := hC ⟨g2.1, ev_oks_rev.mp g1⟩ h3 l
  have hts := F.2.2.2.2.2.1
  have hK := F.2.2.2.2.2.2.2.2.2.2.2.2
  refine ev_after F RT hH h1 g2.2 hS hlv hb.2.1 hb.2.2 (a := (Value.ref (ev_la G r i) :: As.map (ev_real G)).toArray) ?_ kk
  refine va_runIN (As := As.map (ev_real G)) (b := ev_la G r i) (own := k.2.1.cls) (Ts := ev_GW) ⟨F.1, F.2.1, F.2.2.2.1, F.2.2.2.2.1, hts⟩ hM ⟨by rw [← hret]; exact ev_cn F hl hm.1 hb.1.1 hb.1.2, hm.2.1, hts _ hm.2.2⟩ ⟨ev_blind, fun U hU hW => ⟨rfl, by rw [hU]; exact hH, ev_Kn.warm hW hK⟩⟩ rfl (by rw [List.length_map]; exact hn) hlv.1 ?_ (by rw [ev_cats_real]; show 2 * 0 + _ ≤ 8; omega) d ⟨Nat.le_trans hb.2.1 F.2.2.2.2.2.2.2.2.2.2.1, Nat.le_trans hb.2.2 F.2.2.2.2.2.2.2.2.2.2.2.1⟩
  show (As.reverse ++ vr r i :: st).map (ev_real G) = _
  rw [List.map_append, List.map_reverse, List.map_cons]
  rfl
/-! what the JDK does by itself -/
theorem ev_mw {w : Cond} {p : Program} {R : Room} {s : State} {m : MethodId} {args : Array Value} {meth : Method} {c : Code} (F : ev_Fx G k b p R s m args meth c) (h : w ∈ ev_GW) : w.before args s = true := F.2.2.2.2.2.1 _ h
theorem ev_mmax {x y : Int32} {idx : Nat} (hl : Cond.methodLink k.2.1.cls idx Lib.Math.max.name ∈ ev_GW) (hw : Cond.static Lib.Math.max.name ∈ ev_GW ∧ Cond.initialized "java/lang/Math" ∈ ev_GW ∧ Cond.code Lib.Math.max.name Lib.Math.max.code 2 (some .int) ∈ ev_GW) (hb : 1 ≤ b.1 ∧ 21 ≤ b.2.1) (hs : ev_cats st ≤ 8) (d : decode k.1 pc = .ok (.invokestatic idx, 3)) (kk : ev_E G k b u (pc + 3) L (vi (if x < y then y else x) :: st) M Q) : ev_E G k b u pc L (vi y :: vi x :: st) M Q := by
  intro p l e R s m args below meth c H locs ls Z F RT hH h1 h2 h3 hS hu hlv
  exact va_mmax F.1 F.2.1 (F.2.2.2.1.trans hlv.1.symm) F.2.2.2.2.1 (ev_mw F hl) (ev_mw F hw.1) (ev_mw F hw.2.1) (ev_mw F hw.2.2) (Nat.le_trans hb.1 F.2.2.2.2.2.2.2.2.1) (by rw [ev_cats_real]; have := F.2.2.2.2.2.2.2.2.2.1; omega) (Nat.le_trans hu.1 F.2.2.2.2.2.2.2.2.2.2.1) (Nat.le_trans hu.2 F.2.2.2.2.2.2.2.2.2.2.2.1) d (kk p l e R s m args below meth c H locs ls Z F RT hH h1 ⟨trivial, h2.2.2⟩ h3 hS hu hlv)
theorem ev_mmin {x y : Int32} {idx : Nat} (hl : Cond.methodLink k.2.1.cls idx Lib.Math.min.name ∈ ev_GW) (hw : Cond.static Lib.Math.min.name ∈ ev_GW ∧ Cond.initialized "java/lang/Math" ∈ ev_GW ∧ Cond.code Lib.Math.min.name Lib.Math.min.code 2 (some .int) ∈ ev_GW) (hb : 1 ≤ b.1 ∧ 21 ≤ b.2.1) (hs : ev_cats st ≤ 8) (d : decode k.1 pc = .ok (.invokestatic idx, 3)) (kk : ev_E G k b u (pc + 3) L (vi (if y < x then y else x) :: st) M Q) : ev_E G k b u pc L (vi y :: vi x :: st) M Q := by
  intro p l e R s m args below meth c H locs ls Z F RT hH h1 h2 h3 hS hu hlv
  exact va_mmin F.1 F.2.1 (F.2.2.2.1.trans hlv.1.symm) F.2.2.2.2.1 (ev_mw F hl) (ev_mw F hw.1) (ev_mw F hw.2.1) (ev_mw F hw.2.2) (Nat.le_trans hb.1 F.2.2.2.2.2.2.2.2.1) (by rw [ev_cats_real]; have := F.2.2.2.2.2.2.2.2.2.1; omega) (Nat.le_trans hu.1 F.2.2.2.2.2.2.2.2.2.2.1) (Nat.le_trans hu.2 F.2.2.2.2.2.2.2.2.2.2.2.1) d (kk p l e R s m args below meth c H locs ls Z F RT hH h1 ⟨trivial, h2.2.2⟩ h3 hS hu hlv)
theorem ev_mabs {x : Int32} {idx : Nat} (hl : Cond.methodLink k.2.1.cls idx Lib.Math.abs.name ∈ ev_GW) (hw : Cond.static Lib.Math.abs.name ∈ ev_GW ∧ Cond.initialized "java/lang/Math" ∈ ev_GW ∧ Cond.code Lib.Math.abs.name Lib.Math.abs.code 1 (some .int) ∈ ev_GW) (hb : 1 ≤ b.1 ∧ 21 ≤ b.2.1) (hs : ev_cats st ≤ 8) (d : decode k.1 pc = .ok (.invokestatic idx, 3)) (kk : ev_E G k b u (pc + 3) L (vi (if 0 ≤ x then x else 0 - x) :: st) M Q) : ev_E G k b u pc L (vi x :: st) M Q := by
  intro p l e R s m args below meth c H locs ls Z F RT hH h1 h2 h3 hS hu hlv
  exact va_mabs F.1 F.2.1 (F.2.2.2.1.trans hlv.1.symm) F.2.2.2.2.1 (ev_mw F hl) (ev_mw F hw.1) (ev_mw F hw.2.1) (ev_mw F hw.2.2) (Nat.le_trans hb.1 F.2.2.2.2.2.2.2.2.1) (by rw [ev_cats_real]; have := F.2.2.2.2.2.2.2.2.2.1; omega) (Nat.le_trans hu.1 F.2.2.2.2.2.2.2.2.2.2.1) (Nat.le_trans hu.2 F.2.2.2.2.2.2.2.2.2.2.2.1) d (kk p l e R s m args below meth c H locs ls Z F RT hH h1 ⟨trivial, h2.2⟩ h3 hS hu hlv)
theorem ev_mminl {x y : Int64} {idx : Nat} (hl : Cond.methodLink k.2.1.cls idx Lib.MathLoose.min_long.x ∈ ev_GW) (hw : Cond.static Lib.MathLoose.min_long.x ∈ ev_GW ∧ Cond.initialized "java/lang/Math" ∈ ev_GW ∧ Cond.code Lib.MathLoose.min_long.x Lib.MathLoose.min_long.code 4 (some .long) ∈ ev_GW) (hb : 1 ≤ b.1 ∧ 23 ≤ b.2.1) (hs : ev_cats st ≤ 8) (d : decode k.1 pc = .ok (.invokestatic idx, 3)) (kk : ev_E G k b u (pc + 3) L (vl (if y < x then y else x) :: st) M Q) : ev_E G k b u pc L (vl y :: vl x :: st) M Q := by
  intro p l e R s m args below meth c H locs ls Z F RT hH h1 h2 h3 hS hu hlv
  exact va_mmin_long F.1 F.2.1 (F.2.2.2.1.trans hlv.1.symm) F.2.2.2.2.1 (ev_mw F hl) (ev_mw F hw.1) (ev_mw F hw.2.1) (ev_mw F hw.2.2) (Nat.le_trans hb.1 F.2.2.2.2.2.2.2.2.1) (by rw [ev_cats_real]; have := F.2.2.2.2.2.2.2.2.2.1; omega) (Nat.le_trans hu.1 F.2.2.2.2.2.2.2.2.2.2.1) (Nat.le_trans hu.2 F.2.2.2.2.2.2.2.2.2.2.2.1) d (kk p l e R s m args below meth c H locs ls Z F RT hH h1 ⟨trivial, h2.2.2⟩ h3 hS hu hlv)
theorem ev_mabsl {x : Int64} {idx : Nat} (hl : Cond.methodLink k.2.1.cls idx Lib.MathLoose.abs_long.x ∈ ev_GW) (hw : Cond.static Lib.MathLoose.abs_long.x ∈ ev_GW ∧ Cond.initialized "java/lang/Math" ∈ ev_GW ∧ Cond.code Lib.MathLoose.abs_long.x Lib.MathLoose.abs_long.code 2 (some .long) ∈ ev_GW) (hb : 1 ≤ b.1 ∧ 23 ≤ b.2.1) (hs : ev_cats st ≤ 8) (d : decode k.1 pc = .ok (.invokestatic idx, 3)) (kk : ev_E G k b u (pc + 3) L (vl (if 0 < x then x else -x) :: st) M Q) : ev_E G k b u pc L (vl x :: st) M Q := by
  intro p l e R s m args below meth c H locs ls Z F RT hH h1 h2 h3 hS hu hlv
  exact va_mabs_long F.1 F.2.1 (F.2.2.2.1.trans hlv.1.symm) F.2.2.2.2.1 (ev_mw F hl) (ev_mw F hw.1) (ev_mw F hw.2.1) (ev_mw F hw.2.2) (Nat.le_trans hb.1 F.2.2.2.2.2.2.2.2.1) (by rw [ev_cats_real]; have := F.2.2.2.2.2.2.2.2.2.1; omega) (Nat.le_trans hu.1 F.2.2.2.2.2.2.2.2.2.2.1) (Nat.le_trans hu.2 F.2.2.2.2.2.2.2.2.2.2.2.1) d (kk p l e R s m args below meth c H locs ls Z F RT hH h1 ⟨trivial, h2.2⟩ h3 hS hu hlv)
/-- a row of memory is written as a whole -/
def ev_pr (M : ev_M) (r i : Nat) (g : Nat → Int32) : ev_M := (ev_w M.1 r i g, M.2)
theorem ev_vo_pr {r i : Nat} {g : Nat → Int32} (hk : ∀ j, ev_fk r j = 0) (a c d : Nat) : ev_vo (ev_pr M r i g) a c d = if a = r ∧ c = i then vi (g d) else ev_vo M a c d := by
  by_cases e : a = r ∧ c = i
  · rw [if_pos e]
    obtain ⟨rfl, rfl⟩ := e
    unfold ev_vo
    rw [hk]
    show vi (if _ then _ else _) = _
    rw [if_pos ⟨rfl, rfl⟩]
  · rw [if_neg e]
    unfold ev_vo
    have h1 : (ev_pr M r i g).1 a c d = M.1 a c d := if_neg e
    rw [h1]
    rfl
/-- System.arraycopy from place 0 to place 0 between two arrays of ints (of bytes) -/
theorem ev_copy {r i r' i' : Nat} {n : Int32} {t idx : Nat} (ht : t < 2) (hr : ev_rk r = .inr t) (hr' : ev_rk r' = .inr t) (h60 : r < 23) (h60' : r' < 23) (hn : ¬ n < 0) (hn1 : n.toNatClampNeg ≤ ev_len r) (hn2 : n.toNatClampNeg ≤ ev_len r') (h11 : r = 11 ↔ r' = 11) (hl : Cond.methodLink k.2.1.cls idx arraycopyName ∈ ev_GW) (hw : Cond.native arraycopyName ∈ ev_GW ∧ Cond.static arraycopyName ∈ ev_GW ∧ Cond.initialized "java/lang/System" ∈ ev_GW) (hb : 1 ≤ b.1 ∧ 8 + (nativeFrameWords "java/lang/System" "arraycopy" 5 + 11) ≤ b.2.1) (hs : ev_cats st ≤ 8) (ha : ev_od r i < M.2.2.2) (ha' : ev_od r' i' < M.2.2.2) (d : decode k.1 pc = .ok (.invokestatic idx, 3)) (hty : t = 1 → r = 11)
    (kk : ev_E G k b u (pc + 3) L st (ev_pr M r' i' (va_cpy (M.1 r i) (M.1 r' i') 0 0 n.toNatClampNeg)) Q) : ev_E G k b u pc L (vi n :: vi 0 :: vr r' i' :: vi 0 :: vr r i :: st) M Q := by
  intro p l e R s m args below meth c H locs ls Z F RT hH h1 h2 h3 hS hu hlv
  obtain ⟨t1, t2, hc0⟩ := ev_arr hr (by omega) hH h2.2.2.2.2.1 ha
  obtain ⟨-, t2', hc1⟩ := ev_arr hr' (by omega) hH h2.2.2.1 ha'
  have hK := F.2.2.2.2.2.2.2.2.2.2.2.2
  have hfk : ∀ j, ev_fk r j = 0 := ev_fk_arr hr (Or.inl h60)
  have hfk' : ∀ j, ev_fk r' j = 0 := ev_fk_arr hr' (Or.inl h60')
  have e0 : (fun j => ev_real G (ev_vo M r i j)) = fun j => .int (M.1 r i j) := by funext j; rw [ev_voi (hfk j)]; rfl
  have e1 : (fun j => ev_real G (ev_vo M r' i' j)) = fun j => .int (M.1 r' i' j) := by funext j; rw [ev_voi (hfk' j)]; rfl
  rw [e0] at hc0
  rw [e1] at hc1
  have nn : ∀ z : Int32, ¬ z < 0 → z.toInt = (z.toNatClampNeg : Int) := by
    intro z hz
    have hz0 : (0 : Int) ≤ z.toInt := by
      have := Int32.not_lt.mp hz
      simpa using Int32.le_iff_toInt_le.mp this
    show z.toInt = ((z.toInt.toNat : Nat) : Int)
    omega
  have ht8 : t < 8 := by omega
  have hprim : refKind (ev_ty t) = false := by
    match t, ht with
    | 0, _ => rfl
    | 1, _ => rfl
  have z0 : (0 : Int32).toNatClampNeg = 0 := by decide
  obtain ⟨-, k0, hk0, cm0, hkk0⟩ := ev_arrT hK ht8 (ev_len r) (fun j => .int (M.1 r i j))
  obtain ⟨-, k1, hk1, cm1, hkk1⟩ := ev_arrT hK ht8 (ev_len r') (fun j => .int (M.1 r' i' j))
  intro T hT X
  obtain ⟨vm', X', step⟩ := X.arraycopy F.1 F.2.2.2.2.1 (ev_mw F hl) (ev_mw F hw.1) (ev_mw F hw.2.1) (ev_mw F hw.2.2) (src := ev_la G r i) (dst := ev_la G r' i') (cs := vp_cell (ev_ca G t) (ev_len r, .inl (M.1 r i))) (cd := vp_cell (ev_ca G t) (ev_len r', .inl (M.1 r' i'))) (srcPos := 0) (destPos := 0) (n := n) (by rw [hT]; exact hc0) (by rw [hT]; exact hc1)
    (fun _ h => by cases h) (fun _ h => by cases h) (fun h => by cases h) (fun h => by cases h) hk0 hk1 hkk0 hkk1 (by simp [hprim]) (by decide) (by decide) hn
    (by rw [nn n hn]; show ¬ _ > ((arrV (ev_ca G t) (ev_len r) (fun j => .int (M.1 r i j))).slots.size : Int); rw [arrV_size]; simp; omega)
    (by rw [nn n hn]; show ¬ _ > ((arrV (ev_ca G t) (ev_len r') (fun j => .int (M.1 r' i' j))).slots.size : Int); rw [arrV_size]; simp; omega)
    (fun vm₁ _ j hj => by
      have e : (vp_cell (ev_ca G t) (ev_len r, .inl (M.1 r i))).slots.getD ((0 : Int32).toNatClampNeg + j) .null = .int (M.1 r i j) := by
        show (arrV (ev_ca G t) (ev_len r) (fun j => .int (M.1 r i j))).slots.getD _ _ = _
        rw [z0, Nat.zero_add, Array.getD_eq_getD_getElem?, arrV_read _ _ (by omega)]
        rfl
      rw [e]
      refine ⟨?_, trivial⟩
      match t, ht with
      | 0, _ => rfl
      | 1, _ =>
        have := hty rfl
        subst this
        exact h3.2.2.1 i j)
    (g := F0 m pc ls ((vi n :: vi 0 :: vr r' i' :: vi 0 :: vr r i :: st).map (ev_real G))) rfl (by rw [F.2.2.2.1]; exact hlv.1) (rest := st.map (ev_real G)) rfl (by rw [F.2.1]; exact d) (Nat.le_trans hb.1 F.2.2.2.2.2.2.2.2.1) (by rw [ev_cats_real]; have := F.2.2.2.2.2.2.2.2.2.1; have := hb.2; show 2 * 0 + _ + _ ≤ _; omega)
  have ec : copied (vp_cell (ev_ca G t) (ev_len r, .inl (M.1 r i))) (vp_cell (ev_ca G t) (ev_len r', .inl (M.1 r' i'))) 0 0 n = vp_cell (ev_ca G t) (ev_len r', .inl (va_cpy (M.1 r i) (M.1 r' i') 0 0 n.toNatClampNeg)) := va_copied (fun z => .int z) (ev_ca G t) (ev_ca G t) (M.1 r i) (M.1 r' i') (by rw [z0]; omega)
  rw [ec] at X' step
  have hlt : ev_la G r' i' < H.size := (Array.getElem?_eq_some_iff.mp hc1).1
  have hheap : ((T.setVm vm').setCell (ev_la G r' i') (vp_cell (ev_ca G t) (ev_len r', .inl (va_cpy (M.1 r i) (M.1 r' i') 0 0 n.toNatClampNeg)))).heap = H.setIfInBounds (ev_la G r' i') (vp_cell (ev_ca G t) (ev_len r', .inl (va_cpy (M.1 r i) (M.1 r' i') 0 0 n.toNatClampNeg))) := by rw [← hT]; rfl
  have oq : ∀ q : Nat, q ≠ ev_la G r' i' → (H.setIfInBounds (ev_la G r' i') (vp_cell (ev_ca G t) (ev_len r', .inl (va_cpy (M.1 r i) (M.1 r' i') 0 0 n.toNatClampNeg))))[q]? = H[q]? := fun q hq => by simp [Array.getElem?_setIfInBounds, Ne.symm hq]
  have hHo : ev_Ho G (ev_pr M r' i' (va_cpy (M.1 r i) (M.1 r' i') 0 0 n.toNatClampNeg)) (H.setIfInBounds (ev_la G r' i') (vp_cell (ev_ca G t) (ev_len r', .inl (va_cpy (M.1 r i) (M.1 r' i') 0 0 n.toNatClampNeg)))) := by
    refine ev_Ho_put (r := r') (i := i') (by omega) t2' hH (fun a c h d => ?_) rfl ?_ (by simp) oq
    · rw [ev_vo_pr hfk', if_neg h]
    · unfold ev_cell
      rw [hr']
      show _ = some _
      rw [show (H.setIfInBounds (ev_la G r' i') (vp_cell (ev_ca G t) (ev_len r', .inl (va_cpy (M.1 r i) (M.1 r' i') 0 0 n.toNatClampNeg))))[ev_la G r' i']? = some (vp_cell (ev_ca G t) (ev_len r', .inl (va_cpy (M.1 r i) (M.1 r' i') 0 0 n.toNatClampNeg))) by simp [Array.getElem?_setIfInBounds, hlt], vp_cell_i]
      congr 2
      funext j
      rw [ev_vo_pr hfk', if_pos ⟨rfl, rfl⟩]
      rfl
  have hMok : ev_okM (ev_pr M r' i' (va_cpy (M.1 r i) (M.1 r' i') 0 0 n.toNatClampNeg)) := by
    refine ⟨h3.1, fun z c hz => ?_, fun a c => ?_, h3.2.2.2⟩
    · show (if _ then _ else _) = _
      rw [if_neg (fun q => by omega)]
      exact h3.2.1 z c hz
    · show fits .byte (.int (if _ then _ else _)) = true
      by_cases e : 11 = r' ∧ a = i'
      · rw [if_pos e]
        have hr11 := h11.mpr e.1.symm
        subst hr11
        unfold va_cpy
        split
        · exact h3.2.2.1 _ _
        · rw [← e.1]
          exact h3.2.2.1 _ _
      · rw [if_neg e]
        exact h3.2.2.1 a c
  obtain ⟨t9, a1, b1⟩ := kk p l e R s m args below meth c _ _ ls Z F RT hHo h1 h2.2.2.2.2.2 hMok ⟨by simp; exact hS.1, fun q g1 g2 => by
      rw [oq q (fun e => g2 (by rw [e]; exact ev_la_ge (by omega)))]
      exact hS.2.1 q g1 g2, fun q hq => by
      rcases List.mem_append.mp hq with h | h
      · exact hS.2.2 q h
      · obtain ⟨z, -, hz⟩ := List.mem_map.mp h
        rw [← hz]
        exact ev_la_ge (by omega)⟩ hu hlv _ hheap X'
  exact ⟨t9, step t9 a1, b1⟩
end EVC
