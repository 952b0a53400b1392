/-! what the constructors leave -/
theorem ev_arrV_to {c N : Nat} {f g : Nat → Value} (h : ∀ k, k < N → f k = g k) : arrV c N f = arrV c N g := by
  have e : (fun j : Fin N => f j.val) = (fun j : Fin N => g j.val) := funext fun j => h j.val j.isLt
  unfold arrV
  rw [e]
theorem ev_cell_eq {G : ev_G} {M M' : ev_M} {r i : Nat} {H : Heap} (h : ev_cell G M r i H) (hM : ∀ k, k < ev_len r → ev_vo M' r i k = ev_vo M r i k) : ev_cell G M' r i H := by
  unfold ev_cell at h ⊢
  split at h
  · next ci e =>
    first | rw [e] | skip
    exact h.to (fun k hk => by rw [hM k hk])
  · next t e =>
    first | rw [e] | skip
    refine Eq.trans h (congrArg some (ev_arrV_to fun k hk => ?_))
    rw [hM k hk]
/-- memory at the law's entry, and behind the constructors -/
def M0_ : ev_M := (fun r _ k => if 60 ≤ r then ev_cst (r - 60) k else 0, fun _ _ _ => 0, fun _ _ _ => none, 0)
def Mf_ : ev_M := mk_L M0_
def m0_ : ev_m := (Mf_.1, Mf_.2.1, fun _ _ _ => none)
theorem Mf_n : Mf_.2.2.2 = ev_all := by decide +kernel
def ev_eqR : ev_R → ev_R → Bool
  | none, none => true
  | some a, some b => a.1 == b.1 && a.2 == b.2
  | _, _ => false
theorem ev_eqR_of {a b : ev_R} (h : ev_eqR a b = true) : a = b := by
  match a, b, h with
  | none, none, _ => rfl
  | some (a1, a2), some (b1, b2), h =>
    have h2 : (a1 == b1 && a2 == b2) = true := h
    rw [Bool.and_eq_true, beq_iff_eq, beq_iff_eq] at h2
    rw [h2.1, h2.2]
theorem Mf_qc : ((List.range 60).all fun r => (List.range (ev_cnt r)).all fun i => (List.range (ev_len r)).all fun k => ev_fk r k != 2 || ev_eqR (Mf_.2.2.1 r i k) (ev_lay (fun _ _ _ => none) r i k)) = true := by decide +kernel
theorem Mf_q (r : Nat) (hr : r < 60) (i : Nat) (hi : i < ev_cnt r) (k : Nat) (hk : k < ev_len r) (hf : ev_fk r k = 2) : Mf_.2.2.1 r i k = ev_lay (fun _ _ _ => none) r i k := by
  have h := List.all_eq_true.mp (List.all_eq_true.mp (List.all_eq_true.mp Mf_qc r (List.mem_range.mpr hr)) i (List.mem_range.mpr hi)) k (List.mem_range.mpr hk)
  rw [Bool.or_eq_true] at h
  rcases h with h | h
  · rw [hf] at h
    exact absurd h (by decide)
  · exact ev_eqR_of h
theorem Mf_vo {r i k : Nat} (hr : r < 60) (hi : i < ev_cnt r) (hk : k < ev_len r) : ev_vo (ev_emb m0_) r i k = ev_vo Mf_ r i k := by
  by_cases e : ev_fk r k = 2
  · unfold ev_vo
    rw [e]
    exact congrArg vq (Mf_q r hr i hi k hk e).symm
  · unfold ev_vo
    have h3 : ev_fk r k < 2 := by
      have : ev_fk r k ≤ 2 := by
        unfold ev_fk
        split
        · have hall : ∀ q, q < 11 → ∀ j, j < ev_len q → (ev_fkT.getD q []).getD j 0 ≤ 2 := by decide +kernel
          exact hall r (by assumption) k hk
        · split
          · omega
          · split <;> omega
      omega
    generalize ev_fk r k = f at h3
    match f, h3 with
    | 0, _ => rfl
    | 1, _ => rfl
    | n + 2, h => exact absurd h (by omega)
theorem ev_okM_0 : ev_okM M0_ := by
  refine ⟨fun r i k _ _ _ _ => trivial, fun j k hj => ?_, fun i k => ?_, Nat.zero_le _⟩
  · show (if 60 ≤ 60 + j then ev_cst (60 + j - 60) k else 0) = _
    rw [if_pos (by omega), show 60 + j - 60 = j by omega]
  · rfl
theorem ev_Ho_0 {G : ev_G} : ev_Ho G M0_ G.1.heap := ⟨rfl, fun _ _ => rfl, fun _ _ _ _ h => absurd h (Nat.not_lt_zero _)⟩
theorem ev_Ho_f {G : ev_G} {H : Heap} (h : ev_Ho G Mf_ H) : ev_Ho G (ev_emb m0_) H := by
  refine ⟨?_, h.2.1, fun r i hr hi ho => ?_⟩
  · have := h.1
    rw [Mf_n] at this
    exact this
  · exact ev_cell_eq (h.2.2 r i hr hi (by rw [Mf_n]; exact ho)) (fun k hk => Mf_vo hr hi hk)
theorem ev_okM_f (h : ev_okM Mf_) : ev_okM (ev_emb m0_) := by
  refine ⟨fun r i k hr hi hk hf => ?_, h.2.1, h.2.2.1, Nat.le_refl _⟩
  have := h.1 r i k hr hi hk hf
  rw [Mf_q r hr i hi k hk hf] at this
  exact this
theorem e_final {G : ev_G} {k : ev_K} {b : ev_B} {u : Nat × Nat} {pc : Nat} {L : List (Option ev_V)} {st : List ev_V} {Q : Option ev_V → ev_M → Prop} (h : ev_E G k b u pc L st (ev_emb m0_) Q) : ev_E G k b u pc L st Mf_ Q := by
  intro p l e R s m args below meth c H locs ls Z F RT hH h1 h2 h3 hS hu hl
  exact h p l e R s m args below meth c H locs ls Z F RT (ev_Ho_f hH) h1 h2 (ev_okM_f h3) hS hu hl
set_option maxRecDepth 40000 in
theorem m0_z : ∀ k, m0_.1 30 0 k = 0 := fun k => rfl
set_option maxRecDepth 20000 in
theorem iv_m0 : iv_ m0_ := iv_0 (by decide +kernel) (by decide +kernel) (fun j h1 h2 => (by decide +kernel : ∀ j, j < 7 → 3 ≤ j → m0_.1 1 0 j = 0) j h2 h1) (by decide +kernel) (by decide +kernel) (by decide +kernel) (by decide +kernel) (by decide +kernel) (by decide +kernel) (by decide +kernel) m0_z
