/-! what the tables and the heap say at the law's entry -/
section EVS
variable {s : State} {b : Addr}
def ev_st (s : State) (b : Addr) : Prop := ∀ w ∈ lw_tbl, w.before #[Value.ref b] s = true
theorem ev_st_g {w : Cond} (h : w ∈ ev_GW) (hts : ev_st s b) : w.before #[Value.ref b] s = true := hts w (List.mem_filter.mp h).1
theorem ev_wn {C : String} {n : Nat} (h : Cond.instantiable C n ∈ ev_GW) (hts : ev_st s b) : (Cond.instantiable C n).before #[Value.ref b] s = true := ev_st_g h hts
theorem ev_ins : ∀ ci, ci < 11 → ev_st s b → ∃ n : Nat, (Cond.instantiable (ev_cC ci) n).before #[Value.ref b] s = true := by
  intro ci hci hts
  match ci, hci with
  | 0, _ => exact ⟨_, ev_wn wn_X0 hts⟩
  | 1, _ => exact ⟨_, ev_wn wn_X1 hts⟩
  | 2, _ => exact ⟨_, ev_wn wn_X2 hts⟩
  | 3, _ => exact ⟨_, ev_wn wn_X3 hts⟩
  | 4, _ => exact ⟨_, ev_wn wn_X4 hts⟩
  | 5, _ => exact ⟨_, ev_wn wn_X5 hts⟩
  | 6, _ => exact ⟨_, ev_wn wn_X6 hts⟩
  | 7, _ => exact ⟨_, ev_wn wn_X7 hts⟩
  | 8, _ => exact ⟨_, ev_wn wn_X8 hts⟩
  | 9, _ => exact ⟨_, ev_wn wn_X9 hts⟩
  | 10, _ => exact ⟨_, ev_wn wn_X10 hts⟩
theorem ev_clsU (hts : ev_st s b) : ∃ (cI : Nat → ClassId) (sl : Nat → Nat → Nat), ∀ (c : Nat) (q : vw_C), vwCl[c]? = some q → u_Kn s q.1 q.2.1 q.2.2 (cI c) (sl c) := by
  have h0 : ∀ c : Nat, ∃ p : ClassId × (Nat → Nat), ∀ q : vw_C, vwCl[c]? = some q → u_Kn s q.1 q.2.1 q.2.2 p.1 p.2 := by
    intro c
    by_cases hc : c < 11
    · obtain ⟨n, hn⟩ := ev_ins c hc hts
      obtain ⟨cC, iS, hu⟩ := u_known (ws := ev_GW) (fun w hw => ev_st_g hw hts) (ev_inlw c hc) hn
      refine ⟨(cC, iS), fun q hq => ?_⟩
      rw [ev_cl_at hc] at hq
      cases hq
      exact hu
    · refine ⟨(0, fun _ => 0), fun q hq => ?_⟩
      have h2 : c < vwCl.length := (List.getElem?_eq_some_iff.mp hq).1
      exact absurd h2 hc
  obtain ⟨f, hf⟩ := Classical.axiomOfChoice h0
  exact ⟨fun c => (f c).1, fun c => (f c).2, hf⟩
theorem ev_arC {t : FieldType} (h : Cond.arrayClass t ∈ ev_GW) (hts : ev_st s b) (ho : va_RA s ((s.vm.findClass ("[" ++ t.toString)).getD 0) t = (s.vm.findClass ("[" ++ t.toString) = some ((s.vm.findClass ("[" ++ t.toString)).getD 0))) : ArrOfT s ((s.vm.findClass ("[" ++ t.toString)).getD 0) t ∧ va_RA s ((s.vm.findClass ("[" ++ t.toString)).getD 0) t := by
  obtain ⟨c, k, comp, h1, h2, h3⟩ := Cond.arrayClass_spec (args := #[Value.ref b]) (first := s) (o := none) (s := s) (idx := []) (ev_st_g h hts)
  have e : (s.vm.findClass ("[" ++ t.toString)).getD 0 = c := by rw [h1]; rfl
  rw [ho, e]
  exact ⟨fun n z => ⟨fun k h => (by cases h), k, h2, comp, h3⟩, h1⟩
theorem ev_aoW : ∀ C ∈ ev_aoN, Cond.arrayOver (.object C) ∈ lw_tbl := by decide +kernel
theorem ev_aoC {C : String} (hC : C ∈ ev_aoN) (hts : ev_st s b) : ArrOfT s ((s.vm.findClass ("[" ++ (FieldType.object C).toString)).getD 0) (.object C) ∧ va_RA s ((s.vm.findClass ("[" ++ (FieldType.object C).toString)).getD 0) (.object C) := by
  obtain ⟨comp, c, k, h1, -, h3, h4, h5⟩ := Cond.arrayOver_spec (args := #[Value.ref b]) (first := s) (o := none) (s := s) (idx := []) (hts _ (ev_aoW C hC))
  have e : (s.vm.findClass ("[" ++ (FieldType.object C).toString)).getD 0 = c := by rw [h5]; rfl
  rw [e]
  exact ⟨fun n z => ⟨fun k h => (by cases h), k, h3, comp, h4⟩, k, comp, h3, h4, h1, h5⟩
theorem ev_tysU : ∀ t, t < 8 → ev_st s b → ArrOfT s ((s.vm.findClass ("[" ++ (ev_ty t).toString)).getD 0) (ev_ty t) ∧ va_RA s ((s.vm.findClass ("[" ++ (ev_ty t).toString)).getD 0) (ev_ty t) := by
  intro t ht hts
  match t, ht with
  | 0, _ => exact ev_arC wa_int hts rfl
  | 1, _ => exact ev_arC wa_byte hts rfl
  | 2, _ => exact ev_arC wa_boolean hts rfl
  | 3, _ => exact ev_aoC (C := "HelmHand$Book") (by decide) hts
  | 4, _ => exact ev_aoC (C := "HelmHand$Ship") (by decide) hts
  | 5, _ => exact ev_aoC (C := "HelmHand$Hand") (by decide) hts
  | 6, _ => exact ev_aoC (C := "HelmHand$Paper") (by decide) hts
  | 7, _ => exact ev_aoC (C := "HelmHand$Watch") (by decide) hts
/-- what the Statement gives, part by part -/
def ev_nr (s : State) (b : Addr) : Prop := ∀ w ∈ flatC (Jvm.Cond.and given_1 narrow_1), w.before #[Value.ref b] s = true
abbrev ev_sT (j : Nat) : Term := .static "HelmHand" (ev_stN.getD j "") "[I"
theorem st_w1 : ∀ j, j < 4 → Cond.arrayOf (ev_sT j) .int ∈ flatC (Jvm.Cond.and given_1 narrow_1) := by decide +kernel
theorem st_w2 : ∀ j, j < 4 → Cond.eq (.length (ev_sT j)) (.int (Int32.ofNat (ev_len (60 + j)))) ∈ flatC (Jvm.Cond.and given_1 narrow_1) := by decide +kernel
theorem st_w3 : ∀ j, j < 4 → ∀ k, k < ev_len (60 + j) → Cond.eq (.elem (ev_sT j) (.int (Int32.ofNat k))) (.int (ev_cst j k)) ∈ flatC (Jvm.Cond.and given_1 narrow_1) := by decide +kernel
theorem st_w4 : ∀ j, j < 4 → Cond.laysStatic "HelmHand" (ev_stN.getD j "") "[I" ∈ lw_tbl := by decide +kernel
theorem st_w5 : Cond.initialized "HelmHand" ∈ lw_tbl := by decide +kernel
theorem st_len : ∀ j, j < 4 → ev_len (60 + j) < 2 ^ 31 := by decide +kernel
theorem ev_stU {A : Nat → Prop} (hts : ev_st s b) (hnr : ev_nr s b) (hA : ∀ a : Nat, a < s.heap.size → ¬ A a) : ∃ ad : Nat → Nat, ∀ j, j < 4 → va_Z "HelmHand" (ev_stN.getD j "") "[I" (.ref (ad j)) A s s.heap ∧ va_T .int (ad j) (ev_len (60 + j)) (fun k => .int (ev_cst j k)) A s s.heap := by
  have h0 : ∀ j : Nat, ∃ t : Nat, j < 4 → va_Z "HelmHand" (ev_stN.getD j "") "[I" (.ref t) A s s.heap ∧ va_T .int t (ev_len (60 + j)) (fun k => .int (ev_cst j k)) A s s.heap := by
    intro j
    by_cases hj : j < 4
    · obtain ⟨t, ht, hT⟩ := va_Tof (args := #[Value.ref b]) (tm := ev_sT j) (ty := .int) (N := ev_len (60 + j)) (f := fun k => .int (ev_cst j k)) (A := A) (st_len j hj) (hnr _ (st_w1 j hj)) (va_eqt (hnr _ (st_w2 j hj))) (fun k hk => va_eqt (hnr _ (st_w3 j hj k hk))) hA
      exact ⟨t, fun _ => ⟨va_Zof (hts _ (st_w4 j hj)) (hts _ st_w5) ht hA, hT⟩⟩
    · exact ⟨0, fun h => absurd h hj⟩
  exact Classical.axiomOfChoice h0
abbrev ev_tS (i : Nat) : Term := .string "HelmHand$Reader" (ev_strK.getD i 0)
abbrev ev_tV (i : Nat) : Term := .field (ev_tS i) "java/lang/String" "value" "[B"
theorem str_w1 : ∀ i, i < ev_strN → Cond.exactly (ev_tS i) "java/lang/String" ∈ flatC (Jvm.Cond.and given_1 narrow_1) := by decide +kernel
theorem str_w2 : ∀ i, i < ev_strN → Cond.eq (.field (ev_tS i) "java/lang/String" "coder" "B") (.int 0) ∈ flatC (Jvm.Cond.and given_1 narrow_1) := by decide +kernel
theorem str_w3 : ∀ i, i < ev_strN → Cond.arrayOf (ev_tV i) .byte ∈ flatC (Jvm.Cond.and given_1 narrow_1) := by decide +kernel
theorem str_w4 : ∀ i, i < ev_strN → Cond.eq (.length (ev_tV i)) (.int (Int32.ofNat (ev_strL.getD i 0))) ∈ flatC (Jvm.Cond.and given_1 narrow_1) := by decide +kernel
/-- one list runs in another, in its order -/
def ev_sub : List Cond → List Cond → Bool
  | [], _ => true
  | _ :: _, [] => false
  | a :: t, b :: u => if a = b then ev_sub t u else ev_sub (a :: t) u
theorem ev_sub_in : ∀ {B A : List Cond}, ev_sub A B = true → ∀ w ∈ A, w ∈ B
  | [], [], _, w, hw => by cases hw
  | [], a :: t, h, w, hw => by
    unfold ev_sub at h
    cases h
  | b :: u, [], _, w, hw => by cases hw
  | b :: u, a :: t, h, w, hw => by
    unfold ev_sub at h
    split at h
    · next e =>
      rcases List.mem_cons.mp hw with rfl | hw
      · rw [e]
        exact List.mem_cons_self
      · exact List.mem_cons_of_mem _ (ev_sub_in h w hw)
    · exact List.mem_cons_of_mem _ (ev_sub_in h w hw)
theorem str_pr : ev_sub ((List.range 22).flatMap fun j => (List.range j).map fun i => Cond.not (Cond.eq (ev_tS i) (ev_tS j))) (flatC (Jvm.Cond.and given_1 narrow_1)) = true := by decide +kernel
theorem str_w6 (j : Nat) (hj : j < ev_strN) (i : Nat) (hi : i < j) : Cond.not (Cond.eq (ev_tS i) (ev_tS j)) ∈ flatC (Jvm.Cond.and given_1 narrow_1) :=
  ev_sub_in str_pr _ (List.mem_flatMap.mpr ⟨j, List.mem_range.mpr hj, List.mem_map.mpr ⟨i, List.mem_range.mpr hi, rfl⟩⟩)
theorem str_el : ev_sub ((List.range 22).flatMap fun i => (List.range (ev_strL.getD i 0)).map fun j => Cond.eq (.elem (ev_tV i) (.int (Int32.ofNat j))) (.int ((ev_strB.getD i []).getD j 0))) (flatC (Jvm.Cond.and given_1 narrow_1)) = true := by decide +kernel
theorem str_w5 (i : Nat) (hi : i < ev_strN) (j : Nat) (hj : j < ev_strL.getD i 0) : Cond.eq (.elem (ev_tV i) (.int (Int32.ofNat j))) (.int ((ev_strB.getD i []).getD j 0)) ∈ flatC (Jvm.Cond.and given_1 narrow_1) :=
  ev_sub_in str_el _ (List.mem_flatMap.mpr ⟨i, List.mem_range.mpr hi, List.mem_map.mpr ⟨j, List.mem_range.mpr hj, rfl⟩⟩)
theorem str_w7 : ∀ i, i < ev_strN → Cond.stringRef "HelmHand$Reader" (ev_strK.getD i 0) (ev_strT.getD i "") ∈ lw_tbl := by decide +kernel
theorem str_len : ∀ i, i < ev_strN → ev_strL.getD i 0 < 2 ^ 31 := by decide +kernel
theorem ev_strU {A : Nat → Prop} (hts : ev_st s b) (hnr : ev_nr s b) (hA : ∀ a : Nat, a < s.heap.size → ¬ A a) : ∃ adK adV : Nat → Nat, vk_S ev_strN ev_strL ev_strB adK adV A s s.heap ∧ ∀ j, j < ev_strN → vk_R "HelmHand$Reader" (ev_strK.getD j 0) (ev_strT.getD j "") (adK j) s := by
  obtain ⟨adK, adV, h1, h2⟩ := vk_Sof (args := #[Value.ref b]) (s := s) (N := ev_strN) (tm := ev_tS) (len := ev_strL) (byt := ev_strB) (A := A) str_len (fun i hi => hnr _ (str_w1 i hi)) (fun i hi => hnr _ (str_w2 i hi)) (fun i hi => hnr _ (str_w3 i hi)) (fun i hi => hnr _ (str_w4 i hi)) (fun i hi j hj => hnr _ (str_w5 i hi j hj)) (fun i j hi hj hij => (by
    rcases Nat.lt_or_gt_of_ne hij with h | h
    · exact Or.inl (hnr _ (str_w6 j hj i h))
    · exact Or.inr (hnr _ (str_w6 i hi j h)))) hA
  exact ⟨adK, adV, h1, fun j hj => vk_R.of (hts _ (str_w7 j hj)) (h2 j hj)⟩
theorem nf_w : ∀ q ∈ ev_nf, Cond.fieldLinkNest q.1 q.2.1 q.2.2.1 q.2.2.2.1 q.2.2.2.2.1 q.2.2.2.2.2 ∈ lw_tbl := by decide +kernel
theorem nm_w : ∀ q ∈ ev_nm, Cond.methodLinkNest q.1 q.2.1 q.2.2.1 q.2.2.2 ∈ lw_tbl := by decide +kernel
theorem cs_w1 : Cond.laysStatic "java/lang/String" "COMPACT_STRINGS" "Z" ∈ lw_tbl := by decide +kernel
theorem cs_w2 : Cond.initialized "java/lang/String" ∈ lw_tbl := by decide +kernel
theorem cs_w3 : Cond.eq (.static "java/lang/String" "COMPACT_STRINGS" "Z") (.int 1) ∈ flatC (Jvm.Cond.and given_1 narrow_1) := by decide +kernel
theorem sf_w1 : Cond.laysStatic "jdk/internal/util/Preconditions" "SIOOBE_FORMATTER" "Ljava/util/function/BiFunction;" ∈ lw_tbl := by decide +kernel
theorem sf_w2 : Cond.initialized "jdk/internal/util/Preconditions" ∈ lw_tbl := by decide +kernel
theorem sf_w3 : Cond.isRef (.static "jdk/internal/util/Preconditions" "SIOOBE_FORMATTER" "Ljava/util/function/BiFunction;") ∈ flatC (Jvm.Cond.and given_1 narrow_1) := by decide +kernel
/-- the world at the law's entry is known -/
theorem ev_KnU {L : Nat} {xs : Nat → Int32} (hL : L ≤ 3584) (hts : ev_st s b) (hnr : ev_nr s b) (hX : va_X b L xs s s.heap) (hb : b < s.heap.size) : ∃ G : ev_G, G.1 = s ∧ G.2.2.2.1 64 0 = b ∧ G.2.2.2.2.length ≤ 3584 ∧ ev_Kn G s := by
  have hA : ∀ a : Nat, a < s.heap.size → ¬ s.heap.size ≤ a := fun a h => Nat.not_le.mpr h
  obtain ⟨cI, sl, hcl⟩ := ev_clsU hts
  obtain ⟨adT, hT⟩ := ev_stU (A := fun q => s.heap.size ≤ q) hts hnr hA
  obtain ⟨adK, adV, hS, hR⟩ := ev_strU (A := fun q => s.heap.size ≤ q) hts hnr hA
  have hC := va_Zof (A := fun q => s.heap.size ≤ q) (hts _ cs_w1) (hts _ cs_w2) (va_eqi (hnr _ cs_w3)) hA
  have hF : ∃ t : Nat, va_Z "jdk/internal/util/Preconditions" "SIOOBE_FORMATTER" "Ljava/util/function/BiFunction;" .null (fun q => s.heap.size ≤ q) s s.heap ∨ va_Z "jdk/internal/util/Preconditions" "SIOOBE_FORMATTER" "Ljava/util/function/BiFunction;" (.ref t) (fun q => s.heap.size ≤ q) s s.heap := by
    rcases va_Zqof (A := fun q => s.heap.size ≤ q) (hts _ sf_w1) (hts _ sf_w2) (hnr _ sf_w3) hA with h | ⟨t, h⟩
    · exact ⟨0, Or.inl h⟩
    · exact ⟨t, Or.inr h⟩
  obtain ⟨tF, hF⟩ := hF
  have hlen : ((List.range L).map xs).length = L := by rw [List.length_map, List.length_range]
  refine ⟨(s, cI, sl, fun r i => if r = 64 then b else if r = 65 then adK i else if r = 66 then adV i else if r = 67 then tF else adT (r - 60), (List.range L).map xs), rfl, rfl, by show ((List.range L).map xs).length ≤ 3584; omega, ⟨hcl, fun k q hq => ?_⟩, fun j hj => ?_, hS, hR, ?_, hb, by show ((List.range L).map xs).length ≤ 3584; omega, fun q hq => va_Nw.of rfl (hts _ (nf_w q hq)), fun q hq => va_Nw.of rfl (hts _ (nm_w q hq)), hC, hF, fun C hCm => va_AO.of (hts _ (ev_aoW C hCm))⟩
  · have h8 : k < 8 := by
      have := (List.getElem?_eq_some_iff.mp hq).1
      unfold ev_tl at this
      rw [List.length_map, List.length_range] at this
      exact this
    rw [ev_tl_at _ h8] at hq
    cases hq
    exact ev_tysU k h8 hts
  · match j, hj with
    | 0, hj => exact hT 0 hj
    | 1, hj => exact hT 1 hj
    | 2, hj => exact hT 2 hj
    | 3, hj => exact hT 3 hj
  · obtain ⟨scr, h1, h2, h3, h4, h5⟩ := hX
    refine ⟨scr, h1, h2, h3, h4.trans hlen.symm, fun j hj => ?_⟩
    have hj2 : j < L := by
      have h6 : j < ((List.range L).map xs).length := hj
      rw [hlen] at h6
      exact h6
    rw [h5 j hj2]
    congr 2
    show xs j = ((List.range L).map xs).getD j 0
    simp [List.getD_eq_getElem?_getD, hj2]
end EVS
