abbrev vwCl : List vw_C := [(RX0, TX0, 11), (RX1, TX1, 12), (RX2, TX2, 4), (RX3, TX3, 2), (RX4, TX4, 12), (RX5, TX5, 12), (RX6, TX6, 2), (RX7, TX7, 3), (RX8, TX8, 9), (RX9, TX9, 7), (RX10, TX10, 46)]
/-! the world: every object and array of the class and of the reference, by region and index; what a state of both is -/
abbrev ev_R : Type := Option (Nat × Nat)
abbrev ev_V : Type := Int32 ⊕ (Int64 ⊕ ev_R)
def vi (x : Int32) : ev_V := .inl x
def vl (x : Int64) : ev_V := .inr (.inl x)
def vq (o : ev_R) : ev_V := .inr (.inr o)
abbrev vr (r i : Nat) : ev_V := vq (some (r, i))
abbrev vn : ev_V := vq none
/-- memory: ints, longs, references, how many are made -/
abbrev ev_M : Type := (Nat → Nat → Nat → Int32) × (Nat → Nat → Nat → Int64) × (Nat → Nat → Nat → ev_R) × Nat
/-- where the law was entered (its state), class ids, slots, addresses of what was there before, the script -/
abbrev ev_G : Type := State × (Nat → ClassId) × (Nat → Nat → Nat) × (Nat → Nat → Nat) × List Int32
def ev_clsT : List Nat := [9, 0, 6, 5, 1, 3, 7, 4, 8, 2, 10]
def ev_tyT : List Nat := [99, 99, 99, 99, 99, 99, 99, 99, 99, 99, 99, 1, 0, 0, 0, 0, 0, 0, 0, 0, 0, 0, 2, 3, 4, 5, 6, 7, 99, 99, 1, 0, 0, 0, 0, 0, 0, 0, 0, 0, 0, 0, 0, 0, 0, 0, 0, 0, 0, 0, 0, 0, 2, 99, 99, 99, 99, 99, 99, 99, 0, 0, 0, 0]
/-- a region is of objects of a class (its place in vwCl), or of arrays of a type -/
def ev_rk (r : Nat) : Nat ⊕ Nat := if r < 11 then .inl (ev_clsT.getD r 0) else .inr (ev_tyT.getD r 99)
def ev_cntT : List Nat := [1, 4, 5, 10, 18, 9, 9, 1, 1, 2, 1, 5, 10, 18, 18, 9, 9, 9, 1, 1, 1, 1, 1, 1, 4, 4, 4, 4, 0, 0, 1, 1, 1, 1, 1, 1, 1, 1, 1, 1, 1, 1, 1, 1, 1, 1, 1, 1, 1, 1, 1, 1, 1, 0, 0, 0, 0, 0, 0, 0, 1, 1, 1, 1]
def ev_cnt (r : Nat) : Nat := ev_cntT.getD r 0
def ev_lenT : List Nat := [7, 11, 2, 12, 12, 2, 3, 12, 9, 4, 46, 600, 12, 4, 4, 60, 8, 8, 401, 401, 401, 401, 3, 3, 2, 4, 2, 2, 0, 0, 2400, 4, 4, 4, 16, 184, 288, 488, 136, 61, 23, 36, 2, 2, 2, 401, 401, 401, 401, 401, 4, 4, 3, 0, 0, 0, 0, 0, 0, 0, 10, 10, 8, 8]
def ev_len (r : Nat) : Nat := ev_lenT.getD r 0
def ev_fkT : List (List Nat) := [[2, 2, 2, 2, 2, 2, 2], [2, 0, 0, 0, 0, 0, 0, 2, 2, 2, 2], [2, 0], [0, 0, 0, 0, 0, 0, 0, 0, 0, 0, 0, 2], [0, 0, 0, 0, 0, 0, 0, 0, 0, 0, 2, 2], [2, 0], [2, 2, 0], [2, 2, 2, 2, 0, 0, 2, 0, 0, 0, 0, 0], [2, 0, 2, 2, 2, 2, 0, 2, 2], [2, 0, 0, 0], [0, 2, 2, 2, 2, 2, 2, 2, 2, 2, 0, 0, 0, 0, 0, 1, 0, 0, 0, 2, 0, 2, 2, 2, 2, 2, 0, 2, 2, 2, 2, 2, 0, 1, 0, 1, 0, 1, 0, 0, 0, 0, 0, 2, 2, 2]]
/-- what a place holds: 0 an int, 1 a long, 2 a reference -/
def ev_fk (r k : Nat) : Nat := if r < 11 then (ev_fkT.getD r []).getD k 0 else if r < 23 then 0 else if r < 28 then 2 else 0
def ev_odT : List (List Nat) := [[0], [1, 61, 94, 127], [2, 62, 95, 128, 47], [8, 10, 68, 70, 101, 103, 134, 136, 56, 37], [12, 15, 18, 21, 72, 75, 78, 81, 105, 108, 111, 114, 138, 141, 144, 147, 58, 39], [24, 26, 84, 86, 117, 119, 150, 152, 42], [28, 31, 88, 91, 121, 124, 154, 157, 44], [36], [49], [54, 55], [160], [3, 63, 96, 129, 48], [9, 11, 69, 71, 102, 104, 135, 137, 57, 38], [13, 16, 19, 22, 73, 76, 79, 82, 106, 109, 112, 115, 139, 142, 145, 148, 59, 40], [14, 17, 20, 23, 74, 77, 80, 83, 107, 110, 113, 116, 140, 143, 146, 149, 60, 41], [25, 27, 85, 87, 118, 120, 151, 153, 43], [29, 32, 89, 92, 122, 125, 155, 158, 45], [30, 33, 90, 93, 123, 126, 156, 159, 46], [50], [51], [52], [53], [35], [34], [4, 64, 97, 130], [5, 65, 98, 131], [6, 66, 99, 132], [7, 67, 100, 133], [], [], [161], [162], [163], [164], [165], [166], [167], [168], [169], [170], [171], [172], [173], [174], [175], [176], [177], [178], [179], [180], [181], [182], [183], [], [], [], [], [], [], [], [], [], [], []]
/-- the order of making -/
def ev_od (r i : Nat) : Nat := (ev_odT.getD r []).getD i 0
def ev_inv : List (Nat × Nat) := [(0, 0), (1, 0), (2, 0), (11, 0), (24, 0), (25, 0), (26, 0), (27, 0), (3, 0), (12, 0), (3, 1), (12, 1), (4, 0), (13, 0), (14, 0), (4, 1), (13, 1), (14, 1), (4, 2), (13, 2), (14, 2), (4, 3), (13, 3), (14, 3), (5, 0), (15, 0), (5, 1), (15, 1), (6, 0), (16, 0), (17, 0), (6, 1), (16, 1), (17, 1), (23, 0), (22, 0), (7, 0), (3, 9), (12, 9), (4, 17), (13, 17), (14, 17), (5, 8), (15, 8), (6, 8), (16, 8), (17, 8), (2, 4), (11, 4), (8, 0), (18, 0), (19, 0), (20, 0), (21, 0), (9, 0), (9, 1), (3, 8), (12, 8), (4, 16), (13, 16), (14, 16), (1, 1), (2, 1), (11, 1), (24, 1), (25, 1), (26, 1), (27, 1), (3, 2), (12, 2), (3, 3), (12, 3), (4, 4), (13, 4), (14, 4), (4, 5), (13, 5), (14, 5), (4, 6), (13, 6), (14, 6), (4, 7), (13, 7), (14, 7), (5, 2), (15, 2), (5, 3), (15, 3), (6, 2), (16, 2), (17, 2), (6, 3), (16, 3), (17, 3), (1, 2), (2, 2), (11, 2), (24, 2), (25, 2), (26, 2), (27, 2), (3, 4), (12, 4), (3, 5), (12, 5), (4, 8), (13, 8), (14, 8), (4, 9), (13, 9), (14, 9), (4, 10), (13, 10), (14, 10), (4, 11), (13, 11), (14, 11), (5, 4), (15, 4), (5, 5), (15, 5), (6, 4), (16, 4), (17, 4), (6, 5), (16, 5), (17, 5), (1, 3), (2, 3), (11, 3), (24, 3), (25, 3), (26, 3), (27, 3), (3, 6), (12, 6), (3, 7), (12, 7), (4, 12), (13, 12), (14, 12), (4, 13), (13, 13), (14, 13), (4, 14), (13, 14), (14, 14), (4, 15), (13, 15), (14, 15), (5, 6), (15, 6), (5, 7), (15, 7), (6, 6), (16, 6), (17, 6), (6, 7), (16, 7), (17, 7), (10, 0), (30, 0), (31, 0), (32, 0), (33, 0), (34, 0), (35, 0), (36, 0), (37, 0), (38, 0), (39, 0), (40, 0), (41, 0), (42, 0), (43, 0), (44, 0), (45, 0), (46, 0), (47, 0), (48, 0), (49, 0), (50, 0), (51, 0), (52, 0)]
def ev_all : Nat := 184
/-- the references that are laid once for all; f: those that change -/
def ev_lay (f : Nat → Nat → Nat → Option Nat) (r i k : Nat) : ev_R := match r with
  | 0 => match k with
    | 0 => some (1, 0)
    | 1 => some (23, 0)
    | 2 => some (22, 0)
    | 3 => some (7, 0)
    | 4 => some (8, 0)
    | 5 => some (3, 8)
    | 6 => some (4, 16)
    | _ => none
  | 1 => match k with
    | 0 => some (2, i)
    | 7 => some (24, i)
    | 8 => some (25, i)
    | 9 => some (26, i)
    | 10 => some (27, i)
    | _ => none
  | 2 => match k with
    | 0 => some (11, i)
    | _ => none
  | 3 => match k with
    | 11 => some (12, i)
    | _ => none
  | 4 => match k with
    | 10 => some (13, i)
    | 11 => some (14, i)
    | _ => none
  | 5 => match k with
    | 0 => some (15, i)
    | _ => none
  | 6 => match k with
    | 0 => some (16, i)
    | 1 => some (17, i)
    | _ => none
  | 7 => match k with
    | 0 => some (3, 9)
    | 1 => some (4, 17)
    | 2 => some (5, 8)
    | 3 => some (6, 8)
    | 6 => some (2, 4)
    | _ => none
  | 8 => match k with
    | 0 => (f r i 0).map (fun z => (3, z))
    | 2 => some (18, 0)
    | 3 => some (19, 0)
    | 4 => some (20, 0)
    | 5 => some (21, 0)
    | 7 => some (9, 0)
    | 8 => some (9, 1)
    | _ => none
  | 9 => match k with
    | 0 => (f r i 0).map (fun z => (4, z))
    | _ => none
  | 10 => match k with
    | 1 => some (30, 0)
    | 2 => some (31, 0)
    | 3 => some (32, 0)
    | 4 => some (33, 0)
    | 5 => some (34, 0)
    | 6 => some (35, 0)
    | 7 => some (36, 0)
    | 8 => some (37, 0)
    | 9 => some (38, 0)
    | 19 => some (39, 0)
    | 21 => some (40, 0)
    | 22 => some (41, 0)
    | 23 => some (42, 0)
    | 24 => some (43, 0)
    | 25 => some (44, 0)
    | 27 => some (45, 0)
    | 28 => some (46, 0)
    | 29 => some (47, 0)
    | 30 => some (48, 0)
    | 31 => some (49, 0)
    | 43 => some (50, 0)
    | 44 => some (51, 0)
    | 45 => some (52, 0)
    | _ => none
  | 23 => some (1, k + 1)
  | 24 => some (3, 2 * i + k)
  | 25 => some (4, 4 * i + k)
  | 26 => some (5, 2 * i + k)
  | 27 => some (6, 2 * i + k)
  | _ => none
def ev_emb (m : ev_m) : ev_M := (m.1, m.2.1, ev_lay m.2.2, ev_all)
def vo (r : Nat) (o : Option Nat) : ev_V := vq (o.map (fun z => (r, z)))
def ev_base (G : ev_G) : Nat := G.1.heap.size
def ev_la (G : ev_G) (r i : Nat) : Nat := if r < 60 then ev_base G + ev_od r i else G.2.2.2.1 r i
def ev_real (G : ev_G) : ev_V → Value
  | .inl x => .int x
  | .inr (.inl x) => .long x
  | .inr (.inr none) => .null
  | .inr (.inr (some q)) => .ref (ev_la G q.1 q.2)
theorem ev_real_i (G : ev_G) (x : Int32) : ev_real G (vi x) = .int x := rfl
theorem ev_real_l (G : ev_G) (x : Int64) : ev_real G (vl x) = .long x := rfl
theorem ev_real_r (G : ev_G) (r i : Nat) : ev_real G (vr r i) = .ref (ev_la G r i) := rfl
theorem ev_real_n (G : ev_G) : ev_real G vn = .null := rfl
def ev_vo (M : ev_M) (r i k : Nat) : ev_V := match ev_fk r k with
  | 0 => vi (M.1 r i k)
  | 1 => vl (M.2.1 r i k)
  | _ => vq (M.2.2.1 r i k)
/-- the types of arrays, by their numbers -/
def ev_tys : List FieldType := [.int, .byte, .boolean, .object "HelmHand$Book", .object "HelmHand$Ship", .object "HelmHand$Hand", .object "HelmHand$Paper", .object "HelmHand$Watch"]
def ev_ty (t : Nat) : FieldType := ev_tys.getD t .int
def ev_ca (G : ev_G) (t : Nat) : ClassId := (G.1.vm.findClass ("[" ++ (ev_ty t).toString)).getD 0
def ev_tl (G : ev_G) : List (ClassId × FieldType) := (List.range 8).map (fun t => (ev_ca G t, ev_ty t))
theorem ev_tl_at (G : ev_G) {t : Nat} (ht : t < 8) : (ev_tl G)[t]? = some (ev_ca G t, ev_ty t) := by
  simp [ev_tl, ht]
def ev_cell (G : ev_G) (M : ev_M) (r i : Nat) (H : Heap) : Prop := match ev_rk r with
  | .inl ci => t_OB (ev_la G r i) (G.2.1 ci) (ev_len r) (G.2.2.1 ci) H (fun k => ev_real G (ev_vo M r i k))
  | .inr t => H[ev_la G r i]? = some (arrV (ev_ca G t) (ev_len r) (fun k => ev_real G (ev_vo M r i k)))
def ev_Ho (G : ev_G) (M : ev_M) (H : Heap) : Prop := H.size = ev_base G + M.2.2.2 ∧ (∀ q : Nat, q < ev_base G → H[q]? = G.1.heap[q]?) ∧ ∀ r i, r < 60 → i < ev_cnt r → ev_od r i < M.2.2.2 → ev_cell G M r i H
def ev_AD (G : ev_G) : Nat → Prop := fun q => ev_base G ≤ q
/-- what the tables and the heap at the law's entry say -/
def ev_strN : Nat := 22

def ev_strK : List Nat := [90, 184, 186, 188, 190, 192, 194, 196, 198, 200, 102, 202, 204, 206, 208, 210, 212, 214, 216, 218, 110, 115]
def ev_strT : List String := ["sea", "turn", "calm", "lag", "most", "gear", "rub", "wind", "trim", "start", "star", "far", "quick", "been", "dead", "point", "wrong", "tired", "slips", "easy", "row", "man"]
def ev_stN : List String := ["SHIP_LEAST", "SHIP_MOST", "HAND_LEAST", "HAND_MOST"]
def ev_nf : List (String × Nat × String × String × String × String) := [("HelmHand$Reader", 127, "HelmHand", "SHIP_LEAST", "[I", "HelmHand"), ("HelmHand$Reader", 135, "HelmHand", "SHIP_MOST", "[I", "HelmHand"), ("HelmHand$Reader", 164, "HelmHand", "HAND_LEAST", "[I", "HelmHand"), ("HelmHand$Reader", 167, "HelmHand", "HAND_MOST", "[I", "HelmHand")]
def ev_nm : List (String × Nat × MethodName × String) := [("HelmHand$Book", 11, ⟨"HelmHand$Tape", "<init>", "()V"⟩, "HelmHand"), ("HelmHand$Book", 46, ⟨"HelmHand$Ship", "<init>", "()V"⟩, "HelmHand"), ("HelmHand$Book", 47, ⟨"HelmHand$Hand", "<init>", "()V"⟩, "HelmHand"), ("HelmHand$Book", 48, ⟨"HelmHand$Paper", "<init>", "()V"⟩, "HelmHand"), ("HelmHand$Book", 49, ⟨"HelmHand$Watch", "<init>", "()V"⟩, "HelmHand"), ("HelmHand", 26, ⟨"HelmHand$Reader", "<init>", "()V"⟩, "HelmHand"), ("HelmHand$Reader", 11, ⟨"HelmHand$Ship", "<init>", "()V"⟩, "HelmHand"), ("HelmHand$Reader", 20, ⟨"HelmHand$Hand", "<init>", "()V"⟩, "HelmHand"), ("HelmHand$Reader", 27, ⟨"HelmHand$Paper", "<init>", "()V"⟩, "HelmHand"), ("HelmHand$Reader", 34, ⟨"HelmHand$Watch", "<init>", "()V"⟩, "HelmHand"), ("HelmHand$Reader", 41, ⟨"HelmHand$Tape", "<init>", "()V"⟩, "HelmHand"), ("HelmHand", 33, ⟨"HelmHand$Wheel", "<init>", "()V"⟩, "HelmHand"), ("HelmHand$Wheel", 26, ⟨"HelmHand$Mate", "<init>", "()V"⟩, "HelmHand"), ("HelmHand", 40, ⟨"HelmHand$Ship", "<init>", "()V"⟩, "HelmHand"), ("HelmHand", 47, ⟨"HelmHand$Hand", "<init>", "()V"⟩, "HelmHand"), ("HelmHand$Ship", 49, ⟨"HelmHand", "put", "([III)V"⟩, "HelmHand"), ("HelmHand$Reader", 131, ⟨"HelmHand", "at", "([II)I"⟩, "HelmHand"), ("HelmHand$Hand", 69, ⟨"HelmHand", "put", "([III)V"⟩, "HelmHand"), ("HelmHand$Paper", 23, ⟨"HelmHand", "put", "([III)V"⟩, "HelmHand"), ("HelmHand$Watch", 26, ⟨"HelmHand", "put", "([III)V"⟩, "HelmHand"), ("HelmHand$Ship", 65, ⟨"HelmHand", "at", "([II)I"⟩, "HelmHand"), ("HelmHand$Ship", 61, ⟨"HelmHand", "copyRow", "([I[I)V"⟩, "HelmHand"), ("HelmHand$Hand", 65, ⟨"HelmHand", "at", "([II)I"⟩, "HelmHand"), ("HelmHand$Hand", 33, ⟨"HelmHand", "copyRow", "([I[I)V"⟩, "HelmHand"), ("HelmHand$Paper", 19, ⟨"HelmHand", "copyRow", "([I[I)V"⟩, "HelmHand"), ("HelmHand$Watch", 22, ⟨"HelmHand", "copyRow", "([I[I)V"⟩, "HelmHand"), ("HelmHand$Wheel", 58, ⟨"HelmHand", "put", "([III)V"⟩, "HelmHand"), ("HelmHand$Wheel", 77, ⟨"HelmHand", "at", "([II)I"⟩, "HelmHand"), ("HelmHand$Mate", 50, ⟨"HelmHand", "within", "(II)I"⟩, "HelmHand"), ("HelmHand$Wheel", 88, ⟨"HelmHand", "within", "(II)I"⟩, "HelmHand")]
def ev_aoN : List String := ["HelmHand$Book", "HelmHand$Ship", "HelmHand$Hand", "HelmHand$Paper", "HelmHand$Watch"]
def ev_Kn (G : ev_G) (U : State) : Prop := va_K (G.2.1, G.2.2.1) vwCl (ev_tl G) U ∧
  (∀ j, j < 4 → va_Z "HelmHand" (ev_stN.getD j "") "[I" (.ref (G.2.2.2.1 (60 + j) 0)) (ev_AD G) U G.1.heap ∧ va_T .int (G.2.2.2.1 (60 + j) 0) (ev_len (60 + j)) (fun k => .int (ev_cst j k)) (ev_AD G) U G.1.heap) ∧
  vk_S ev_strN ev_strL ev_strB (G.2.2.2.1 65) (G.2.2.2.1 66) (ev_AD G) U G.1.heap ∧ (∀ j, j < ev_strN → vk_R "HelmHand$Reader" (ev_strK.getD j 0) (ev_strT.getD j "") (G.2.2.2.1 65 j) U) ∧
  va_X (G.2.2.2.1 64 0) G.2.2.2.2.length (fun k => G.2.2.2.2.getD k 0) U G.1.heap ∧ G.2.2.2.1 64 0 < ev_base G ∧ G.2.2.2.2.length ≤ 3584 ∧
  (∀ q ∈ ev_nf, va_Nw (.fieldLinkNest q.1 q.2.1 q.2.2.1 q.2.2.2.1 q.2.2.2.2.1 q.2.2.2.2.2) U) ∧ (∀ q ∈ ev_nm, va_Nw (.methodLinkNest q.1 q.2.1 q.2.2.1 q.2.2.2) U) ∧
  va_Z "java/lang/String" "COMPACT_STRINGS" "Z" (.int 1) (ev_AD G) U G.1.heap ∧ ((va_Z "jdk/internal/util/Preconditions" "SIOOBE_FORMATTER" "Ljava/util/function/BiFunction;" .null (ev_AD G) U G.1.heap ∨ va_Z "jdk/internal/util/Preconditions" "SIOOBE_FORMATTER" "Ljava/util/function/BiFunction;" (.ref (G.2.2.2.1 67 0)) (ev_AD G) U G.1.heap) ∧ ∀ C ∈ ev_aoN, va_AO C U)
theorem ev_Kn.moved {G : ev_G} {u U : State} (hvm : u.vm.Alike U.vm) (hS : ∀ j, j < ev_strN → vk_R "HelmHand$Reader" (ev_strK.getD j 0) (ev_strT.getD j "") (G.2.2.2.1 65 j) U) (hf : ∀ q ∈ ev_nf, va_Nw (.fieldLinkNest q.1 q.2.1 q.2.2.1 q.2.2.2.1 q.2.2.2.2.1 q.2.2.2.2.2) U) (hm : ∀ q ∈ ev_nm, va_Nw (.methodLinkNest q.1 q.2.1 q.2.2.1 q.2.2.2) U) (h : ev_Kn G u) : ev_Kn G U := ⟨va_K.moved hvm h.1, fun j hj => ⟨va_Z.moved hvm (h.2.1 j hj).1, va_T.moved hvm (h.2.1 j hj).2⟩, vk_S.moved hvm h.2.2.1, hS, va_X.moved hvm h.2.2.2.2.1, h.2.2.2.2.2.1, h.2.2.2.2.2.2.1, hf, hm, va_Z.moved hvm h.2.2.2.2.2.2.2.2.2.1, h.2.2.2.2.2.2.2.2.2.2.1.imp (va_Z.moved hvm) (va_Z.moved hvm), fun C hC => va_AO.moved hvm (h.2.2.2.2.2.2.2.2.2.2.2 C hC)⟩
theorem ev_Kn.warm {G : ev_G} {s U : State} (hW : s.WarmedH U.vm) (h : ev_Kn G s) : ev_Kn G U := h.moved hW.alike (fun j hj => vk_R.warm hW (h.2.2.2.1 j hj)) (fun q hq => va_Nw.warmF hW (h.2.2.2.2.2.2.2.1 q hq)) (fun q hq => va_Nw.warmM hW (h.2.2.2.2.2.2.2.2.1 q hq))
theorem ev_Kn.same {G : ev_G} {s U : State} (hW : U.vm = s.vm) (h : ev_Kn G s) : ev_Kn G U := h.moved (by rw [hW]; exact Vm.Alike.refl s.vm) (fun j hj => vk_R.same hW (h.2.2.2.1 j hj)) (fun q hq => va_Nw.same rfl hW.symm (h.2.2.2.2.2.2.2.1 q hq)) (fun q hq => va_Nw.same rfl hW.symm (h.2.2.2.2.2.2.2.2.1 q hq))
def ev_ok (v : ev_V) : Prop := match v with
  | .inr (.inr (some q)) => q.2 < ev_cnt q.1 ∨ 60 ≤ q.1
  | _ => True
def ev_oks : List ev_V → Prop
  | [] => True
  | v :: t => ev_ok v ∧ ev_oks t
def ev_okl : List (Option ev_V) → Prop
  | [] => True
  | none :: t => ev_okl t
  | some v :: t => ev_ok v ∧ ev_okl t
def ev_okM (M : ev_M) : Prop := (∀ r i k, r < 60 → i < ev_cnt r → k < ev_len r → ev_fk r k = 2 → ev_ok (vq (M.2.2.1 r i k))) ∧ (∀ j k, j < 4 → M.1 (60 + j) 0 k = ev_cst j k) ∧ (∀ i k, fits .byte (.int (M.1 11 i k)) = true) ∧ M.2.2.2 ≤ ev_all
theorem ev_ok_i (x : Int32) : ev_ok (vi x) := trivial
theorem ev_ok_l (x : Int64) : ev_ok (vl x) := trivial
theorem ev_ok_n : ev_ok vn := trivial
theorem ev_rk_obj {r ci : Nat} (h : ev_rk r = .inl ci) : r < 11 := by
  unfold ev_rk at h
  split at h
  · assumption
  · cases h
theorem ev_inv_ok : ∀ r, r < 60 → ∀ i, i < ev_cnt r → ev_inv[ev_od r i]? = some (r, i) := by decide +kernel
theorem ev_od_inj {r i r' i' : Nat} (hr : r < 60) (hi : i < ev_cnt r) (hr' : r' < 60) (hi' : i' < ev_cnt r') (h : ev_od r i = ev_od r' i') : r = r' ∧ i = i' := by
  have h1 := ev_inv_ok r hr i hi
  rw [h, ev_inv_ok r' hr' i' hi'] at h1
  cases h1
  exact ⟨rfl, rfl⟩
theorem ev_od_lt : ∀ r, r < 60 → ∀ i, i < ev_cnt r → ev_od r i < ev_all := by decide +kernel
theorem ev_la_ge {G : ev_G} {r i : Nat} (h : r < 60) : ev_base G ≤ ev_la G r i := by
  unfold ev_la
  rw [if_pos h]
  exact Nat.le_add_right _ _
theorem ev_la_ne {G : ev_G} {r i r' i' : Nat} (hr : r < 60) (hi : i < ev_cnt r) (hr' : r' < 60) (hi' : i' < ev_cnt r') (h : ¬ (r' = r ∧ i' = i)) : ev_la G r' i' ≠ ev_la G r i := by
  unfold ev_la
  rw [if_pos hr, if_pos hr']
  intro q
  exact h (ev_od_inj hr' hi' hr hi (Nat.add_left_cancel q))
theorem ev_cell_kept {G : ev_G} {M M' : ev_M} {r i : Nat} {H H1 : Heap} (h : ev_cell G M r i H) (hq : H1[ev_la G r i]? = H[ev_la G r i]?) (hM : ∀ k, ev_vo M' r i k = ev_vo M r i k) : ev_cell G M' r i H1 := by
  unfold ev_cell at h ⊢
  split at h
  · next ci e =>
    first | rw [e] | skip
    exact (h.kept hq).to (fun k _ => by rw [hM k])
  · next t e =>
    first | rw [e] | skip
    show H1[_]? = _
    rw [hq, h]
    congr 2
    funext k
    rw [hM k]
/-- a cell of the world changes, no other one -/
theorem ev_Ho_put {G : ev_G} {M M' : ev_M} {r i : Nat} {H H1 : Heap} (hr : r < 60) (hi : i < ev_cnt r) (h : ev_Ho G M H) (hM : ∀ a b, ¬ (a = r ∧ b = i) → ∀ c, ev_vo M' a b c = ev_vo M a b c) (hn : M'.2.2.2 = M.2.2.2) (hc : ev_cell G M' r i H1) (hz : H1.size = H.size) (oq : ∀ q : Nat, q ≠ ev_la G r i → H1[q]? = H[q]?) : ev_Ho G M' H1 := by
  refine ⟨by rw [hz, hn]; exact h.1, fun q hq => ?_, fun a b ha hb ho => ?_⟩
  · rw [oq q (by have := ev_la_ge (G := G) (i := i) hr; omega)]
    exact h.2.1 q hq
  · by_cases e : a = r ∧ b = i
    · obtain ⟨rfl, rfl⟩ := e
      exact hc
    · exact ev_cell_kept (h.2.2 a b ha hb (by rw [← hn]; exact ho)) (oq _ (ev_la_ne hr hi ha hb e)) (hM a b e)
/-- the words that hold anywhere -/
def ev_GW : List Cond := lw_tbl.filter goodWord
theorem ev_GW_in {w : Cond} (h : w ∈ lw_tbl) (hg : goodWord w = true) : w ∈ ev_GW := List.mem_filter.mpr ⟨h, hg⟩
theorem ev_GW_good : GoodIn ev_GW ev_GW := fun w h => ⟨h, good_of_word (List.mem_filter.mp h).2⟩
/-- a method: its code, its name, its locals, what it returns -/
abbrev ev_K : Type := ByteArray × MethodName × Nat × Option FieldType
/-- room: frames, locals, cells, slots -/
abbrev ev_B : Type := Nat × Nat × Nat × Nat
def ev_al (G : ev_G) : Nat → List (Option ev_V) → List (Nat × Value)
  | _, [] => []
  | i, none :: t => ev_al G (i + 1) t
  | i, some v :: t => (i, ev_real G v) :: ev_al G (i + 1) t
theorem ev_al_at {G : ev_G} : ∀ {L : List (Option ev_V)} {i j : Nat} {v : ev_V}, L[j]? = some (some v) → (i + j, ev_real G v) ∈ ev_al G i L
  | [], i, j, v, h => by simp at h
  | none :: t, i, 0, v, h => by simp at h
  | none :: t, i, j + 1, v, h => by
    have := ev_al_at (G := G) (L := t) (i := i + 1) (j := j) (v := v) (by simpa using h)
    rw [show i + (j + 1) = i + 1 + j by omega]
    exact this
  | some w :: t, i, 0, v, h => by
    simp at h
    subst h
    exact List.mem_cons_self
  | some w :: t, i, j + 1, v, h => by
    have := ev_al_at (G := G) (L := t) (i := i + 1) (j := j) (v := v) (by simpa using h)
    rw [show i + (j + 1) = i + 1 + j by omega]
    exact List.mem_cons_of_mem _ this
theorem ev_al_of {G : ev_G} : ∀ {L : List (Option ev_V)} {i : Nat} {q : Nat × Value}, q ∈ ev_al G i L → ∃ j v, q = (i + j, ev_real G v) ∧ L[j]? = some (some v)
  | [], i, q, h => by cases h
  | none :: t, i, q, h => by
    obtain ⟨j, v, rfl, h2⟩ := ev_al_of (G := G) (L := t) (i := i + 1) h
    exact ⟨j + 1, v, by rw [show i + (j + 1) = i + 1 + j by omega], by simpa using h2⟩
  | some w :: t, i, q, h => by
    rcases List.mem_cons.mp h with rfl | h
    · exact ⟨0, w, rfl, rfl⟩
    · obtain ⟨j, v, rfl, h2⟩ := ev_al_of (G := G) (L := t) (i := i + 1) h
      exact ⟨j + 1, v, by rw [show i + (j + 1) = i + 1 + j by omega], by simpa using h2⟩
theorem ev_okl_at : ∀ {L : List (Option ev_V)} {j : Nat} {v : ev_V}, ev_okl L → L[j]? = some (some v) → ev_ok v
  | [], j, v, _, h => by simp at h
  | none :: t, 0, v, _, h => by simp at h
  | none :: t, j + 1, v, k, h => ev_okl_at (L := t) k (by simpa using h)
  | some w :: t, 0, v, k, h => by simp at h; subst h; exact k.1
  | some w :: t, j + 1, v, k, h => ev_okl_at (L := t) k.2 (by simpa using h)
theorem ev_okl_set : ∀ {L : List (Option ev_V)} {j : Nat} {o : Option ev_V}, ev_okl L → (∀ v, o = some v → ev_ok v) → ev_okl (L.set j o)
  | [], j, o, _, _ => trivial
  | none :: t, 0, none, k, h => k
  | none :: t, 0, some v, k, h => ⟨h v rfl, k⟩
  | some w :: t, 0, none, k, h => k.2
  | some w :: t, 0, some v, k, h => ⟨h v rfl, k.2⟩
  | none :: t, j + 1, o, k, h => ev_okl_set (L := t) k h
  | some w :: t, j + 1, o, k, h => ⟨k.1, ev_okl_set (L := t) k.2 h⟩
/-- no long ends at place i -/
def ev_nl (L : List (Option ev_V)) (i : Nat) : Bool := match i with
  | 0 => true
  | j + 1 => match L[j]? with
    | some (some (.inr (.inl _))) => false
    | _ => true
theorem ev_nl_cat {L : List (Option ev_V)} {i j : Nat} {v : ev_V} {G : ev_G} (h : ev_nl L i = true) (hj : L[j]? = some (some v)) (hi : j + 1 = i) : (ev_real G v).category = 1 := by
  subst hi
  unfold ev_nl at h
  match v, hj, h with
  | .inl x, _, _ => rfl
  | .inr (.inl x), hj, h => simp [hj] at h
  | .inr (.inr none), _, _ => rfl
  | .inr (.inr (some q)), _, _ => rfl
/-- what is known inside a method's body -/
def ev_Fx (G : ev_G) (k : ev_K) (b : ev_B) (p : Program) (R : Room) (s : State) (m : MethodId) (args : Array Value) (meth : Method) (c : Code) : Prop :=
  p.tables.exec = Jvm.exec ∧ c.code = k.1 ∧ meth.sig.returnType = k.2.2.2 ∧ c.maxLocals = k.2.2.1 ∧ s.vm.findClass k.2.1.cls = some m.cls ∧ (∀ w ∈ ev_GW, w.before args s = true) ∧ meth.locks = false ∧ (meth.name = k.2.1.name) ∧ b.1 ≤ R.frames ∧ b.2.1 ≤ R.locals ∧ b.2.2.1 ≤ R.cells ∧ b.2.2.2 ≤ R.slots ∧ ev_Kn G s
def ev_retAt (k : ev_K) (pc : Nat) : Option ev_V → Prop
  | none => decode k.1 pc = .ok (.return_, 1) ∧ k.2.2.2 = none
  | some (.inl x) => decode k.1 pc = .ok (.ireturn, 1) ∧ ∃ ty, k.2.2.2 = some ty ∧ narrow ty (.int x) = .int x
  | some (.inr (.inl _)) => decode k.1 pc = .ok (.lreturn, 1) ∧ k.2.2.2 = some .long
  | some (.inr (.inr _)) => decode k.1 pc = .ok (.areturn, 1) ∧ ∃ n, k.2.2.2 = some (.object n)
/-- a way back: at a return whose answer and memory have Q, the run goes on to Z -/
def ev_Rt (G : ev_G) (k : ev_K) (b : ev_B) (p : Program) (l : Launch) (e : Env) (R : Room) (s : State) (m : MethodId) (args : Array Value) (below : List Frame) (meth : Method) (c : Code) (Z : State → Prop) (Q : Option ev_V → ev_M → Prop) : Prop :=
  ∀ (v : Option ev_V) (M : ev_M) (H : Heap) (locs : List Loc) (u : Nat × Nat) (pc : Nat) (ls : Array Slot), Q v M → ev_Ho G M H → ev_okM M → (∀ w, v = some w → ev_ok w) → va_S (ev_AD G) s.heap H locs → u.1 ≤ b.2.2.1 → u.2 ≤ b.2.2.2 → ev_retAt k pc v →
    W p l e R s m args below meth c H locs u.1 u.2 Z (F0 m pc ls (v.toList.map (ev_real G)))
/-- the machine, at pc with these locals, this stack, this memory, comes back with Q -/
def ev_E (G : ev_G) (k : ev_K) (b : ev_B) (u : Nat × Nat) (pc : Nat) (L : List (Option ev_V)) (st : List ev_V) (M : ev_M) (Q : Option ev_V → ev_M → Prop) : Prop :=
  ∀ (p : Program) (l : Launch) (e : Env) (R : Room) (s : State) (m : MethodId) (args : Array Value) (below : List Frame) (meth : Method) (c : Code) (H : Heap) (locs : List Loc) (ls : Array Slot) (Z : State → Prop),
    ev_Fx G k b p R s m args meth c → ev_Rt G k b p l e R s m args below meth c Z Q → ev_Ho G M H → ev_okl L → ev_oks st → ev_okM M → va_S (ev_AD G) s.heap H locs → u.1 ≤ b.2.2.1 ∧ u.2 ≤ b.2.2.2 → lv_has ls k.2.2.1 (ev_al G 0 L) →
    W p l e R s m args below meth c H locs u.1 u.2 Z (F0 m pc ls (st.map (ev_real G)))
/-- a contract's words -/
def ev_ws (k : ev_K) : List Cond := .code k.2.1 k.1 k.2.2.1 k.2.2.2 :: ev_GW
def ev_Qc (G : ev_G) (Q : Option ev_V → ev_M → Prop) : Array Value → State → Outcome → State → Prop := fun _ st oc t =>
  ∃ (v : Option ev_V) (M : ev_M), oc = .returned (v.map (ev_real G)) ∧ Q v M ∧ ev_Ho G M t.heap ∧ ev_okM M ∧ (∀ w, v = some w → ev_ok w) ∧ st.heap.size ≤ t.heap.size
/-- a method's contract at these arguments and this memory -/
def ev_Ct (G : ev_G) (k : ev_K) (b : ev_B) (vs : List ev_V) (M : ev_M) (Q : Option ev_V → ev_M → Prop) : Prop :=
  ev_oks vs → ev_okM M → ∀ l : Launch, Met l k.2.1 (ev_ws k) ({ frames := b.1, cells := b.2.2.1, slots := b.2.2.2, locals := b.2.1 }) (va_Pc (vs.map (ev_real G)) (fun U => ev_Ho G M U.heap ∧ ev_Kn G U)) (ev_Qc G Q) b.2.2.1 b.2.2.2 (ev_AD G)
