/-! the memory and the lifted functions: nothing of the machine -/
def ev_u {α : Type} (f : Nat → Nat → Nat → α) (r i k : Nat) (x : α) : Nat → Nat → Nat → α := fun a b c => if a = r ∧ b = i ∧ c = k then x else f a b c
def ev_w {α : Type} (f : Nat → Nat → Nat → α) (r i : Nat) (g : Nat → α) : Nat → Nat → Nat → α := fun a b c => if a = r ∧ b = i then g c else f a b c
def ev_cst (j k : Nat) : Int32 := match j with
  | 0 => ([0, 0, 0, 1, 1, 0, -99, -99, -999, -999] : List Int32).getD k 0
  | 1 => ([99, 100, 9, 35, 35, 99, 99, 99, 999, 999] : List Int32).getD k 0
  | 2 => ([0, 0, 0, 0, 1, 0, 0, 0] : List Int32).getD k 0
  | _ => ([99, 99, 99, 999, 999, 999, 999, 100] : List Int32).getD k 0
abbrev ev_m : Type := (Nat → Nat → Nat → Int32) × (Nat → Nat → Nat → Int64) × (Nat → Nat → Nat → Option Nat)
def ev_strL : List Nat := [3, 4, 4, 3, 4, 4, 3, 4, 4, 5, 4, 3, 5, 4, 4, 5, 5, 5, 5, 4, 3, 3]
def ev_strB : List (List Int32) := [[115, 101, 97], [116, 117, 114, 110], [99, 97, 108, 109], [108, 97, 103], [109, 111, 115, 116], [103, 101, 97, 114], [114, 117, 98], [119, 105, 110, 100], [116, 114, 105, 109], [115, 116, 97, 114, 116], [115, 116, 97, 114], [102, 97, 114], [113, 117, 105, 99, 107], [98, 101, 101, 110], [100, 101, 97, 100], [112, 111, 105, 110, 116], [119, 114, 111, 110, 103], [116, 105, 114, 101, 100], [115, 108, 105, 112, 115], [101, 97, 115, 121], [114, 111, 119], [109, 97, 110]]
def bi (t : Bool) : Int32 := if t = true then 1 else 0
def ev_pim (m : ev_m) (r i j : Nat) (x : Int32) : ev_m := (ev_u m.1 r i j x, m.2)
def ev_plm (m : ev_m) (r i j : Nat) (x : Int64) : ev_m := (m.1, ev_u m.2.1 r i j x, m.2.2)
def ev_pom (m : ev_m) (r i j : Nat) (x : Option Nat) : ev_m := (m.1, m.2.1, ev_u m.2.2 r i j x)
def ev_prm (m : ev_m) (r i : Nat) (g : Nat → Int32) : ev_m := (ev_w m.1 r i g, m.2)
/-- the lifted code's words: naming, null or not, arrays, division -/
def ev_let {α β : Type} (a : α) (f : α → β) : β := f a
def ev_on {α : Type} (o : Option Nat) (a : α) (f : Nat → α) : α := match o with
  | none => a
  | some j => f j
def ev_ald (f : Nat → Int32) (n : Nat) (x : Int32) : Option Int32 := if 0 ≤ x.toInt ∧ x.toInt < n then some (f x.toNatClampNeg) else none
def ev_ast (m : ev_m) (r i n : Nat) (x y : Int32) : Option ev_m := if 0 ≤ x.toInt ∧ x.toInt < n then some (ev_pim m r i x.toNatClampNeg y) else none
def ev_bst (m : ev_m) (r i n : Nat) (x y : Int32) : Option ev_m := if 0 ≤ x.toInt ∧ x.toInt < n then some (ev_pim m r i x.toNatClampNeg (vp_nar .byte y)) else none
def ev_zst (m : ev_m) (r i n : Nat) (x y : Int32) : Option ev_m := if 0 ≤ x.toInt ∧ x.toInt < n then some (ev_pim m r i x.toNatClampNeg (vp_nar .boolean y)) else none
def ev_ard (g : Nat → Nat) (n : Nat) (x : Int32) : Option Nat := if 0 ≤ x.toInt ∧ x.toInt < n then some (g x.toNatClampNeg) else none
def ev_dv (x y : Int32) : Option Int32 := if y = 0 then none else some (x / y)
def ev_rm (x y : Int32) : Option Int32 := if y = 0 then none else some (x - x / y * y)
def ev_at (f : Nat → Int32) (n : Nat) (x : Int32) : Int32 := if 0 ≤ x.toInt ∧ x.toInt < n then f x.toNatClampNeg else 0
def ev_put (m : ev_m) (r i n : Nat) (x y : Int32) : ev_m := if 0 ≤ x.toInt ∧ x.toInt < n then ev_pim m r i x.toNatClampNeg y else m
def ev_cpm (m : ev_m) (r i i' n : Nat) : ev_m := ev_prm m r i' (va_cpy (m.1 r i) (m.1 r i') 0 0 n)
def ev_tcp (m : ev_m) (o : Option Nat) (i : Nat) : ev_m := match o with
  | none => m
  | some a => ev_pim (ev_cpm m 11 a i 600) 2 i 1 (m.1 2 a 1)
def ev_slo (j : Nat) : Option Int32 := if j < 22 then some (Int32.ofNat (ev_strL.getD j 0)) else none
def ev_sc (j : Nat) (x : Int32) : Option Int32 := ev_ald (fun k => (ev_strB.getD j []).getD k 0) (ev_strL.getD j 0) x
/-- the reference's own copying of a row's parts -/
def lp_X10_copyRow (r i ln : Nat) (n fr to : Int32) : Nat → Int32 → ev_m → (ev_m → Option ev_m) → Option ev_m
  | 0, _, _, _ => none
  | f + 1, k, m, kx => if k < n then (ev_ald (m.1 r i) ln (n * fr + k)).bind (fun x => (ev_ast m r i ln (n * to + k) x).bind (fun m' => lp_X10_copyRow r i ln n fr to f (k + 1) m' kx)) else kx m
def f_X10_copyRow (r i ln : Nat) (m : ev_m) (n fr to : Int32) : Option ev_m := lp_X10_copyRow r i ln n fr to 4000 0 m some
def f_X0_shipAt (mF : ev_m) (i0 : Nat) (x1_ : Int32) : Option (Option Nat) :=
  (if x1_ < 0 then (some (none)) else (if x1_ < (mF.1 1 i0 3) then (if x1_ < 2 then (ev_ard (fun k => 2 * i0 + k) 2 x1_).bind (fun j4 => (some (some (j4)))) else (some (none))) else (some (none))))
def f_X0_handAt (mF : ev_m) (i0 : Nat) (x1_ : Int32) : Option (Option Nat) :=
  (if x1_ < 0 then (some (none)) else (if x1_ < (mF.1 1 i0 4) then (if x1_ < 4 then (ev_ard (fun k => 4 * i0 + k) 4 x1_).bind (fun j4 => (some (some (j4)))) else (some (none))) else (some (none))))
def f_X0_paperAt (mF : ev_m) (i0 : Nat) (x1_ : Int32) : Option (Option Nat) :=
  (if x1_ < 0 then (some (none)) else (if x1_ < (mF.1 1 i0 5) then (if x1_ < 2 then (ev_ard (fun k => 2 * i0 + k) 2 x1_).bind (fun j4 => (some (some (j4)))) else (some (none))) else (some (none))))
def f_X0_watchAt (mF : ev_m) (i0 : Nat) (x1_ : Int32) : Option (Option Nat) :=
  (if x1_ < 0 then (some (none)) else (if x1_ < (mF.1 1 i0 6) then (if x1_ < 2 then (ev_ard (fun k => 2 * i0 + k) 2 x1_).bind (fun j4 => (some (some (j4)))) else (some (none))) else (some (none))))
def s_X0_countOf (mF : ev_m) (i0 : Nat) (x1_ : Int32) : Int32 :=
  (if x1_ = 0 then mF.1 1 i0 3 else if x1_ = 1 then mF.1 1 i0 4 else if x1_ = 2 then mF.1 1 i0 5 else if x1_ = 3 then mF.1 1 i0 6 else (-2))
def s_X0_placeFor (mF : ev_m) (i0 : Nat) (x1_ : Int32) (x2_ : Int32) : Int32 :=
  ev_let (s_X0_countOf mF i0 x1_ : Int32) (fun x1 => ev_let (if x1_ = 1 then 4 else (if x1_ = 0 then 2 else (if x1_ = 2 then 2 else 2)) : Int32) (fun x5 => (if x1 < 0 then (-2) else (if x2_ = ((-1)) then (if x1 < x5 then x1 else (-2)) else (if x2_ < 0 then (-2) else (if x2_ < x1 then x2_ else (-2)))))))
def s_X5_look (mF : ev_m) (i0 : Nat) (x1_ : Int32) : Int32 :=
  (if x1_ = 0 then mF.1 3 i0 0 else if x1_ = 1 then mF.1 3 i0 1 else if x1_ = 2 then mF.1 3 i0 2 else if x1_ = 3 then mF.1 3 i0 3 else if x1_ = 4 then mF.1 3 i0 4 else if x1_ = 5 then mF.1 3 i0 5 else if x1_ = 6 then mF.1 3 i0 6 else if x1_ = 7 then mF.1 3 i0 7 else if x1_ = 8 then mF.1 3 i0 8 else if x1_ = 9 then mF.1 3 i0 9 else if x1_ = 10 then mF.1 3 i0 10 else (if x1_ < 20 then (-100000) else (if x1_ < (20 + (mF.1 3 i0 10)) then ev_at (mF.1 12 i0) 12 (x1_ - 20) else (-100000))))
def s_X5_write (mF : ev_m) (i0 : Nat) (x1_ : Int32) (x2_ : Int32) : ev_m :=
  (if x1_ = 0 then ev_let (ev_pim mF 3 i0 0 x2_) (fun m20 => m20) else if x1_ = 1 then ev_let (ev_pim mF 3 i0 1 x2_) (fun m19 => m19) else if x1_ = 2 then ev_let (ev_pim mF 3 i0 2 x2_) (fun m18 => m18) else if x1_ = 3 then ev_let (ev_pim mF 3 i0 3 x2_) (fun m17 => m17) else if x1_ = 4 then ev_let (ev_pim mF 3 i0 4 x2_) (fun m16 => m16) else if x1_ = 5 then ev_let (ev_pim mF 3 i0 5 x2_) (fun m15 => m15) else if x1_ = 6 then ev_let (ev_pim mF 3 i0 6 x2_) (fun m14 => m14) else if x1_ = 7 then ev_let (ev_pim mF 3 i0 7 x2_) (fun m13 => m13) else if x1_ = 8 then ev_let (ev_pim mF 3 i0 8 x2_) (fun m12 => m12) else if x1_ = 9 then ev_let (ev_pim mF 3 i0 9 x2_) (fun m11 => m11) else mF)
def lp_X5_copy_7 (i2 : Nat) (i3 : Nat) : Nat → Int32 → ev_m → (ev_m → Option (ev_m)) → Option (ev_m)
  | 0, _, _, _ => none
  | f + 1, x4, m5, kx =>
  (if 9 < x4 then (kx m5) else ev_let (s_X5_write m5 i2 x4 (s_X5_look m5 i3 x4)) (fun m7 => (lp_X5_copy_7 i2 i3 f (x4 + 1) m7 kx)))
def f_X5_copy (mF : ev_m) (i0 : Nat) (o1_ : Option Nat) : Option (ev_m) :=
  ev_on o1_ ((some (mF))) (fun j1 => (lp_X5_copy_7 i0 j1 4000 0 mF (fun m8 => ev_let (ev_pim m8 3 i0 10 (m8.1 3 j1 10)) (fun m9 => ev_let (ev_cpm m9 12 j1 i0 12) (fun m10 => (some (m10)))))))
def f_X0_copyShip (mF : ev_m) (i0 : Nat) (o1_ : Option Nat) (x2_ : Int32) : Option (ev_m) :=
  (f_X0_shipAt mF i0 x2_).bind (fun x1 => ev_on x1 ((some (mF))) (fun j2 => (f_X5_copy mF j2 o1_).bind (fun m3 => (some (m3)))))
def jn_X1_lookStar_29 (mF : ev_m) (i2 : Nat) (x3 : Int32) : Int32 :=
  (if x3 < 20 then (-1) else (if x3 < (20 + (mF.1 4 i2 9)) then ev_at (mF.1 14 i2) 4 (x3 - 20) else (-1)))
def s_X1_lookStar (mF : ev_m) (i0 : Nat) (x1_ : Int32) : Int32 :=
  (if x1_ < 10 then (jn_X1_lookStar_29 mF i0 x1_) else (if x1_ < (10 + (mF.1 4 i0 9)) then ev_at (mF.1 13 i0) 4 (x1_ - 10) else (jn_X1_lookStar_29 mF i0 x1_)))
def s_X1_look (mF : ev_m) (i0 : Nat) (x1_ : Int32) : Int32 :=
  (if x1_ = 0 then mF.1 4 i0 0 else if x1_ = 1 then mF.1 4 i0 1 else if x1_ = 2 then mF.1 4 i0 2 else if x1_ = 3 then mF.1 4 i0 3 else if x1_ = 4 then mF.1 4 i0 4 else if x1_ = 5 then mF.1 4 i0 5 else if x1_ = 6 then mF.1 4 i0 6 else if x1_ = 7 then mF.1 4 i0 7 else if x1_ = 8 then (if (mF.1 4 i0 8) = 0 then 0 else 1) else if x1_ = 9 then mF.1 4 i0 9 else s_X1_lookStar mF i0 x1_)
def s_X1_write (mF : ev_m) (i0 : Nat) (x1_ : Int32) (x2_ : Int32) : ev_m :=
  (if x1_ = 0 then ev_let (ev_pim mF 4 i0 0 x2_) (fun m20 => m20) else if x1_ = 1 then ev_let (ev_pim mF 4 i0 1 x2_) (fun m19 => m19) else if x1_ = 2 then ev_let (ev_pim mF 4 i0 2 x2_) (fun m18 => m18) else if x1_ = 3 then ev_let (ev_pim mF 4 i0 3 x2_) (fun m17 => m17) else if x1_ = 4 then ev_let (ev_pim mF 4 i0 4 x2_) (fun m16 => m16) else if x1_ = 5 then ev_let (ev_pim mF 4 i0 5 x2_) (fun m15 => m15) else if x1_ = 6 then ev_let (ev_pim mF 4 i0 6 x2_) (fun m14 => m14) else if x1_ = 7 then ev_let (ev_pim mF 4 i0 7 x2_) (fun m13 => m13) else if x1_ = 8 then ev_let (if x2_ = 0 then 0 else 1 : Int32) (fun x11 => ev_let (ev_pim mF 4 i0 8 x11) (fun m12 => m12)) else mF)
def lp_X1_copy_7 (i2 : Nat) (i3 : Nat) : Nat → Int32 → ev_m → (ev_m → Option (ev_m)) → Option (ev_m)
  | 0, _, _, _ => none
  | f + 1, x4, m5, kx =>
  (if 8 < x4 then (kx m5) else ev_let (s_X1_write m5 i2 x4 (s_X1_look m5 i3 x4)) (fun m7 => (lp_X1_copy_7 i2 i3 f (x4 + 1) m7 kx)))
def f_X1_copy (mF : ev_m) (i0 : Nat) (o1_ : Option Nat) : Option (ev_m) :=
  ev_on o1_ ((some (mF))) (fun j1 => (lp_X1_copy_7 i0 j1 4000 0 mF (fun m8 => ev_let (ev_pim m8 4 i0 9 (m8.1 4 j1 9)) (fun m9 => ev_let (ev_cpm m9 13 j1 i0 4) (fun m10 => ev_let (ev_cpm m10 14 j1 i0 4) (fun m11 => (some (m11))))))))
def f_X0_copyHand (mF : ev_m) (i0 : Nat) (o1_ : Option Nat) (x2_ : Int32) : Option (ev_m) :=
  (f_X0_handAt mF i0 x2_).bind (fun x1 => ev_on x1 ((some (mF))) (fun j2 => (f_X1_copy mF j2 o1_).bind (fun m3 => (some (m3)))))
def s_X3_copy (mF : ev_m) (i0 : Nat) (o1_ : Option Nat) : ev_m :=
  ev_on o1_ (mF) (fun j1 => ev_let (ev_pim mF 5 i0 1 (mF.1 5 j1 1)) (fun m2 => ev_let (ev_cpm m2 15 j1 i0 60) (fun m3 => m3)))
def f_X0_copyPaper (mF : ev_m) (i0 : Nat) (o1_ : Option Nat) (x2_ : Int32) : Option (ev_m) :=
  (f_X0_paperAt mF i0 x2_).bind (fun x1 => ev_on x1 ((some (mF))) (fun j2 => ev_let (s_X3_copy mF j2 o1_) (fun m3 => (some (m3)))))
def s_X7_copy (mF : ev_m) (i0 : Nat) (o1_ : Option Nat) : ev_m :=
  ev_on o1_ (mF) (fun j1 => ev_let (ev_pim mF 6 i0 2 (mF.1 6 j1 2)) (fun m2 => ev_let (ev_cpm m2 16 j1 i0 8) (fun m3 => ev_let (ev_cpm m3 17 j1 i0 8) (fun m4 => m4))))
def f_X0_copyWatch (mF : ev_m) (i0 : Nat) (o1_ : Option Nat) (x2_ : Int32) : Option (ev_m) :=
  (f_X0_watchAt mF i0 x2_).bind (fun x1 => ev_on x1 ((some (mF))) (fun j2 => ev_let (s_X7_copy mF j2 o1_) (fun m3 => (some (m3)))))
def f_X0_keep (mF : ev_m) (i0 : Nat) (x1_ : Int32) (x2_ : Int32) (o3_ : Option Nat) : Option (ev_m) :=
  ev_on o3_ ((some (mF))) (fun j1 => (if x1_ = 0 then ev_let (ev_pim mF 1 i0 3 ((if (mF.1 1 i0 3) < (x2_ + 1) then (x2_ + 1) else (mF.1 1 i0 3)))) (fun m12 => (f_X0_copyShip m12 i0 (some 9) x2_).bind (fun m13 => (some (m13)))) else if x1_ = 1 then ev_let (ev_pim mF 1 i0 4 ((if (mF.1 1 i0 4) < (x2_ + 1) then (x2_ + 1) else (mF.1 1 i0 4)))) (fun m10 => (f_X0_copyHand m10 i0 (some 17) x2_).bind (fun m11 => (some (m11)))) else if x1_ = 2 then ev_let (ev_pim mF 1 i0 5 ((if (mF.1 1 i0 5) < (x2_ + 1) then (x2_ + 1) else (mF.1 1 i0 5)))) (fun m8 => (f_X0_copyPaper m8 i0 (some 8) x2_).bind (fun m9 => (some (m9)))) else if x1_ = 3 then ev_let (ev_pim mF 1 i0 6 ((if (mF.1 1 i0 6) < (x2_ + 1) then (x2_ + 1) else (mF.1 1 i0 6)))) (fun m6 => (f_X0_copyWatch m6 i0 (some 8) x2_).bind (fun m7 => (some (m7)))) else (some (mF))))
def lp_X0_copy_66 (i9 : Nat) (i10 : Nat) : Nat → Int32 → ev_m → (ev_m → Option (ev_m)) → Option (ev_m)
  | 0, _, _, _ => none
  | f + 1, x11, m12, kx =>
  (if x11 < 2 then (f_X0_shipAt m12 i10 x11).bind (fun x14 => (f_X0_copyShip m12 i9 x14 x11).bind (fun m15 => (lp_X0_copy_66 i9 i10 f (x11 + 1) m15 kx))) else (kx m12))
def lp_X0_copy_89 (i17 : Nat) (i18 : Nat) : Nat → Int32 → ev_m → (ev_m → Option (ev_m)) → Option (ev_m)
  | 0, _, _, _ => none
  | f + 1, x19, m20, kx =>
  (if x19 < 4 then (f_X0_handAt m20 i18 x19).bind (fun x22 => (f_X0_copyHand m20 i17 x22 x19).bind (fun m23 => (lp_X0_copy_89 i17 i18 f (x19 + 1) m23 kx))) else (kx m20))
def lp_X0_copy_112 (i25 : Nat) (i26 : Nat) : Nat → Int32 → ev_m → (ev_m → Option (ev_m)) → Option (ev_m)
  | 0, _, _, _ => none
  | f + 1, x27, m28, kx =>
  (if x27 < 2 then (f_X0_paperAt m28 i26 x27).bind (fun x30 => (f_X0_copyPaper m28 i25 x30 x27).bind (fun m31 => (lp_X0_copy_112 i25 i26 f (x27 + 1) m31 kx))) else (kx m28))
def lp_X0_copy_135 (i33 : Nat) (i34 : Nat) : Nat → Int32 → ev_m → (ev_m → Option (ev_m)) → Option (ev_m)
  | 0, _, _, _ => none
  | f + 1, x35, m36, kx =>
  (if x35 < 2 then (f_X0_watchAt m36 i34 x35).bind (fun x38 => (f_X0_copyWatch m36 i33 x38 x35).bind (fun m39 => (lp_X0_copy_135 i33 i34 f (x35 + 1) m39 kx))) else (kx m36))
def f_X0_copy (mF : ev_m) (i0 : Nat) (o1_ : Option Nat) : Option (ev_m) :=
  ev_on o1_ ((some (mF))) (fun j1 => ev_let (ev_tcp mF (some j1) i0) (fun m2 => ev_let (ev_pim m2 1 i0 1 (m2.1 1 j1 1)) (fun m3 => ev_let (ev_pim m3 1 i0 2 (m3.1 1 j1 2)) (fun m4 => ev_let (ev_pim m4 1 i0 3 (m4.1 1 j1 3)) (fun m5 => ev_let (ev_pim m5 1 i0 4 (m5.1 1 j1 4)) (fun m6 => ev_let (ev_pim m6 1 i0 5 (m6.1 1 j1 5)) (fun m7 => ev_let (ev_pim m7 1 i0 6 (m7.1 1 j1 6)) (fun m8 => (lp_X0_copy_66 i0 j1 4000 0 m8 (fun m16 => (lp_X0_copy_89 i0 j1 4000 0 m16 (fun m24 => (lp_X0_copy_112 i0 j1 4000 0 m24 (fun m32 => (lp_X0_copy_135 i0 j1 4000 0 m32 (fun m40 => (some (m40))))))))))))))))))
def lp_X1_clear_2 (i1 : Nat) : Nat → Int32 → ev_m → (ev_m → Option (ev_m)) → Option (ev_m)
  | 0, _, _, _ => none
  | f + 1, x2, m3, kx =>
  (if 8 < x2 then (kx m3) else ev_let (s_X1_write m3 i1 x2 0) (fun m5 => (lp_X1_clear_2 i1 f (x2 + 1) m5 kx)))
def f_X1_clear (mF : ev_m) (i0 : Nat) : Option (ev_m) :=
  (lp_X1_clear_2 i0 4000 0 mF (fun m6 => ev_let (ev_pim m6 4 i0 4 1) (fun m7 => ev_let (ev_pim m7 4 i0 9 0) (fun m8 => (some (m8))))))
def s_X1_addStar (mF : ev_m) (i0 : Nat) (x1_ : Int32) (x2_ : Int32) : Bool × ev_m :=
  (if (mF.1 4 i0 9) < 4 then ev_let (ev_put mF 13 i0 4 (mF.1 4 i0 9) x1_) (fun m2 => ev_let (ev_put m2 14 i0 4 (m2.1 4 i0 9) x2_) (fun m3 => ev_let (ev_pim m3 4 i0 9 ((m3.1 4 i0 9) + 1)) (fun m4 => (true, m4)))) else (false, mF))
def jn_X1_hasStarAt_36_2 (mF : ev_m) (i1 : Nat) (x2 : Int32) (x6 : Int32) (kb : Int32 → Option (Bool)) (kx : Unit → Option (Bool)) : Option (Bool) :=
  (kb (x6 + 1))
def lp_X1_hasStarAt_2 (mF : ev_m) (i1 : Nat) (x2 : Int32) : Nat → Int32 → (Unit → Option (Bool)) → Option (Bool)
  | 0, _, _ => none
  | f + 1, x3, kx =>
  (if x3 < (mF.1 4 i1 9) then (if x2 < (ev_at (mF.1 13 i1) 4 x3) then (jn_X1_hasStarAt_36_2 mF i1 x2 x3 (fun z0 => lp_X1_hasStarAt_2 mF i1 x2 f z0 kx) (kx)) else (if (ev_at (mF.1 14 i1) 4 x3) < x2 then (jn_X1_hasStarAt_36_2 mF i1 x2 x3 (fun z0 => lp_X1_hasStarAt_2 mF i1 x2 f z0 kx) (kx)) else (some (true)))) else (kx ()))
def f_X1_hasStarAt (mF : ev_m) (i0 : Nat) (x1_ : Int32) : Option (Bool) :=
  (lp_X1_hasStarAt_2 mF i0 x1_ 4000 0 (fun (_ : Unit) => (some (false))))
def f_X1_slowBy (mF : ev_m) (i0 : Nat) (x1_ : Int32) : Option (Int32) :=
  (if 0 < (mF.1 4 i0 6) then (ev_dv x1_ (mF.1 4 i0 6)).bind (fun x2 => (some ((if x2 < 5 then x2 else 5)))) else (some (0)))
def f_X1_pointed (mF : ev_m) (i0 : Nat) (x1_ : Int32) : Option (Int32) :=
  (if 0 < (mF.1 4 i0 4) then (ev_rm x1_ (mF.1 4 i0 4)).bind (fun x2 => (some (x1_ - x2))) else (some (x1_)))
def jn_X1_ruled_56 (mF : ev_m) (i14 : Nat) (x15 : Int32) (x16 : Int32) (x17 : Int32) : Int32 :=
  ((((-(mF.1 4 i14 0)) * x15) - ((mF.1 4 i14 1) * x16)) - (((mF.1 4 i14 2) * x17) / 100)) / 100
def jn_X1_ruled_19 (mF : ev_m) (i2 : Nat) (x3 : Int32) (x4 : Int32) (x5 : Int32) : Int32 :=
  ev_let (if 0 < x4 then (if x3 < 0 then 1 else (if x4 < 0 then (if 0 < x3 then 1 else 0) else 0)) else (if x4 < 0 then (if 0 < x3 then 1 else 0) else 0) : Int32) (fun x12 => (if (mF.1 4 i2 8) = 0 then (jn_X1_ruled_56 mF i2 x3 x4 x5) else (if x12 = 0 then (jn_X1_ruled_56 mF i2 x3 x4 x5) else 0)))
def s_X1_ruled (mF : ev_m) (i0 : Nat) (x1_ : Int32) (x2_ : Int32) (x3_ : Int32) : Int32 :=
  (if x1_ < (-(mF.1 4 i0 3)) then (jn_X1_ruled_19 mF i0 x1_ x2_ x3_) else (if (mF.1 4 i0 3) < x1_ then (jn_X1_ruled_19 mF i0 x1_ x2_ x3_) else 0))
def s_X2_relieve (mF : ev_m) (i0 : Nat) (o1_ : Option Nat) : ev_m :=
  ev_let (ev_pom mF 9 i0 0 o1_) (fun m1 => ev_let (ev_pim m1 9 i0 1 0) (fun m2 => ev_let (ev_pim m2 9 i0 2 0) (fun m3 => ev_let (ev_pim m3 9 i0 3 0) (fun m4 => m4))))
def s_X8_headingAgo (mF : ev_m) (i0 : Nat) (x1_ : Int32) : Int32 :=
  ev_at (mF.1 18 0) 401 ((if 0 < ((mF.1 8 i0 1) - x1_) then ((mF.1 8 i0 1) - x1_) else 0))
def s_X9_within (mF : ev_m) (x0_ : Int32) (x1_ : Int32) : Int32 :=
  (if (-x1_) < ((if x0_ < x1_ then x0_ else x1_)) then ((if x0_ < x1_ then x0_ else x1_)) else (-x1_))
def s_X8_drawn (mF : ev_m) (i0 : Nat) : Int32 × ev_m :=
  ev_let (ev_pim mF 8 i0 6 (((mF.1 8 i0 6) * 1103515245) + 12345)) (fun m1 => ((((m1.1 8 i0 6).toUInt32 >>> ((16 : Int32).toUInt32 &&& Int32.toUInt32 31)).toInt32) - (((m1.1 8 i0 6).toUInt32 >>> ((16 : Int32).toUInt32 &&& Int32.toUInt32 31)).toInt32) / 100 * 100, m1))
def s_X8_rudderNow (mF : ev_m) (i0 : Nat) : Int32 :=
  ev_at (mF.1 20 0) 401 (mF.1 8 i0 1)
def jn_X2_wants_67 (m19 : ev_m) (i16 : Nat) (i17 : Nat) (x18 : Int32) : Option (Int32 × ev_m) :=
  ev_let (m19.2.2 9 i16 0) (fun o20 => ev_on o20 none (fun j21 => (f_X1_pointed m19 j21 (s_X8_headingAgo m19 i17 x18)).bind (fun x22 => ev_let (if (m19.1 9 i16 1) = 1 then 0 else (x22 - (m19.1 9 i16 3)) : Int32) (fun x24 => ev_let (ev_pim m19 9 i16 2 (s_X9_within m19 ((m19.1 9 i16 2) + x22) 9999)) (fun m25 => ev_let (ev_pim m25 9 i16 3 x22) (fun m26 => ev_let (m26.2.2 9 i16 0) (fun o27 => ev_on o27 none (fun j28 => ev_let (m26.2.2 8 i17 0) (fun o29 => ev_on o29 none (fun j30 => ev_let (s_X9_within m26 (s_X1_ruled m26 j28 x22 x24 (m26.1 9 i16 2)) (m26.1 3 j30 3) : Int32) (fun x31 => ev_let (m26.2.2 9 i16 0) (fun o32 => ev_on o32 none (fun j33 => ev_let (if (m26.1 4 j33 5) < (m26.1 9 i16 1) then x31 else (-x31) : Int32) (fun x35 => ev_let (m26.2.2 9 i16 0) (fun o36 => ev_on o36 none (fun j37 => (if 0 < (m26.1 4 j37 7) then ev_let (s_X8_drawn m26 i17) (fun p39 => ev_let (p39.2.2.2 9 i16 0) (fun o40 => ev_on o40 none (fun j41 => (if p39.1 < (p39.2.1 4 j41 7) then (some ((s_X8_rudderNow p39.2 i17, p39.2))) else (some ((x35, p39.2))))))) else (some ((x35, m26))))))))))))))))))))
def f_X2_wants (mF : ev_m) (i0 : Nat) (o1_ : Option Nat) : Option (Int32 × ev_m) :=
  ev_let (mF.2.2 9 i0 0) (fun o1 => ev_on o1 ((some ((0, mF)))) (fun j2 => ev_on o1_ ((some ((0, mF)))) (fun j3 => ev_let (mF.2.2 8 j3 0) (fun o4 => ev_on o4 ((some ((0, mF)))) (fun j5 => ev_let (ev_pim mF 9 i0 1 ((mF.1 9 i0 1) + 1)) (fun m6 => ev_let (m6.2.2 9 i0 0) (fun o7 => ev_on o7 none (fun j8 => (f_X1_hasStarAt m6 j8 (m6.1 9 i0 1)).bind (fun x9 => (if x9 = true then (jn_X2_wants_67 m6 i0 j3 0) else ev_let (m6.2.2 8 j3 0) (fun o11 => ev_on o11 none (fun j12 => ev_let (m6.2.2 9 i0 0) (fun o13 => ev_on o13 none (fun j14 => (f_X1_slowBy m6 j14 (m6.1 9 i0 1)).bind (fun x15 => (jn_X2_wants_67 m6 i0 j3 ((m6.1 3 j12 2) + x15)))))))))))))))))
def s_X3_clear (mF : ev_m) (i0 : Nat) : ev_m :=
  ev_let (ev_pim mF 5 i0 1 0) (fun m1 => m1)
def s_X3_addHeading (mF : ev_m) (i0 : Nat) (x1_ : Int32) : Bool × ev_m :=
  (if (mF.1 5 i0 1) < 60 then ev_let (ev_put mF 15 i0 60 (mF.1 5 i0 1) x1_) (fun m2 => ev_let (ev_pim m2 5 i0 1 ((m2.1 5 i0 1) + 1)) (fun m3 => (true, m3))) else (false, mF))
def s_X5_clear (mF : ev_m) (i0 : Nat) : ev_m :=
  ev_let (ev_pim mF 3 i0 0 5) (fun m1 => ev_let (ev_pim m1 3 i0 1 10) (fun m2 => ev_let (ev_pim m2 3 i0 2 0) (fun m3 => ev_let (ev_pim m3 3 i0 3 35) (fun m4 => ev_let (ev_pim m4 3 i0 4 35) (fun m5 => ev_let (ev_pim m5 3 i0 5 0) (fun m6 => ev_let (ev_pim m6 3 i0 6 0) (fun m7 => ev_let (ev_pim m7 3 i0 7 0) (fun m8 => ev_let (ev_pim m8 3 i0 8 0) (fun m9 => ev_let (ev_pim m9 3 i0 9 0) (fun m10 => ev_let (ev_pim m10 3 i0 10 1) (fun m11 => ev_let (ev_put m11 12 i0 12 0 0) (fun m12 => m12))))))))))))
def s_X7_clear (mF : ev_m) (i0 : Nat) : ev_m :=
  ev_let (ev_pim mF 6 i0 2 0) (fun m1 => m1)
def f_X6_byteAt (mF : ev_m) (i0 : Nat) (x1_ : Int32) : Option (Int32) :=
  (if x1_ < 0 then (some ((-1))) else (if x1_ < (mF.1 2 i0 1) then (if x1_ < 600 then (ev_ald (mF.1 11 i0) 600 x1_).bind (fun x4 => (some (x4 &&& 255))) else (some ((-1)))) else (some ((-1)))))
def jn_X4_kindOf_49 (mF : ev_m) (x7 : Int32) : Int32 :=
  (if x7 = 45 then 3 else (if x7 = 59 then 4 else 6))
def jn_X4_kindOf_35 (mF : ev_m) (x5 : Int32) : Int32 :=
  (if x5 < 48 then (jn_X4_kindOf_49 mF x5) else (if 57 < x5 then (jn_X4_kindOf_49 mF x5) else 2))
def s_X4_kindOf (mF : ev_m) (x0_ : Int32) : Int32 :=
  (if x0_ = ((-1)) then 0 else (if x0_ = 10 then 5 else (if x0_ = 32 then 5 else (if x0_ < 97 then (jn_X4_kindOf_35 mF x0_) else (if 122 < x0_ then (jn_X4_kindOf_35 mF x0_) else 1)))))
def lp_X4_next_111 (i12 : Nat) (x13 : Int32) : Nat → ev_m → (ev_m → Option (ev_m)) → Option (ev_m)
  | 0, _, _ => none
  | f + 1, m14, kx =>
  (if x13 = 0 then (kx m14) else (if (m14.1 7 i12 9) < (m14.1 2 4 1) then (f_X6_byteAt m14 4 (m14.1 7 i12 9)).bind (fun x17 => (if (s_X4_kindOf m14 x17) = (m14.1 7 i12 7) then ev_let (ev_pim m14 7 i12 9 ((m14.1 7 i12 9) + 1)) (fun m19 => (lp_X4_next_111 i12 x13 f m19 kx)) else (kx m14))) else (kx m14)))
def jn_X4_next_163 (m22 : ev_m) (i21 : Nat) : Option (ev_m) :=
  (if (m22.1 7 i21 7) = 2 then (if 4 < ((m22.1 7 i21 9) - (m22.1 7 i21 8)) then ev_let (ev_pim m22 7 i21 7 6) (fun m25 => (some (m25))) else (some (m22))) else (some (m22)))
def jn_X4_next_45 (m3 : ev_m) (i2 : Nat) : Option (ev_m) :=
  ev_let (ev_pim m3 7 i2 8 (m3.1 7 i2 9)) (fun m4 => (f_X6_byteAt m4 4 (m4.1 7 i2 8)).bind (fun x5 => ev_let (ev_pim m4 7 i2 7 (s_X4_kindOf m4 x5)) (fun m6 => (if (m6.1 7 i2 7) = 0 then (some (m6)) else ev_let (if (m6.1 7 i2 7) = 1 then 1 else (if (m6.1 7 i2 7) = 2 then 1 else 0) : Int32) (fun x10 => ev_let (ev_pim m6 7 i2 9 ((m6.1 7 i2 9) + 1)) (fun m11 => (lp_X4_next_111 i2 x10 4000 m11 (fun m20 => (jn_X4_next_163 m20 i2)))))))))
def lp_X4_next_0 (i29 : Nat) : Nat → ev_m → (ev_m → Option (ev_m)) → Option (ev_m)
  | 0, _, _ => none
  | f + 1, m30, kx =>
  (if (m30.1 7 i29 9) < (m30.1 2 4 1) then (f_X6_byteAt m30 4 (m30.1 7 i29 9)).bind (fun x32 => (if (s_X4_kindOf m30 x32) = 5 then ev_let (ev_pim m30 7 i29 9 ((m30.1 7 i29 9) + 1)) (fun m34 => (lp_X4_next_0 i29 f m34 kx)) else (kx m30))) else (kx m30))
def f_X4_next (mF : ev_m) (i0 : Nat) : Option (ev_m) :=
  (if (mF.1 7 i0 9) < (mF.1 2 4 1) then (f_X6_byteAt mF 4 (mF.1 7 i0 9)).bind (fun x26 => (if (s_X4_kindOf mF x26) = 5 then ev_let (ev_pim mF 7 i0 9 ((mF.1 7 i0 9) + 1)) (fun m28 => (lp_X4_next_0 i0 4000 m28 (fun m35 => (jn_X4_next_45 m35 i0)))) else (jn_X4_next_45 mF i0))) else (jn_X4_next_45 mF i0))
def lp_X4_isWord_24 (mF : ev_m) (i3 : Nat) (i4 : Nat) : Nat → Int32 → (Unit → Option (Bool)) → Option (Bool)
  | 0, _, _ => none
  | f + 1, x5, kx =>
  (ev_slo i4).bind (fun x6 => (if x5 < x6 then (f_X6_byteAt mF 4 ((mF.1 7 i3 8) + x5)).bind (fun x8 => (ev_sc i4 x5).bind (fun x9 => (if x8 = x9 then (lp_X4_isWord_24 mF i3 i4 f (x5 + 1) kx) else (some (false))))) else (kx ())))
def f_X4_isWord (mF : ev_m) (i0 : Nat) (s1_ : Nat) : Option (Bool) :=
  (ev_slo s1_).bind (fun x1 => (if ((mF.1 7 i0 9) - (mF.1 7 i0 8)) = x1 then (lp_X4_isWord_24 mF i0 s1_ 4000 0 (fun (_ : Unit) => (some (true)))) else (some (false))))
def s_X4_goesOnWithNumber (mF : ev_m) (i0 : Nat) : Bool :=
  (if (mF.1 7 i0 7) = 2 then true else (if (mF.1 7 i0 7) = 3 then true else false))
def jn_X4_note_41 (m9 : ev_m) (i6 : Nat) (x7 : Int32) (x8 : Int32) : ev_m :=
  ev_let (ev_pim m9 7 i6 4 x7) (fun m10 => ev_let (ev_pim m10 7 i6 5 x8) (fun m11 => m11))
def s_X4_note (mF : ev_m) (i0 : Nat) (x1_ : Int32) (x2_ : Int32) : ev_m :=
  ev_let (if x2_ < (mF.1 7 i0 5) then 1 else (if x2_ = (mF.1 7 i0 5) then (if x1_ < (mF.1 7 i0 4) then 1 else 0) else 0) : Int32) (fun x4 => (if (mF.1 7 i0 4) = 0 then (jn_X4_note_41 mF i0 x1_ x2_) else (if x4 = 0 then mF else (jn_X4_note_41 mF i0 x1_ x2_))))
def lp_X4_takeNumber_55 (m19 : ev_m) (i13 : Nat) (x14 : Int32) (x15 : Int32) (x16 : Int32) : Nat → Int32 → Int32 → (Int32 → Option (Bool × ev_m)) → Option (Bool × ev_m)
  | 0, _, _, _ => none
  | f + 1, x17, x18, kx =>
  (if x18 < (m19.1 7 i13 9) then (f_X6_byteAt m19 4 x18).bind (fun x21 => ev_let (((10 * x17) + x21) - 48 : Int32) (fun x22 => (lp_X4_takeNumber_55 m19 i13 x14 x15 x16 f x22 (x18 + 1) kx))) else (kx x17))
def jn_X4_takeNumber_132 (m32 : ev_m) (i31 : Nat) : Option (Bool × ev_m) :=
  (f_X4_next m32 i31).bind (fun m33 => (some ((true, m33))))
def jn_X4_takeNumber_123 (m29 : ev_m) (i28 : Nat) : Option (Bool × ev_m) :=
  ev_let (s_X4_note m29 i28 2 (m29.1 7 i28 8)) (fun m30 => (jn_X4_takeNumber_132 m30 i28))
def jn_X4_takeNumber_36 (m10 : ev_m) (i6 : Nat) (x7 : Int32) (x8 : Int32) (x9 : Int32) : Option (Bool × ev_m) :=
  (if (m10.1 7 i6 7) = 2 then ev_let (m10.1 7 i6 8 : Int32) (fun x12 => (lp_X4_takeNumber_55 m10 i6 x7 x8 x9 4000 0 x12 (fun x23 => ev_let (if x9 = 0 then x23 else (-x23) : Int32) (fun x25 => ev_let (ev_pim m10 7 i6 10 x25) (fun m26 => (if (m26.1 7 i6 10) < x7 then (jn_X4_takeNumber_123 m26 i6) else (if x8 < (m26.1 7 i6 10) then (jn_X4_takeNumber_123 m26 i6) else (jn_X4_takeNumber_132 m26 i6)))))))) else (some ((false, m10))))
def f_X4_takeNumber (mF : ev_m) (i0 : Nat) (x1_ : Int32) (x2_ : Int32) (x3_ : Int32) : Option (Bool × ev_m) :=
  ev_let (ev_pim mF 7 i0 11 (mF.1 7 i0 8)) (fun m1 => ev_let (if x1_ = 0 then 0 else (if (m1.1 7 i0 7) = 3 then 1 else 0) : Int32) (fun x4 => (if x4 = 0 then (jn_X4_takeNumber_36 m1 i0 x2_ x3_ x4) else (f_X4_next m1 i0).bind (fun m35 => (jn_X4_takeNumber_36 m35 i0 x2_ x3_ x4)))))
def s_X5_addSea (mF : ev_m) (i0 : Nat) (x1_ : Int32) : Bool × ev_m :=
  (if (mF.1 3 i0 10) < 12 then ev_let (ev_put mF 12 i0 12 (mF.1 3 i0 10) x1_) (fun m2 => ev_let (ev_pim m2 3 i0 10 ((m2.1 3 i0 10) + 1)) (fun m3 => (true, m3))) else (false, mF))
def jn_X4_takeSeas_69_14 (m14 : ev_m) (i3 : Nat) (x13 : Int32) (kb : Int32 → ev_m → Option (Bool × ev_m)) (kx : ev_m → Option (Bool × ev_m)) : Option (Bool × ev_m) :=
  (kb (x13 + 1) m14)
def jn_X4_takeSeas_32_14 (m8 : ev_m) (i3 : Nat) (x7 : Int32) (kb : Int32 → ev_m → Option (Bool × ev_m)) (kx : ev_m → Option (Bool × ev_m)) : Option (Bool × ev_m) :=
  (f_X4_takeNumber m8 i3 1 ((-99)) 99).bind (fun p9 => (if p9.1 = true then ev_let (s_X5_addSea p9.2 9 (p9.2.1 7 i3 10)) (fun p11 => (if p11.1 = true then (jn_X4_takeSeas_69_14 (p11.2) i3 x7 (kb) (kx)) else ev_let (s_X4_note p11.2 i3 3 (p11.2.1 7 i3 11)) (fun m15 => (jn_X4_takeSeas_69_14 m15 i3 x7 (kb) (kx))))) else (some ((false, p9.2)))))
def lp_X4_takeSeas_14 (i3 : Nat) : Nat → Int32 → ev_m → (ev_m → Option (Bool × ev_m)) → Option (Bool × ev_m)
  | 0, _, _, _ => none
  | f + 1, x4, m5, kx =>
  (if x4 = 0 then (jn_X4_takeSeas_32_14 m5 i3 x4 (fun z0 z1 => lp_X4_takeSeas_14 i3 f z0 z1 kx) (kx)) else (if 600 < x4 then (kx m5) else (if (s_X4_goesOnWithNumber m5 i3) = true then (jn_X4_takeSeas_32_14 m5 i3 x4 (fun z0 z1 => lp_X4_takeSeas_14 i3 f z0 z1 kx) (kx)) else (kx m5))))
def f_X4_takeSeas (mF : ev_m) (i0 : Nat) : Option (Bool × ev_m) :=
  ev_let (ev_pim mF 3 9 10 0) (fun m1 => (f_X4_next m1 i0).bind (fun m2 => (lp_X4_takeSeas_14 i0 4000 0 m2 (fun m18 => (some ((true, m18)))))))
def f_X4_shipWord (mF : ev_m) (i0 : Nat) : Option (Int32) :=
  (f_X4_isWord mF i0 1).bind (fun x1 => (if x1 = true then (some (0)) else (f_X4_isWord mF i0 2).bind (fun x3 => (if x3 = true then (some (1)) else (f_X4_isWord mF i0 3).bind (fun x5 => (if x5 = true then (some (2)) else (f_X4_isWord mF i0 4).bind (fun x7 => (if x7 = true then (some (3)) else (f_X4_isWord mF i0 5).bind (fun x9 => (if x9 = true then (some (4)) else (f_X4_isWord mF i0 6).bind (fun x11 => (if x11 = true then (some (5)) else (f_X4_isWord mF i0 7).bind (fun x13 => (if x13 = true then (some (6)) else (f_X4_isWord mF i0 8).bind (fun x15 => (if x15 = true then (some (7)) else (f_X4_isWord mF i0 9).bind (fun x17 => (if x17 = true then (some (8)) else (some ((-1)))))))))))))))))))))
def f_X4_takeShipNumber (mF : ev_m) (i0 : Nat) (x1_ : Int32) : Option (Bool × ev_m) :=
  ev_let (if x1_ < 6 then 0 else 1 : Int32) (fun x2 => (f_X4_takeNumber mF i0 x2 (ev_at (ev_cst 0) 10 x1_) (ev_at (ev_cst 1) 10 x1_)).bind (fun p3 => (if p3.1 = true then ev_let (s_X5_write p3.2 9 x1_ (p3.2.1 7 i0 10)) (fun m5 => (some ((true, m5)))) else (some ((false, p3.2))))))
def f_X4_takeShipNumbers (mF : ev_m) (i0 : Nat) : Option (Bool × ev_m) :=
  (f_X4_shipWord mF i0).bind (fun x1 => (if x1 = ((-1)) then (some ((false, mF))) else (f_X4_next mF i0).bind (fun m3 => (f_X4_takeShipNumber m3 i0 x1).bind (fun p4 => (if p4.1 = true then (if x1 = 8 then (f_X4_takeShipNumber p4.2 i0 9).bind (fun p7 => (if p7.1 = true then (some ((true, p7.2))) else (some ((false, p7.2))))) else (some ((true, p4.2)))) else (some ((false, p4.2))))))))
def f_X4_takeStar (mF : ev_m) (i0 : Nat) : Option (Bool × ev_m) :=
  ev_let (mF.1 7 i0 8 : Int32) (fun x1 => (f_X4_next mF i0).bind (fun m2 => (f_X4_takeNumber m2 i0 0 0 999).bind (fun p3 => (if p3.1 = true then ev_let (p3.2.1 7 i0 10 : Int32) (fun x5 => (f_X4_takeNumber p3.2 i0 0 x5 999).bind (fun p6 => (if p6.1 = true then ev_let (s_X1_addStar p6.2 17 x5 (p6.2.1 7 i0 10)) (fun p8 => (if p8.1 = true then (some ((true, p8.2))) else ev_let (s_X4_note p8.2 i0 3 x1) (fun m10 => (some ((true, m10)))))) else (some ((false, p6.2)))))) else (some ((false, p3.2)))))))
def f_X4_handWord (mF : ev_m) (i0 : Nat) : Option (Int32) :=
  (f_X4_isWord mF i0 11).bind (fun x1 => (if x1 = true then (some (0)) else (f_X4_isWord mF i0 12).bind (fun x3 => (if x3 = true then (some (1)) else (f_X4_isWord mF i0 13).bind (fun x5 => (if x5 = true then (some (2)) else (f_X4_isWord mF i0 14).bind (fun x7 => (if x7 = true then (some (3)) else (f_X4_isWord mF i0 15).bind (fun x9 => (if x9 = true then (some (4)) else (f_X4_isWord mF i0 16).bind (fun x11 => (if x11 = true then (some (5)) else (f_X4_isWord mF i0 17).bind (fun x13 => (if x13 = true then (some (6)) else (f_X4_isWord mF i0 18).bind (fun x15 => (if x15 = true then (some (7)) else (f_X4_isWord mF i0 19).bind (fun x17 => (if x17 = true then (some (8)) else (some ((-1)))))))))))))))))))))
def f_X4_takeHandNumber (mF : ev_m) (i0 : Nat) : Option (Bool × ev_m) :=
  (f_X4_handWord mF i0).bind (fun x1 => (if x1 = ((-1)) then (some ((false, mF))) else (f_X4_next mF i0).bind (fun m3 => (if x1 = 8 then ev_let (s_X1_write m3 17 8 1) (fun m8 => (some ((true, m8)))) else (f_X4_takeNumber m3 i0 0 (ev_at (ev_cst 2) 8 x1) (ev_at (ev_cst 3) 8 x1)).bind (fun p5 => (if p5.1 = true then ev_let (s_X1_write p5.2 17 x1 (p5.2.1 7 i0 10)) (fun m7 => (some ((true, m7)))) else (some ((false, p5.2)))))))))
def jn_X4_takeHeadings_63_6 (m13 : ev_m) (i2 : Nat) (x12 : Int32) (kb : Int32 → ev_m → Option (Bool × ev_m)) (kx : ev_m → Option (Bool × ev_m)) : Option (Bool × ev_m) :=
  (kb (x12 + 1) m13)
def jn_X4_takeHeadings_24_6 (m7 : ev_m) (i2 : Nat) (x6 : Int32) (kb : Int32 → ev_m → Option (Bool × ev_m)) (kx : ev_m → Option (Bool × ev_m)) : Option (Bool × ev_m) :=
  (f_X4_takeNumber m7 i2 1 ((-9999)) 9999).bind (fun p8 => (if p8.1 = true then ev_let (s_X3_addHeading p8.2 8 (p8.2.1 7 i2 10)) (fun p10 => (if p10.1 = true then (jn_X4_takeHeadings_63_6 (p10.2) i2 x6 (kb) (kx)) else ev_let (s_X4_note p10.2 i2 3 (p10.2.1 7 i2 11)) (fun m14 => (jn_X4_takeHeadings_63_6 m14 i2 x6 (kb) (kx))))) else (some ((false, p8.2)))))
def lp_X4_takeHeadings_6 (i2 : Nat) : Nat → Int32 → ev_m → (ev_m → Option (Bool × ev_m)) → Option (Bool × ev_m)
  | 0, _, _, _ => none
  | f + 1, x3, m4, kx =>
  (if x3 = 0 then (jn_X4_takeHeadings_24_6 m4 i2 x3 (fun z0 z1 => lp_X4_takeHeadings_6 i2 f z0 z1 kx) (kx)) else (if 600 < x3 then (kx m4) else (if (s_X4_goesOnWithNumber m4 i2) = true then (jn_X4_takeHeadings_24_6 m4 i2 x3 (fun z0 z1 => lp_X4_takeHeadings_6 i2 f z0 z1 kx) (kx)) else (kx m4))))
def f_X4_takeHeadings (mF : ev_m) (i0 : Nat) : Option (Bool × ev_m) :=
  (f_X4_next mF i0).bind (fun m1 => (lp_X4_takeHeadings_6 i0 4000 0 m1 (fun m17 => (some ((true, m17))))))
def s_X7_addMan (mF : ev_m) (i0 : Nat) (x1_ : Int32) (x2_ : Int32) : Bool × ev_m :=
  (if (mF.1 6 i0 2) < 8 then ev_let (ev_put mF 16 i0 8 (mF.1 6 i0 2) x1_) (fun m2 => ev_let (ev_put m2 17 i0 8 (m2.1 6 i0 2) x2_) (fun m3 => ev_let (ev_pim m3 6 i0 2 ((m3.1 6 i0 2) + 1)) (fun m4 => (true, m4)))) else (false, mF))
def f_X4_takeMan (mF : ev_m) (i0 : Nat) : Option (Bool × ev_m) :=
  ev_let (mF.1 7 i0 8 : Int32) (fun x1 => (f_X4_next mF i0).bind (fun m2 => (f_X4_takeNumber m2 i0 0 0 3).bind (fun p3 => (if p3.1 = true then ev_let (p3.2.1 7 i0 10 : Int32) (fun x5 => (f_X4_takeNumber p3.2 i0 0 1 200).bind (fun p6 => (if p6.1 = true then ev_let (s_X7_addMan p6.2 8 x5 (p6.2.1 7 i0 10)) (fun p8 => (if p8.1 = true then (some ((true, p8.2))) else ev_let (s_X4_note p8.2 i0 3 x1) (fun m10 => (some ((true, m10)))))) else (some ((false, p6.2)))))) else (some ((false, p3.2)))))))
def f_X4_takeLine (mF : ev_m) (i0 : Nat) (x1_ : Int32) : Option (Bool × ev_m) :=
  (if x1_ = 0 then (f_X4_isWord mF i0 0).bind (fun x17 => (if x17 = true then (f_X4_takeSeas mF i0).bind (fun p20 => (some ((p20.1, p20.2)))) else (f_X4_takeShipNumbers mF i0).bind (fun p19 => (some ((p19.1, p19.2)))))) else if x1_ = 1 then (f_X4_isWord mF i0 10).bind (fun x13 => (if x13 = true then (f_X4_takeStar mF i0).bind (fun p16 => (some ((p16.1, p16.2)))) else (f_X4_takeHandNumber mF i0).bind (fun p15 => (some ((p15.1, p15.2)))))) else if x1_ = 2 then (f_X4_isWord mF i0 20).bind (fun x9 => (if x9 = true then (f_X4_takeHeadings mF i0).bind (fun p11 => (if p11.1 = true then (some ((true, p11.2))) else (some ((false, p11.2))))) else (some ((false, mF))))) else if x1_ = 3 then (f_X4_isWord mF i0 21).bind (fun x5 => (if x5 = true then (f_X4_takeMan mF i0).bind (fun p7 => (if p7.1 = true then (some ((true, p7.2))) else (some ((false, p7.2))))) else (some ((false, mF))))) else (some ((false, mF))))
def f_X4_takeSemicolon (mF : ev_m) (i0 : Nat) : Option (Bool × ev_m) :=
  (if (mF.1 7 i0 7) = 4 then (f_X4_next mF i0).bind (fun m2 => (some ((true, m2)))) else (some ((false, mF))))
def jn_X4_take_107_60 (m23 : ev_m) (i10 : Nat) (x11 : Int32) (x21 : Int32) (x22 : Int32) (kb : Int32 → Int32 → ev_m → Option (ev_m)) (kx : Int32 → ev_m → Option (ev_m)) : Option (ev_m) :=
  (kb x22 (x21 + 1) m23)
def jn_X4_take_106_60 (m20 : ev_m) (i10 : Nat) (x11 : Int32) (x19 : Int32) (kb : Int32 → Int32 → ev_m → Option (ev_m)) (kx : Int32 → ev_m → Option (ev_m)) : Option (ev_m) :=
  (jn_X4_take_107_60 m20 i10 x11 x19 0 (kb) (kx))
def lp_X4_take_60 (i10 : Nat) (x11 : Int32) : Nat → Int32 → Int32 → ev_m → (Int32 → ev_m → Option (ev_m)) → Option (ev_m)
  | 0, _, _, _, _ => none
  | f + 1, x12, x13, m14, kx =>
  (if 600 < x13 then (kx x12 m14) else (if x12 = 0 then (kx x12 m14) else (if (m14.1 7 i10 7) = 0 then (kx x12 m14) else (if (m14.1 7 i10 7) = 1 then (f_X4_takeLine m14 i10 x11).bind (fun p24 => (if p24.1 = true then (f_X4_takeSemicolon p24.2 i10).bind (fun p26 => ev_let (if p26.1 = true then 1 else 0 : Int32) (fun x28 => (lp_X4_take_60 i10 x11 f x28 (x13 + 1) (p26.2) kx))) else (jn_X4_take_106_60 (p24.2) i10 x11 x13 (fun z0 z1 z2 => lp_X4_take_60 i10 x11 f z0 z1 z2 kx) (kx)))) else (jn_X4_take_106_60 m14 i10 x11 x13 (fun z0 z1 z2 => lp_X4_take_60 i10 x11 f z0 z1 z2 kx) (kx))))))
def jn_X4_take_114 (m34 : ev_m) (i31 : Nat) (x32 : Int32) (x33 : Int32) : Option (ev_m) :=
  (if x33 = 0 then ev_let (ev_pim m34 7 i31 4 1) (fun m39 => ev_let (ev_pim m39 7 i31 5 (m39.1 7 i31 8)) (fun m40 => (some (m40)))) else (if x32 = 2 then (if (m34.1 5 8 1) = 0 then ev_let (s_X4_note m34 i31 4 (m34.1 7 i31 8)) (fun m38 => (some (m38))) else (some (m34))) else (some (m34))))
def f_X4_take (mF : ev_m) (i0 : Nat) (x1_ : Int32) (o2_ : Option Nat) : Option (ev_m) :=
  ev_let (ev_tcp mF o2_ 4) (fun m1 => ev_let (ev_pim m1 7 i0 4 0) (fun m2 => ev_let (ev_pim m2 7 i0 5 ((-1))) (fun m3 => ev_let (s_X5_clear m3 9) (fun m4 => (f_X1_clear m4 17).bind (fun m5 => ev_let (s_X3_clear m5 8) (fun m6 => ev_let (s_X7_clear m6 8) (fun m7 => ev_let (ev_pim m7 7 i0 9 0) (fun m8 => (f_X4_next m8 i0).bind (fun m9 => (lp_X4_take_60 i0 x1_ 4000 1 0 m9 (fun x29 m30 => (jn_X4_take_114 m30 i0 x1_ x29))))))))))))
def lp_X5_takeSeas_15 (i3 : Nat) (i4 : Nat) (x5 : Int32) : Nat → Int32 → ev_m → (ev_m → Option (ev_m)) → Option (ev_m)
  | 0, _, _, _ => none
  | f + 1, x6, m7, kx =>
  (if x6 < (m7.1 3 i3 10) then ev_let (ev_put m7 12 i3 12 x6 (x5 * (ev_at (m7.1 12 i4) 12 x6))) (fun m9 => (lp_X5_takeSeas_15 i3 i4 x5 f (x6 + 1) m9 kx)) else (kx m7))
def f_X5_takeSeas (mF : ev_m) (i0 : Nat) (o1_ : Option Nat) (x2_ : Int32) : Option (ev_m) :=
  ev_on o1_ ((some (mF))) (fun j1 => ev_let (ev_pim mF 3 i0 10 (mF.1 3 j1 10)) (fun m2 => (lp_X5_takeSeas_15 i0 j1 x2_ 4000 0 m2 (fun m10 => (some (m10))))))
def f_X5_seaOf (mF : ev_m) (i0 : Nat) (x1_ : Int32) : Option (Int32) :=
  (if 0 < (mF.1 3 i0 10) then (ev_rm (x1_ - 1) (mF.1 3 i0 10)).bind (fun x2 => (some (ev_at (mF.1 12 i0) 12 x2))) else (some (0)))
def f_X6_addByte (mF : ev_m) (i0 : Nat) (x1_ : Int32) : Option (ev_m) :=
  (if (mF.1 2 i0 1) < 0 then (some (mF)) else (if (mF.1 2 i0 1) < 600 then (ev_bst mF 11 i0 600 (mF.1 2 i0 1) x1_.toInt8.toInt32).bind (fun m3 => ev_let (ev_pim m3 2 i0 1 ((m3.1 2 i0 1) + 1)) (fun m4 => (some (m4)))) else (some (mF))))
def f_X6_addWord (mF : ev_m) (i0 : Nat) (x1_ : Int32) : Option (ev_m) :=
  (f_X6_addByte mF i0 ((x1_.toUInt32 >>> ((24 : Int32).toUInt32 &&& Int32.toUInt32 31)).toInt32)).bind (fun m1 => (f_X6_addByte m1 i0 ((x1_.toUInt32 >>> ((16 : Int32).toUInt32 &&& Int32.toUInt32 31)).toInt32)).bind (fun m2 => (f_X6_addByte m2 i0 ((x1_.toUInt32 >>> ((8 : Int32).toUInt32 &&& Int32.toUInt32 31)).toInt32)).bind (fun m3 => (f_X6_addByte m3 i0 x1_).bind (fun m4 => (some (m4))))))
def jn_X8_begin_52 (m15 : ev_m) (i12 : Nat) (x13 : Int32) (x14 : Int32) : ev_m :=
  ev_let (ev_put m15 19 0 401 x14 x13) (fun m16 => ev_let (ev_put m16 20 0 401 0 0) (fun m17 => ev_let (ev_put m17 21 0 401 0 0) (fun m18 => m18)))
def jn_X8_begin_32 (m9 : ev_m) (i5 : Nat) (o6 : Option Nat) (x7 : Int32) (x8 : Int32) : ev_m :=
  ev_let (ev_put m9 18 0 401 x8 x7) (fun m10 => ev_on o6 ((jn_X8_begin_52 m10 i5 0 0)) (fun j11 => (jn_X8_begin_52 m10 i5 (m10.1 3 j11 9) 0)))
def s_X8_begin (mF : ev_m) (i0 : Nat) (o1_ : Option Nat) (x2_ : Int32) : ev_m :=
  ev_let (ev_pom mF 8 i0 0 o1_) (fun m1 => ev_let (ev_pim m1 8 i0 6 x2_) (fun m2 => ev_let (ev_pim m2 8 i0 1 0) (fun m3 => ev_on o1_ ((jn_X8_begin_32 m3 i0 none 0 0)) (fun j4 => (jn_X8_begin_32 m3 i0 (some j4) (m3.1 3 j4 8) 0)))))
def f_X8_move (mF : ev_m) (i0 : Nat) (x1_ : Int32) : Option (ev_m) :=
  ev_let (mF.2.2 8 i0 0) (fun o1 => ev_on o1 ((some (mF))) (fun j2 => ev_let (ev_at (mF.1 18 0) 401 (mF.1 8 i0 1) : Int32) (fun x3 => ev_let (ev_at (mF.1 19 0) 401 (mF.1 8 i0 1) : Int32) (fun x4 => ev_let (mF.2.2 8 i0 0) (fun o5 => ev_on o5 none (fun j6 => ev_let ((s_X8_rudderNow mF i0) + (s_X9_within mF (x1_ - (s_X8_rudderNow mF i0)) (mF.1 3 j6 4)) : Int32) (fun x7 => ev_let (ev_pim mF 8 i0 1 ((mF.1 8 i0 1) + 1)) (fun m8 => ev_let (m8.2.2 8 i0 0) (fun o9 => ev_on o9 none (fun j10 => ev_let (m8.2.2 8 i0 0) (fun o11 => ev_on o11 none (fun j12 => ev_let (m8.2.2 8 i0 0) (fun o13 => ev_on o13 none (fun j14 => ev_let (m8.2.2 8 i0 0) (fun o15 => ev_on o15 none (fun j16 => (f_X5_seaOf m8 j16 (m8.1 8 i0 1)).bind (fun x17 => ev_let (m8.2.2 8 i0 0) (fun o18 => ev_on o18 none (fun j19 => ev_let (s_X9_within m8 (((((x4 - ((x4 * (m8.1 3 j10 1)) / 100)) + ((m8.1 3 j12 0) * x7)) + (m8.1 3 j14 6)) + x17) - (((m8.1 3 j19 7) * x3) / 100)) 9999 : Int32) (fun x20 => ev_let (ev_put m8 18 0 401 (m8.1 8 i0 1) (s_X9_within m8 (x3 + x20) 18000)) (fun m21 => ev_let (ev_put m21 19 0 401 (m21.1 8 i0 1) x20) (fun m22 => ev_let (ev_put m22 20 0 401 (m22.1 8 i0 1) x7) (fun m23 => ev_let (ev_put m23 21 0 401 (m23.1 8 i0 1) (m23.1 9 0 3)) (fun m24 => (some (m24))))))))))))))))))))))))))
def lp_X8_steer_10 (i2 : Nat) (x3 : Int32) : Nat → Int32 → ev_m → (ev_m → Option (ev_m)) → Option (ev_m)
  | 0, _, _, _ => none
  | f + 1, x4, m5, kx =>
  (if x4 < x3 then (if (m5.1 8 i2 1) < 400 then (f_X2_wants m5 0 (some i2)).bind (fun p8 => (f_X8_move p8.2 i2 p8.1).bind (fun m9 => (lp_X8_steer_10 i2 x3 f (x4 + 1) m9 kx))) else (kx m5)) else (kx m5))
def f_X8_steer (mF : ev_m) (i0 : Nat) (o1_ : Option Nat) (x2_ : Int32) : Option (ev_m) :=
  ev_let (s_X2_relieve mF 0 o1_) (fun m1 => (lp_X8_steer_10 i0 x2_ 4000 0 m1 (fun m10 => (some (m10)))))
def f_X8_sail (mF : ev_m) (i0 : Nat) (o1_ : Option Nat) (o2_ : Option Nat) (x3_ : Int32) (x4_ : Int32) : Option (ev_m) :=
  ev_let (s_X8_begin mF i0 o1_ x3_) (fun m1 => (f_X8_steer m1 i0 o2_ x4_).bind (fun m2 => (some (m2))))
def lp_X8_steerTogether_19 (i3 : Nat) (x4 : Int32) : Nat → Int32 → ev_m → (ev_m → Option (ev_m)) → Option (ev_m)
  | 0, _, _, _ => none
  | f + 1, x5, m6, kx =>
  (if x5 < x4 then (if (m6.1 8 i3 1) < 400 then (f_X2_wants m6 0 (some i3)).bind (fun p9 => ev_let (p9.1 : Int32) (fun x10 => (f_X2_wants p9.2 1 (some i3)).bind (fun p11 => (f_X8_move p11.2 i3 ((x10 + p11.1) / 2)).bind (fun m12 => (lp_X8_steerTogether_19 i3 x4 f (x5 + 1) m12 kx))))) else (kx m6)) else (kx m6))
def f_X8_steerTogether (mF : ev_m) (i0 : Nat) (o1_ : Option Nat) (o2_ : Option Nat) (x3_ : Int32) : Option (ev_m) :=
  ev_let (s_X2_relieve mF 0 o1_) (fun m1 => ev_let (s_X2_relieve m1 1 o2_) (fun m2 => (lp_X8_steerTogether_19 i0 x3_ 4000 0 m2 (fun m13 => (some (m13))))))
def s_X8_offAt (mF : ev_m) (i0 : Nat) (x1_ : Int32) : Int32 :=
  (if 0 ≤ (ev_at (mF.1 18 0) 401 x1_) then (ev_at (mF.1 18 0) 401 x1_) else 0 - (ev_at (mF.1 18 0) 401 x1_))
def s_X8_turnedAt (mF : ev_m) (i0 : Nat) (x1_ : Int32) : Int32 :=
  (if 0 ≤ ((ev_at (mF.1 20 0) 401 x1_) - (ev_at (mF.1 20 0) 401 (x1_ - 1))) then ((ev_at (mF.1 20 0) 401 x1_) - (ev_at (mF.1 20 0) 401 (x1_ - 1))) else 0 - ((ev_at (mF.1 20 0) 401 x1_) - (ev_at (mF.1 20 0) 401 (x1_ - 1))))
def f_X8_costAt (mF : ev_m) (i0 : Nat) (x1_ : Int32) : Option (Int64) :=
  ev_let (mF.2.2 8 i0 0) (fun o1 => ev_on o1 ((some (0))) (fun j2 => ev_let (mF.2.2 8 i0 0) (fun o3 => ev_on o3 none (fun j4 => (some (((s_X8_offAt mF i0 x1_) + ((mF.1 3 j4 5) * (s_X8_turnedAt mF i0 x1_))).toInt64))))))
def lp_X8_cost_4 (mF : ev_m) (i1 : Nat) : Nat → Int64 → Int32 → (Int64 → Option (Int64)) → Option (Int64)
  | 0, _, _, _ => none
  | f + 1, y2, x3, kx =>
  (if (mF.1 8 i1 1) < x3 then (kx y2) else (f_X8_costAt mF i1 x3).bind (fun x5 => ev_let (y2 + x5 : Int64) (fun y6 => (lp_X8_cost_4 mF i1 f y6 (x3 + 1) kx))))
def f_X8_cost (mF : ev_m) (i0 : Nat) : Option (Int64) :=
  (lp_X8_cost_4 mF i0 4000 0 1 (fun y7 => (some (y7))))
def lp_X8_off_4 (mF : ev_m) (i1 : Nat) : Nat → Int64 → Int32 → (Int64 → Option (Int64)) → Option (Int64)
  | 0, _, _, _ => none
  | f + 1, y2, x3, kx =>
  (if (mF.1 8 i1 1) < x3 then (kx y2) else ev_let (y2 + ((s_X8_offAt mF i1 x3).toInt64) : Int64) (fun y5 => (lp_X8_off_4 mF i1 f y5 (x3 + 1) kx)))
def f_X8_off (mF : ev_m) (i0 : Nat) : Option (Int64) :=
  (lp_X8_off_4 mF i0 4000 0 1 (fun y6 => (some (y6))))
def lp_X8_wear_4 (mF : ev_m) (i1 : Nat) : Nat → Int64 → Int32 → (Int64 → Option (Int64)) → Option (Int64)
  | 0, _, _, _ => none
  | f + 1, y2, x3, kx =>
  (if (mF.1 8 i1 1) < x3 then (kx y2) else ev_let (y2 + ((s_X8_turnedAt mF i1 x3).toInt64) : Int64) (fun y5 => (lp_X8_wear_4 mF i1 f y5 (x3 + 1) kx)))
def f_X8_wear (mF : ev_m) (i0 : Nat) : Option (Int64) :=
  (lp_X8_wear_4 mF i0 4000 0 1 (fun y6 => (some (y6))))
def lp_X8_lost_4 (mF : ev_m) (i1 : Nat) : Nat → Int64 → Int32 → (Int64 → Option (Int64)) → Option (Int64)
  | 0, _, _, _ => none
  | f + 1, y2, x3, kx =>
  (if (mF.1 8 i1 1) < x3 then (kx y2) else ev_let (y2 + ((((s_X8_offAt mF i1 x3) * (s_X8_offAt mF i1 x3)) / 1000).toInt64) : Int64) (fun y5 => (lp_X8_lost_4 mF i1 f y5 (x3 + 1) kx)))
def f_X8_lost (mF : ev_m) (i0 : Nat) : Option (Int64) :=
  (lp_X8_lost_4 mF i0 4000 0 1 (fun y6 => (some (y6))))
def lp_X8_widest_4 (mF : ev_m) (i1 : Nat) : Nat → Int32 → Int32 → (Int32 → Option (Int64)) → Option (Int64)
  | 0, _, _, _ => none
  | f + 1, x2, x3, kx =>
  (if (mF.1 8 i1 1) < x3 then (kx x2) else ev_let ((if x2 < (s_X8_offAt mF i1 x3) then (s_X8_offAt mF i1 x3) else x2) : Int32) (fun x5 => (lp_X8_widest_4 mF i1 f x5 (x3 + 1) kx)))
def f_X8_widest (mF : ev_m) (i0 : Nat) : Option (Int64) :=
  (lp_X8_widest_4 mF i0 4000 0 1 (fun x6 => (some (x6.toInt64))))
def lp_X8_drift_4 (mF : ev_m) (i1 : Nat) : Nat → Int64 → Int32 → (Int64 → Option (Int64)) → Option (Int64)
  | 0, _, _, _ => none
  | f + 1, y2, x3, kx =>
  (if (mF.1 8 i1 1) < x3 then (kx y2) else ev_let (y2 + ((ev_at (mF.1 18 0) 401 x3).toInt64) : Int64) (fun y5 => (lp_X8_drift_4 mF i1 f y5 (x3 + 1) kx)))
def f_X8_drift (mF : ev_m) (i0 : Nat) : Option (Int64) :=
  (lp_X8_drift_4 mF i0 4000 0 1 (fun y6 => (some (y6))))
def s_J6_compare_7cf53 (mF : ev_m) (x0_ : Int32) (x1_ : Int32) : Int32 :=
  (if x0_ < x1_ then (-1) else (if x0_ = x1_ then 0 else 1))
def s_X8_signAt (mF : ev_m) (i0 : Nat) (x1_ : Int32) : Int32 :=
  s_J6_compare_7cf53 mF (ev_at (mF.1 18 0) 401 x1_) 0
def lp_X8_crossings_10 (mF : ev_m) (i2 : Nat) : Nat → Int32 → Int32 → Int32 → (Int32 → Option (Int64)) → Option (Int64)
  | 0, _, _, _, _ => none
  | f + 1, x3, x4, x5, kx =>
  (if (mF.1 8 i2 1) < x5 then (kx x4) else ev_let (if ((s_X8_signAt mF i2 x5) * x3) < 0 then (x4 + 1) else x4 : Int32) (fun x8 => ev_let (if (s_X8_signAt mF i2 x5) = 0 then x3 else (s_X8_signAt mF i2 x5) : Int32) (fun x10 => (lp_X8_crossings_10 mF i2 f x10 x8 (x5 + 1) kx))))
def f_X8_crossings (mF : ev_m) (i0 : Nat) : Option (Int64) :=
  ev_let (s_X8_signAt mF i0 0 : Int32) (fun x1 => (lp_X8_crossings_10 mF i0 4000 x1 0 1 (fun x11 => (some (x11.toInt64)))))
def jn_X8_peakAt_48_14 (mF : ev_m) (i2 : Nat) (x3 : Int32) (x10 : Int32) (x11 : Int32) (x12 : Int32) (x13 : Int32) (kb : Int32 → Int32 → Int32 → Int32 → Option (Int32)) (kx : Int32 → Int32 → Option (Int32)) : Option (Int32) :=
  ev_let (if (s_X8_signAt mF i2 x13) = 0 then x10 else (s_X8_signAt mF i2 x13) : Int32) (fun x15 => ev_let ((if x12 < (s_X8_offAt mF i2 x13) then (s_X8_offAt mF i2 x13) else x12) : Int32) (fun x16 => (kb x15 x11 x16 (x13 + 1))))
def lp_X8_peakAt_14 (mF : ev_m) (i2 : Nat) (x3 : Int32) : Nat → Int32 → Int32 → Int32 → Int32 → (Int32 → Int32 → Option (Int32)) → Option (Int32)
  | 0, _, _, _, _, _ => none
  | f + 1, x4, x5, x6, x7, kx =>
  (if (mF.1 8 i2 1) < x7 then (kx x5 x6) else (if ((s_X8_signAt mF i2 x7) * x4) < 0 then (if x5 = x3 then (some (x6)) else (jn_X8_peakAt_48_14 mF i2 x3 x4 (x5 + 1) 0 x7 (fun z0 z1 z2 z3 => lp_X8_peakAt_14 mF i2 x3 f z0 z1 z2 z3 kx) (kx))) else (jn_X8_peakAt_48_14 mF i2 x3 x4 x5 x6 x7 (fun z0 z1 z2 z3 => lp_X8_peakAt_14 mF i2 x3 f z0 z1 z2 z3 kx) (kx))))
def f_X8_peakAt (mF : ev_m) (i0 : Nat) (x1_ : Int32) : Option (Int32) :=
  ev_let (s_X8_signAt mF i0 0 : Int32) (fun x1 => (lp_X8_peakAt_14 mF i0 x1_ 4000 x1 0 0 1 (fun x18 x19 => (if x18 = x1_ then (some (x19)) else (some ((-1)))))))
def f_X8_grows (mF : ev_m) (i0 : Nat) : Option (Bool) :=
  (f_X8_crossings mF i0).bind (fun x1 => ev_let (x1.toInt32 + 1 : Int32) (fun x2 => (if x2 < 3 then (some (false)) else (f_X8_peakAt mF i0 (x2 - 2)).bind (fun x4 => (f_X8_peakAt mF i0 (x2 - 3)).bind (fun x5 => (if x5 < x4 then (some (true)) else (some (false))))))))
def lp_X8_spokes_4 (mF : ev_m) (i1 : Nat) : Nat → Int32 → Int32 → (Int32 → Option (Int64)) → Option (Int64)
  | 0, _, _, _ => none
  | f + 1, x2, x3, kx =>
  (if (mF.1 8 i1 1) < x3 then (kx x2) else ev_let (if (s_X8_turnedAt mF i1 x3) = 0 then 0 else 1 : Int32) (fun x6 => ev_let (x2 + x6 : Int32) (fun x7 => (lp_X8_spokes_4 mF i1 f x7 (x3 + 1) kx))))
def f_X8_spokes (mF : ev_m) (i0 : Nat) : Option (Int64) :=
  (lp_X8_spokes_4 mF i0 4000 0 1 (fun x8 => (some (x8.toInt64))))
def lp_X8_waits_6 (mF : ev_m) (i1 : Nat) : Nat → Int32 → Int32 → Int32 → (Int32 → Option (Int64)) → Option (Int64)
  | 0, _, _, _, _ => none
  | f + 1, x2, x3, x4, kx =>
  (if (mF.1 8 i1 1) < x4 then (kx x2) else ev_let (if (s_X8_turnedAt mF i1 x4) = 0 then (x3 + 1) else 0 : Int32) (fun x7 => ev_let ((if x2 < x7 then x7 else x2) : Int32) (fun x8 => (lp_X8_waits_6 mF i1 f x8 x7 (x4 + 1) kx))))
def f_X8_waits (mF : ev_m) (i0 : Nat) : Option (Int64) :=
  (lp_X8_waits_6 mF i0 4000 0 0 1 (fun x9 => (some (x9.toInt64))))
def f_X8_tally (mF : ev_m) (i0 : Nat) (x1_ : Int32) : Option (Int64) :=
  (if x1_ = 0 then (f_X8_cost mF i0).bind (fun x21 => (some (x21))) else if x1_ = 1 then (f_X8_off mF i0).bind (fun x20 => (some (x20))) else if x1_ = 2 then (f_X8_wear mF i0).bind (fun x19 => (some (x19))) else if x1_ = 3 then (f_X8_lost mF i0).bind (fun x18 => (some (x18))) else if x1_ = 4 then (f_X8_widest mF i0).bind (fun x17 => (some (x17))) else if x1_ = 5 then (f_X8_drift mF i0).bind (fun x16 => (some (x16))) else if x1_ = 6 then (f_X8_crossings mF i0).bind (fun x15 => (some (x15))) else if x1_ = 7 then (f_X8_grows mF i0).bind (fun x13 => (if x13 = true then (some (1)) else (some (0)))) else if x1_ = 8 then (f_X8_spokes mF i0).bind (fun x12 => (some (x12))) else if x1_ = 9 then (f_X8_waits mF i0).bind (fun x11 => (some (x11))) else (some ((-9223372036854775808))))
def lp_X8_earliestBeyond_2 (mF : ev_m) (i1 : Nat) (x2 : Int32) : Nat → Int32 → (Unit → Option (Int32)) → Option (Int32)
  | 0, _, _ => none
  | f + 1, x3, kx =>
  (if (mF.1 8 i1 1) < x3 then (kx ()) else (if x2 < (s_X8_offAt mF i1 x3) then (some (x3)) else (lp_X8_earliestBeyond_2 mF i1 x2 f (x3 + 1) kx)))
def f_X8_earliestBeyond (mF : ev_m) (i0 : Nat) (x1_ : Int32) : Option (Int32) :=
  (lp_X8_earliestBeyond_2 mF i0 x1_ 4000 1 (fun (_ : Unit) => (some ((-1)))))
def lp_X8_latestBeyond_5 (mF : ev_m) (i2 : Nat) (x3 : Int32) : Nat → Int32 → (Unit → Option (Int32)) → Option (Int32)
  | 0, _, _ => none
  | f + 1, x4, kx =>
  (if x4 < 1 then (kx ()) else (if x3 < (s_X8_offAt mF i2 x4) then (some (x4)) else (lp_X8_latestBeyond_5 mF i2 x3 f (x4 + (-1)) kx)))
def f_X8_latestBeyond (mF : ev_m) (i0 : Nat) (x1_ : Int32) : Option (Int32) :=
  ev_let (mF.1 8 i0 1 : Int32) (fun x1 => (lp_X8_latestBeyond_5 mF i0 x1_ 4000 x1 (fun (_ : Unit) => (some (0)))))
def jn_X8_dearest_33_4 (mF : ev_m) (i1 : Nat) (x7 : Int32) (x8 : Int32) (kb : Int32 → Int32 → Option (Int32)) (kx : Int32 → Option (Int32)) : Option (Int32) :=
  (kb x7 (x8 + 1))
def jn_X8_dearest_31_4 (mF : ev_m) (i1 : Nat) (x6 : Int32) (kb : Int32 → Int32 → Option (Int32)) (kx : Int32 → Option (Int32)) : Option (Int32) :=
  (jn_X8_dearest_33_4 mF i1 x6 x6 (kb) (kx))
def lp_X8_dearest_4 (mF : ev_m) (i1 : Nat) : Nat → Int32 → Int32 → (Int32 → Option (Int32)) → Option (Int32)
  | 0, _, _, _ => none
  | f + 1, x2, x3, kx =>
  (if (mF.1 8 i1 1) < x3 then (kx x2) else (if x2 = ((-1)) then (jn_X8_dearest_31_4 mF i1 x3 (fun z0 z1 => lp_X8_dearest_4 mF i1 f z0 z1 kx) (kx)) else (f_X8_costAt mF i1 x3).bind (fun x9 => (f_X8_costAt mF i1 x2).bind (fun x10 => ev_let (if x10 < x9 then x3 else x2 : Int32) (fun x12 => (lp_X8_dearest_4 mF i1 f x12 (x3 + 1) kx))))))
def f_X8_dearest (mF : ev_m) (i0 : Nat) : Option (Int32) :=
  (lp_X8_dearest_4 mF i0 4000 ((-1)) 1 (fun x13 => (some (x13))))
def lp_X8_halfway_10 (mF : ev_m) (i2 : Nat) (y3 : Int64) : Nat → Int64 → Int32 → (Unit → Option (Int32)) → Option (Int32)
  | 0, _, _, _ => none
  | f + 1, y4, x5, kx =>
  (if (mF.1 8 i2 1) < x5 then (kx ()) else (f_X8_costAt mF i2 x5).bind (fun x7 => ev_let (y4 + x7 : Int64) (fun y8 => (if (2 * y8) < y3 then (lp_X8_halfway_10 mF i2 y3 f y8 (x5 + 1) kx) else (some (x5))))))
def f_X8_halfway (mF : ev_m) (i0 : Nat) : Option (Int32) :=
  (f_X8_cost mF i0).bind (fun x1 => (lp_X8_halfway_10 mF i0 x1 4000 0 1 (fun (_ : Unit) => (some ((-1))))))
def lp_X8_apartFrom_4 (mF : ev_m) (i1 : Nat) (o2 : Option Nat) : Nat → Int32 → Int32 → (Int32 → Option (Int32)) → Option (Int32)
  | 0, _, _, _ => none
  | f + 1, x3, x4, kx =>
  ev_on o2 ((kx x3)) (fun j5 => (if x4 < (mF.1 5 j5 1) then ev_let (x3 + ((if 0 ≤ ((ev_at (mF.1 15 j5) 60 x4) - (ev_at (mF.1 18 0) 401 (x4 + 1))) then ((ev_at (mF.1 15 j5) 60 x4) - (ev_at (mF.1 18 0) 401 (x4 + 1))) else 0 - ((ev_at (mF.1 15 j5) 60 x4) - (ev_at (mF.1 18 0) 401 (x4 + 1))))) : Int32) (fun x7 => (lp_X8_apartFrom_4 mF i1 o2 f x7 (x4 + 1) kx)) else (kx x3)))
def f_X8_apartFrom (mF : ev_m) (i0 : Nat) (o1_ : Option Nat) : Option (Int32) :=
  (lp_X8_apartFrom_4 mF i0 o1_ 4000 0 0 (fun x8 => (some (x8))))
def lp_X8_alikeTo_2 (mF : ev_m) (i1 : Nat) (o2 : Option Nat) : Nat → Int32 → (Int32 → Option (Int32)) → Option (Int32)
  | 0, _, _ => none
  | f + 1, x3, kx =>
  ev_on o2 ((kx x3)) (fun j4 => (if x3 < (mF.1 5 j4 1) then (if (ev_at (mF.1 15 j4) 60 x3) = (ev_at (mF.1 18 0) 401 (x3 + 1)) then (lp_X8_alikeTo_2 mF i1 o2 f (x3 + 1) kx) else (kx x3)) else (kx x3)))
def f_X8_alikeTo (mF : ev_m) (i0 : Nat) (o1_ : Option Nat) : Option (Int32) :=
  (lp_X8_alikeTo_2 mF i0 o1_ 4000 0 (fun x7 => (some (x7))))
def f_X9_feed (mF : ev_m) (i0 : Nat) (x1_ : Int32) (x2_ : Int32) (x3_ : Int32) (x4_ : Int32) (x5_ : Int32) : Option (Int32 × ev_m) :=
  (if 580 < (mF.1 2 0 1) then (some (((-1), mF))) else (f_X6_addWord mF 0 x1_).bind (fun m2 => (f_X6_addWord m2 0 x2_).bind (fun m3 => (f_X6_addWord m3 0 x3_).bind (fun m4 => (f_X6_addWord m4 0 x4_).bind (fun m5 => (f_X6_addWord m5 0 x5_).bind (fun m6 => (some ((m6.1 2 0 1, m6)))))))))
def s_X9_end (mF : ev_m) (i0 : Nat) (x1_ : Int32) : Int32 × ev_m :=
  (if x1_ < 0 then ((-1), mF) else (if (mF.1 2 0 1) < x1_ then ((-1), mF) else ev_let (ev_pim mF 2 0 1 x1_) (fun m3 => (x1_, m3))))
def f_X9_text (mF : ev_m) (i0 : Nat) (x1_ : Int32) (x2_ : Int32) : Option (Int32 × ev_m) :=
  ev_let (s_X0_placeFor mF 0 x1_ x2_ : Int32) (fun x1 => (if x1 = ((-2)) then ev_let (ev_pim mF 2 0 1 0) (fun m9 => ev_let (ev_pim m9 1 0 1 0) (fun m10 => ev_let (ev_pim m10 1 0 2 ((-1))) (fun m11 => (some (((-2), m11)))))) else (f_X4_take mF 0 x1_ (some 0)).bind (fun m3 => ev_let (ev_pim m3 2 0 1 0) (fun m4 => ev_let (ev_pim m4 1 0 1 (m4.1 7 0 4)) (fun m5 => ev_let (ev_pim m5 1 0 2 (m5.1 7 0 5)) (fun m6 => (if (m6.1 7 0 4) = 0 then (f_X0_keep m6 0 x1_ x1 (some 0)).bind (fun m8 => (some ((x1, m8)))) else (some (((-1), m6))))))))))
def s_X9_fault (mF : ev_m) (i0 : Nat) (x1_ : Int32) : Int32 :=
  (if x1_ = 0 then mF.1 1 0 1 else (if x1_ = 1 then mF.1 1 0 2 else (-1)))
def f_X9_ship (mF : ev_m) (i0 : Nat) (x1_ : Int32) (x2_ : Int32) : Option (Int32) :=
  (f_X0_shipAt mF 0 x1_).bind (fun x1 => ev_on x1 ((some ((-100000)))) (fun j2 => (some (s_X5_look mF j2 x2_))))
def f_X9_hand (mF : ev_m) (i0 : Nat) (x1_ : Int32) (x2_ : Int32) : Option (Int32) :=
  (f_X0_handAt mF 0 x1_).bind (fun x1 => ev_on x1 ((some ((-1)))) (fun j2 => (some (s_X1_look mF j2 x2_))))
def f_X9_paper (mF : ev_m) (i0 : Nat) (x1_ : Int32) (x2_ : Int32) : Option (Int32) :=
  (f_X0_paperAt mF 0 x1_).bind (fun x1 => ev_on x1 ((some ((-100000)))) (fun j2 => (if x2_ < ((-1)) then (some ((-100000))) else (if x2_ < (mF.1 5 j2 1) then (if x2_ = ((-1)) then (some (mF.1 5 j2 1)) else (some (ev_at (mF.1 15 j2) 60 x2_))) else (some ((-100000)))))))
def f_X9_watch (mF : ev_m) (i0 : Nat) (x1_ : Int32) (x2_ : Int32) (x3_ : Int32) : Option (Int32) :=
  (f_X0_watchAt mF 0 x1_).bind (fun x1 => ev_on x1 ((some ((-1)))) (fun j2 => (if x2_ < ((-1)) then (some ((-1))) else (if x2_ < (mF.1 6 j2 2) then (if x2_ = ((-1)) then (if x3_ = 0 then (some (mF.1 6 j2 2)) else (some ((-1)))) else (if x3_ = 0 then (some (ev_at (mF.1 16 j2) 8 x2_)) else (if x3_ = 1 then (some (ev_at (mF.1 17 j2) 8 x2_)) else (some ((-1)))))) else (some ((-1)))))))
def jn_X9_sailed_37 (m11 : ev_m) (i6 : Nat) (x7 : Int32) (x8 : Int32) (i9 : Nat) (o10 : Option Nat) : Option (Bool × ev_m) :=
  (f_X8_sail m11 0 (some i9) o10 x7 x8).bind (fun m12 => (some ((true, m12))))
def f_X9_sailed (mF : ev_m) (i0 : Nat) (x1_ : Int32) (x2_ : Int32) (x3_ : Int32) (x4_ : Int32) : Option (Bool × ev_m) :=
  (f_X0_shipAt mF 0 x1_).bind (fun x1 => (f_X0_handAt mF 0 x2_).bind (fun x2 => ev_on x1 ((some ((false, mF)))) (fun j3 => ev_on x2 ((if x2_ = ((-1)) then (jn_X9_sailed_37 mF i0 x3_ x4_ j3 none) else (some ((false, mF))))) (fun j4 => (jn_X9_sailed_37 mF i0 x3_ x4_ j3 (some j4))))))
def f_X9_second (mF : ev_m) (i0 : Nat) (x1_ : Int32) (x2_ : Int32) (x3_ : Int32) (x4_ : Int32) (x5_ : Int32) : Option (Int32 × ev_m) :=
  (if x4_ < 0 then (some (((-100000), mF))) else (if 400 < x4_ then (some (((-100000), mF))) else (f_X9_sailed mF i0 x1_ x2_ x3_ x4_).bind (fun p3 => (if p3.1 = true then (if x5_ = 0 then (some ((ev_at (p3.2.1 18 0) 401 x4_, p3.2))) else if x5_ = 1 then (some ((ev_at (p3.2.1 19 0) 401 x4_, p3.2))) else if x5_ = 2 then (some ((ev_at (p3.2.1 20 0) 401 x4_, p3.2))) else if x5_ = 3 then (some ((ev_at (p3.2.1 21 0) 401 x4_, p3.2))) else (some (((-100000), p3.2)))) else (some (((-100000), p3.2)))))))
def f_X9_run (mF : ev_m) (i0 : Nat) (x1_ : Int32) (x2_ : Int32) (x3_ : Int32) (x4_ : Int32) (x5_ : Int32) : Option (Int64 × ev_m) :=
  (if x4_ < 1 then (some (((-9223372036854775808), mF))) else (if 400 < x4_ then (some (((-9223372036854775808), mF))) else (f_X9_sailed mF i0 x1_ x2_ x3_ x4_).bind (fun p3 => (if p3.1 = true then (f_X8_tally p3.2 0 x5_).bind (fun x5 => (some ((x5, p3.2)))) else (some (((-9223372036854775808), p3.2)))))))
def f_X9_peak (mF : ev_m) (i0 : Nat) (x1_ : Int32) (x2_ : Int32) (x3_ : Int32) (x4_ : Int32) (x5_ : Int32) : Option (Int32 × ev_m) :=
  (if x4_ < 1 then (some (((-1), mF))) else (if 400 < x4_ then (some (((-1), mF))) else (f_X9_sailed mF i0 x1_ x2_ x3_ x4_).bind (fun p3 => (if p3.1 = true then (f_X8_peakAt p3.2 0 x5_).bind (fun x5 => (some ((x5, p3.2)))) else (some (((-1), p3.2)))))))
def s_X9_isTrial (mF : ev_m) (x0_ : Int32) : Bool :=
  (if x0_ < 1 then false else (if 200 < x0_ then false else true))
def f_X9_ready (mF : ev_m) (i0 : Nat) (x1_ : Int32) (x2_ : Int32) (x3_ : Int32) : Option (Bool × ev_m) :=
  (f_X0_shipAt mF 0 x1_).bind (fun x1 => (f_X0_handAt mF 0 x2_).bind (fun x2 => ev_on x1 ((some ((false, mF)))) (fun j3 => ev_on x2 ((some ((false, mF)))) (fun j4 => (if (s_X9_isTrial mF x3_) = true then (f_X5_copy mF 8 (some j3)).bind (fun m6 => (f_X1_copy m6 16 (some j4)).bind (fun m7 => (some ((true, m7))))) else (some ((false, mF))))))))
def f_X9_trialCost (mF : ev_m) (i0 : Nat) (x1_ : Int32) : Option (Int64 × ev_m) :=
  (f_X8_sail mF 0 (some 8) (some 16) 0 x1_).bind (fun m1 => (f_X8_cost m1 0).bind (fun x2 => (some ((x2, m1)))))
def jn_X9_trialApart_25 (m6 : ev_m) (i2 : Nat) (o3 : Option Nat) (x4 : Int32) (x5 : Int32) : Option (Int32 × ev_m) :=
  (f_X8_sail m6 0 (some 8) (some 16) x5 x4).bind (fun m7 => (f_X8_apartFrom m7 0 o3).bind (fun x8 => (some ((x8, m7)))))
def f_X9_trialApart (mF : ev_m) (i0 : Nat) (o1_ : Option Nat) : Option (Int32 × ev_m) :=
  ev_on o1_ ((jn_X9_trialApart_25 mF i0 none 0 0)) (fun j1 => (jn_X9_trialApart_25 mF i0 (some j1) (mF.1 5 j1 1) 0))
def jn_X9_leastRule_105_60 (m41 : ev_m) (i19 : Nat) (o20 : Option Nat) (x21 : Int32) (x22 : Int32) (x23 : Int32) (x24 : Int32) (x36 : Int32) (x37 : Int32) (y38 : Int64) (x28 : Int32) (x39 : Int32) (y40 : Int64) (kb : Int32 → Int32 → Int64 → Int32 → ev_m → Option (Int64 × ev_m)) (kx : Int32 → Int32 → Int64 → ev_m → Option (Int64 × ev_m)) : Option (Int64 × ev_m) :=
  ev_let (if y40 < y38 then x28 else x36 : Int32) (fun x43 => ev_let (if y40 < y38 then x39 else x37 : Int32) (fun x44 => ev_let (if y40 < y38 then y40 else y38 : Int64) (fun y45 => (kb x43 x44 y45 (x39 + 1) m41))))
def lp_X9_leastRule_60 (i19 : Nat) (o20 : Option Nat) (x21 : Int32) (x22 : Int32) (x23 : Int32) (x24 : Int32) (x28 : Int32) : Nat → Int32 → Int32 → Int64 → Int32 → ev_m → (Int32 → Int32 → Int64 → ev_m → Option (Int64 × ev_m)) → Option (Int64 × ev_m)
  | 0, _, _, _, _, _, _ => none
  | f + 1, x25, x26, y27, x29, m30, kx =>
  (if x23 < x29 then (kx x25 x26 y27 m30) else ev_let (s_X1_write m30 16 0 x28) (fun m32 => ev_let (s_X1_write m32 16 1 x29) (fun m33 => ev_on o20 ((f_X9_trialCost m33 i19 x21).bind (fun p35 => (jn_X9_leastRule_105_60 (p35.2) i19 none x21 x22 x23 x24 x25 x26 y27 x28 x29 p35.1 (fun z0 z1 z2 z3 z4 => lp_X9_leastRule_60 i19 o20 x21 x22 x23 x24 x28 f z0 z1 z2 z3 z4 kx) (kx)))) (fun j34 => (f_X9_trialApart m33 i19 (some j34)).bind (fun p46 => (jn_X9_leastRule_105_60 (p46.2) i19 (some j34) x21 x22 x23 x24 x25 x26 y27 x28 x29 p46.1.toInt64 (fun z0 z1 z2 z3 z4 => lp_X9_leastRule_60 i19 o20 x21 x22 x23 x24 x28 f z0 z1 z2 z3 z4 kx) (kx)))))))
def lp_X9_leastRule_51 (i7 : Nat) (o8 : Option Nat) (x9 : Int32) (x10 : Int32) (x11 : Int32) (x12 : Int32) : Nat → Int32 → Int32 → Int64 → Int32 → ev_m → (Int32 → Int32 → Int64 → ev_m → Option (Int64 × ev_m)) → Option (Int64 × ev_m)
  | 0, _, _, _, _, _, _ => none
  | f + 1, x13, x14, y15, x16, m17, kx =>
  (if x10 < x16 then (kx x13 x14 y15 m17) else (lp_X9_leastRule_60 i7 o8 x9 x10 x11 x12 x16 4000 x13 x14 y15 0 m17 (fun x47 x48 y49 m50 => (lp_X9_leastRule_51 i7 o8 x9 x10 x11 x12 f x47 x48 y49 (x16 + 1) m50 kx))))
def f_X9_leastRule (mF : ev_m) (i0 : Nat) (o1_ : Option Nat) (x2_ : Int32) (x3_ : Int32) (x4_ : Int32) (x5_ : Int32) : Option (Int64 × ev_m) :=
  (if x3_ < 0 then (some (((-1), mF))) else (if 20 < x3_ then (some (((-1), mF))) else (if x4_ < 0 then (some (((-1), mF))) else (if 20 < x4_ then (some (((-1), mF))) else (if x5_ < 0 then (some (((-1), mF))) else (if 2 < x5_ then (some (((-1), mF))) else (lp_X9_leastRule_51 i0 o1_ x2_ x3_ x4_ x5_ 4000 0 0 9223372036854775807 0 mF (fun x51 x52 y53 m54 => (if x5_ = 0 then (some ((x51.toInt64, m54))) else (if x5_ = 1 then (some ((x52.toInt64, m54))) else (some ((y53, m54)))))))))))))
def f_X9_found (mF : ev_m) (i0 : Nat) (x1_ : Int32) (x2_ : Int32) (x3_ : Int32) (x4_ : Int32) (x5_ : Int32) (x6_ : Int32) : Option (Int64 × ev_m) :=
  (f_X9_ready mF i0 x1_ x2_ x3_).bind (fun p1 => (if p1.1 = true then (f_X9_leastRule p1.2 i0 none x3_ x4_ x5_ x6_).bind (fun p3 => (some ((p3.1, p3.2)))) else (some (((-1), p1.2)))))
def f_X9_costWith (mF : ev_m) (i0 : Nat) (x1_ : Int32) (x2_ : Int32) (x3_ : Int32) : Option (Int64 × ev_m) :=
  ev_let (s_X1_write mF 16 x1_ x2_) (fun m1 => (f_X8_sail m1 0 (some 8) (some 16) 0 x3_).bind (fun m2 => (f_X8_cost m2 0).bind (fun x3 => (some ((x3, m2))))))
def lp_X9_iron_25 (i3 : Nat) (x4 : Int32) (x5 : Int32) : Nat → Int32 → Int64 → Int32 → ev_m → (Int32 → Int64 → ev_m → Option (Int64 × ev_m)) → Option (Int64 × ev_m)
  | 0, _, _, _, _, _ => none
  | f + 1, x6, y7, x8, m9, kx =>
  (if 20 < x8 then (kx x6 y7 m9) else (f_X9_costWith m9 i3 2 x8 x4).bind (fun p11 => ev_let (p11.1 : Int64) (fun y12 => ev_let (if y12 < y7 then x8 else x6 : Int32) (fun x14 => ev_let (if y12 < y7 then y12 else y7 : Int64) (fun y15 => (lp_X9_iron_25 i3 x4 x5 f x14 y15 (x8 + 1) (p11.2) kx))))))
def f_X9_iron (mF : ev_m) (i0 : Nat) (x1_ : Int32) (x2_ : Int32) (x3_ : Int32) (x4_ : Int32) : Option (Int64 × ev_m) :=
  (f_X9_ready mF i0 x1_ x2_ x3_).bind (fun p1 => (if p1.1 = true then (lp_X9_iron_25 i0 x3_ x4_ 4000 ((-1)) 9223372036854775807 0 (p1.2) (fun x16 y17 m18 => (if x4_ = 0 then (some ((x16.toInt64, m18))) else (some ((y17, m18)))))) else (some (((-1), p1.2)))))
def f_X9_lagged (mF : ev_m) (i0 : Nat) (x1_ : Int32) (x2_ : Int32) (x3_ : Int32) (x4_ : Int32) : Option (Bool × ev_m) :=
  (if x4_ < 0 then (some ((false, mF))) else (if 9 < x4_ then (some ((false, mF))) else (f_X9_ready mF i0 x1_ x2_ x3_).bind (fun p3 => (if p3.1 = true then ev_let (s_X5_write p3.2 8 2 x4_) (fun m5 => (some ((true, m5)))) else (some ((false, p3.2)))))))
def f_X9_growsWith (mF : ev_m) (i0 : Nat) (x1_ : Int32) (x2_ : Int32) (x3_ : Int32) : Option (Bool × ev_m) :=
  ev_let (s_X1_write mF 16 x1_ x2_) (fun m1 => (f_X8_sail m1 0 (some 8) (some 16) 0 x3_).bind (fun m2 => (f_X8_grows m2 0).bind (fun x3 => (some ((x3, m2))))))
def lp_X9_line_18 (i3 : Nat) (x4 : Int32) : Nat → Int32 → ev_m → (ev_m → Option (Int32 × ev_m)) → Option (Int32 × ev_m)
  | 0, _, _, _ => none
  | f + 1, x5, m6, kx =>
  (if x5 < 0 then (kx m6) else (f_X9_growsWith m6 i3 0 x5 x4).bind (fun p8 => (if p8.1 = true then (lp_X9_line_18 i3 x4 f (x5 + (-1)) (p8.2) kx) else (some ((x5, p8.2))))))
def f_X9_line (mF : ev_m) (i0 : Nat) (x1_ : Int32) (x2_ : Int32) (x3_ : Int32) (x4_ : Int32) : Option (Int32 × ev_m) :=
  (f_X9_lagged mF i0 x1_ x2_ x3_ x4_).bind (fun p1 => (if p1.1 = true then (lp_X9_line_18 i0 x3_ 4000 99 (p1.2) (fun m10 => (some (((-1), m10))))) else (some (((-1), p1.2)))))
def lp_X9_alone_40 (i6 : Nat) (x7 : Int32) (x8 : Int32) : Nat → Int32 → ev_m → (ev_m → Option (Int32 × ev_m)) → Option (Int32 × ev_m)
  | 0, _, _, _ => none
  | f + 1, x9, m10, kx =>
  (if 99 < x9 then (kx m10) else ev_let (s_X5_write m10 8 7 x9) (fun m12 => (f_X8_sail m12 0 (some 8) none 0 x7).bind (fun m13 => (f_X8_widest m13 0).bind (fun x14 => (if x8.toInt64 < x14 then (lp_X9_alone_40 i6 x7 x8 f (x9 + 1) m13 kx) else (some ((x9, m13))))))))
def f_X9_alone (mF : ev_m) (i0 : Nat) (x1_ : Int32) (x2_ : Int32) (x3_ : Int32) : Option (Int32 × ev_m) :=
  (f_X0_shipAt mF 0 x1_).bind (fun x1 => ev_on x1 ((some (((-1), mF)))) (fun j2 => (if (s_X9_isTrial mF x2_) = true then (if x3_ < 0 then (some (((-1), mF))) else (f_X5_copy mF 8 (some j2)).bind (fun m5 => (lp_X9_alone_40 i0 x2_ x3_ 4000 0 m5 (fun m16 => (some (((-1), m16))))))) else (some (((-1), mF))))))
def f_X9_trialWidest (mF : ev_m) (i0 : Nat) (x1_ : Int32) : Option (Int64 × ev_m) :=
  (f_X8_sail mF 0 (some 8) (some 16) 0 x1_).bind (fun m1 => (f_X8_widest m1 0).bind (fun x2 => (some ((x2, m1)))))
def lp_X9_hard_36 (i6 : Nat) (x7 : Int32) (x8 : Int32) (i9 : Nat) : Nat → Int32 → ev_m → (ev_m → Option (Int32 × ev_m)) → Option (Int32 × ev_m)
  | 0, _, _, _ => none
  | f + 1, x10, m11, kx =>
  (if x10 < 0 then (kx m11) else (f_X5_takeSeas m11 8 (some i9) x10).bind (fun m13 => (f_X9_trialWidest m13 i6 x7).bind (fun p14 => (if x8.toInt64 < p14.1 then (lp_X9_hard_36 i6 x7 x8 i9 f (x10 + (-1)) (p14.2) kx) else (some ((x10, p14.2)))))))
def f_X9_hard (mF : ev_m) (i0 : Nat) (x1_ : Int32) (x2_ : Int32) (x3_ : Int32) (x4_ : Int32) : Option (Int32 × ev_m) :=
  (f_X0_shipAt mF 0 x1_).bind (fun x1 => ev_on x1 ((some (((-1), mF)))) (fun j2 => (f_X9_ready mF i0 x1_ x2_ x3_).bind (fun p3 => (if p3.1 = true then (if x4_ < 0 then (some (((-1), p3.2))) else (lp_X9_hard_36 i0 x3_ x4_ j2 4000 9 (p3.2) (fun m16 => (some (((-1), m16)))))) else (some (((-1), p3.2)))))))
def lp_X9_set_35 (i4 : Nat) (x5 : Int32) (x6 : Int32) : Nat → Int32 → Int64 → Int32 → ev_m → (Int32 → ev_m → Option (Int32 × ev_m)) → Option (Int32 × ev_m)
  | 0, _, _, _, _, _ => none
  | f + 1, x7, y8, x9, m10, kx =>
  (if 50 < x9 then (kx x7 m10) else ev_let (ev_pim m10 3 8 6 (x6 + x9)) (fun m12 => (f_X8_sail m12 0 (some 8) (some 16) 0 x5).bind (fun m13 => (f_X8_drift m13 0).bind (fun x14 => ev_let ((if 0 < x14 then x14 else -x14) : Int64) (fun y15 => ev_let (if y15 < y8 then x9 else x7 : Int32) (fun x17 => ev_let (if y15 < y8 then y15 else y8 : Int64) (fun y18 => (lp_X9_set_35 i4 x5 x6 f x17 y18 (x9 + 1) m13 kx))))))))
def f_X9_set (mF : ev_m) (i0 : Nat) (x1_ : Int32) (x2_ : Int32) (x3_ : Int32) : Option (Int32 × ev_m) :=
  (f_X9_ready mF i0 x1_ x2_ x3_).bind (fun p1 => (if p1.1 = true then ev_let (p1.2.1 3 8 6 : Int32) (fun x3 => (lp_X9_set_35 i0 x3_ x3 4000 ((-100000)) 9223372036854775807 ((-50)) (p1.2) (fun x19 m20 => (some ((x19, m20)))))) else (some (((-100000), p1.2)))))
def f_X9_worth (mF : ev_m) (i0 : Nat) (x1_ : Int32) (x2_ : Int32) (x3_ : Int32) (x4_ : Int32) : Option (Int64 × ev_m) :=
  (f_X9_ready mF i0 x1_ x2_ x3_).bind (fun p1 => (if p1.1 = true then (f_X9_trialCost p1.2 i0 x3_).bind (fun p3 => ev_let (p3.1 : Int64) (fun y4 => (if x4_ = 0 then ev_let (ev_pim p3.2 4 16 9 0) (fun m11 => (f_X9_trialCost m11 i0 x3_).bind (fun p12 => (some ((p12.1 - y4, p12.2))))) else if x4_ = 1 then (f_X9_costWith p3.2 i0 8 1 x3_).bind (fun p9 => (f_X9_costWith p9.2 i0 8 0 x3_).bind (fun p10 => (some ((p9.1 - p10.1, p10.2))))) else if x4_ = 2 then (f_X9_costWith p3.2 i0 1 0 x3_).bind (fun p8 => (some ((p8.1 - y4, p8.2)))) else (some (((-9223372036854775808), p3.2)))))) else (some (((-9223372036854775808), p1.2)))))
def f_X9_night (mF : ev_m) (i0 : Nat) (x1_ : Int32) (x2_ : Int32) (x3_ : Int32) (x4_ : Int32) : Option (Int64 × ev_m) :=
  (f_X9_ready mF i0 x1_ x2_ x3_).bind (fun p1 => (if p1.1 = true then (if x4_ < 0 then (some (((-9223372036854775808), p1.2))) else (if 999 < x4_ then (some (((-9223372036854775808), p1.2))) else (f_X9_costWith p1.2 i0 5 x4_ x3_).bind (fun p5 => (f_X9_costWith p5.2 i0 5 0 x3_).bind (fun p6 => (some ((p5.1 - p6.1, p6.2))))))) else (some (((-9223372036854775808), p1.2)))))
def lp_X9_cloud_20 (i4 : Nat) (x5 : Int32) (x6 : Int32) : Nat → Int32 → ev_m → (ev_m → Option (Int32 × ev_m)) → Option (Int32 × ev_m)
  | 0, _, _, _ => none
  | f + 1, x7, m8, kx =>
  (if x7 < 0 then (kx m8) else ev_let (ev_pim m8 4 16 9 0) (fun m10 => ev_let (s_X1_addStar m10 16 1 x7) (fun p11 => (f_X9_trialWidest p11.2 i4 x5).bind (fun p12 => (if x6.toInt64 < p12.1 then (lp_X9_cloud_20 i4 x5 x6 f (x7 + (-1)) (p12.2) kx) else (some ((x7, p12.2))))))))
def f_X9_cloud (mF : ev_m) (i0 : Nat) (x1_ : Int32) (x2_ : Int32) (x3_ : Int32) (x4_ : Int32) : Option (Int32 × ev_m) :=
  (f_X9_ready mF i0 x1_ x2_ x3_).bind (fun p1 => (if p1.1 = true then (if x4_ < 0 then (some (((-1), p1.2))) else (lp_X9_cloud_20 i0 x3_ x4_ 4000 x3_ (p1.2) (fun m14 => (some (((-1), m14)))))) else (some (((-1), p1.2)))))
def lp_X9_coarse_40 (i7 : Nat) (x8 : Int32) (x9 : Int32) (y10 : Int64) : Nat → Int32 → Int32 → ev_m → (Int32 → ev_m → Option (Int32 × ev_m)) → Option (Int32 × ev_m)
  | 0, _, _, _, _ => none
  | f + 1, x11, x12, m13, kx =>
  (if x9 < x12 then (kx x11 m13) else (f_X9_costWith m13 i7 4 x12 x8).bind (fun p15 => ev_let (if y10 < p15.1 then x11 else x12 : Int32) (fun x17 => (lp_X9_coarse_40 i7 x8 x9 y10 f x17 (x12 + 1) (p15.2) kx))))
def f_X9_coarse (mF : ev_m) (i0 : Nat) (x1_ : Int32) (x2_ : Int32) (x3_ : Int32) (x4_ : Int32) : Option (Int32 × ev_m) :=
  (f_X9_ready mF i0 x1_ x2_ x3_).bind (fun p1 => (if p1.1 = true then (if x4_ < 1 then (some (((-1), p1.2))) else (if 50 < x4_ then (some (((-1), p1.2))) else (f_X9_costWith p1.2 i0 4 1 x3_).bind (fun p5 => ev_let (p5.1 : Int64) (fun y6 => (lp_X9_coarse_40 i0 x3_ x4_ y6 4000 1 2 (p5.2) (fun x18 m19 => (some ((x18, m19))))))))) else (some (((-1), p1.2)))))
def f_X9_weary (mF : ev_m) (i0 : Nat) (x1_ : Int32) (x2_ : Int32) (x3_ : Int32) (x4_ : Int32) (x5_ : Int32) : Option (Int32 × ev_m) :=
  (f_X9_ready mF i0 x1_ x2_ x3_).bind (fun p1 => (if p1.1 = true then (if x4_ < 0 then (some (((-1), p1.2))) else (f_X8_sail p1.2 0 (some 8) (some 16) 0 x3_).bind (fun m4 => (if x5_ = 0 then (f_X8_earliestBeyond m4 0 x4_).bind (fun x8 => (some ((x8, m4)))) else (f_X8_latestBeyond m4 0 x4_).bind (fun x6 => (if x6 = x3_ then (some (((-1), m4))) else (some ((x6, m4)))))))) else (some (((-1), p1.2)))))
def lp_X9_leastOfThree_11 (i1 : Nat) (x2 : Int32) (x3 : Int32) (x4 : Int32) : Nat → Int32 → Int64 → Int32 → ev_m → (Int32 → ev_m → Option (Int32 × ev_m)) → Option (Int32 × ev_m)
  | 0, _, _, _, _, _ => none
  | f + 1, x5, y6, x7, m8, kx =>
  (if 1 < x7 then (kx x5 m8) else (f_X9_costWith m8 i1 0 (x2 + (x7 * x3)) x4).bind (fun p10 => ev_let (p10.1 : Int64) (fun y11 => ev_let (if y11 < y6 then (x2 + (x7 * x3)) else x5 : Int32) (fun x13 => ev_let (if y11 < y6 then y11 else y6 : Int64) (fun y14 => (lp_X9_leastOfThree_11 i1 x2 x3 x4 f x13 y14 (x7 + 1) (p10.2) kx))))))
def f_X9_leastOfThree (mF : ev_m) (i0 : Nat) (x1_ : Int32) (x2_ : Int32) (x3_ : Int32) : Option (Int32 × ev_m) :=
  (lp_X9_leastOfThree_11 i0 x1_ x2_ x3_ 4000 x1_ 9223372036854775807 ((-1)) mF (fun x15 m16 => (some ((x15, m16)))))
def lp_X9_tries_63 (i10 : Nat) (x11 : Int32) (x12 : Int32) : Nat → Int64 → Int32 → ev_m → (Int64 → ev_m → Option (Int64 × ev_m)) → Option (Int64 × ev_m)
  | 0, _, _, _, _ => none
  | f + 1, y13, x14, m15, kx =>
  (if 63 < x14 then (kx y13 m15) else (f_X9_costWith m15 i10 0 x14 x11).bind (fun p17 => ev_let ((if p17.1 < y13 then p17.1 else y13) : Int64) (fun y18 => (lp_X9_tries_63 i10 x11 x12 f y18 (x14 + 1) (p17.2) kx))))
def f_X9_tries (mF : ev_m) (i0 : Nat) (x1_ : Int32) (x2_ : Int32) (x3_ : Int32) (x4_ : Int32) : Option (Int64 × ev_m) :=
  (f_X9_ready mF i0 x1_ x2_ x3_).bind (fun p1 => (if p1.1 = true then (f_X9_leastOfThree p1.2 i0 32 16 x3_).bind (fun p3 => ev_let (p3.1 : Int32) (fun x4 => (f_X9_leastOfThree p3.2 i0 x4 8 x3_).bind (fun p5 => ev_let (p5.1 : Int32) (fun x6 => (f_X9_leastOfThree p5.2 i0 x6 4 x3_).bind (fun p7 => ev_let (p7.1 : Int32) (fun x8 => (if x4_ = 0 then (some ((x8.toInt64, p7.2))) else (lp_X9_tries_63 i0 x3_ x8 4000 9223372036854775807 0 (p7.2) (fun y19 m20 => (f_X9_costWith m20 i0 0 x8 x3_).bind (fun p21 => (some ((p21.1 - y19, p21.2))))))))))))) else (some (((-1), p1.2)))))
def jn_X9_learnt_42 (m9 : ev_m) (i4 : Nat) (x5 : Int32) (x6 : Int32) (x7 : Int32) (y8 : Int64) : Option (Int32 × ev_m) :=
  (if x5 < 99 then (f_X9_costWith m9 i4 0 (x5 + 1) x6).bind (fun p11 => (if p11.1 < y8 then ev_let (x5 + 1 : Int32) (fun x13 => (some ((x13, p11.2)))) else (some ((x7, p11.2))))) else (some ((x7, m9))))
def f_X9_learnt (mF : ev_m) (i0 : Nat) (x1_ : Int32) (x2_ : Int32) : Option (Int32 × ev_m) :=
  (f_X9_costWith mF i0 0 x1_ x2_).bind (fun p1 => ev_let (p1.1 : Int64) (fun y2 => (if 0 < x1_ then (f_X9_costWith p1.2 i0 0 (x1_ - 1) x2_).bind (fun p14 => ev_let (p14.1 : Int64) (fun y15 => ev_let (if y15 < y2 then (x1_ - 1) else x1_ : Int32) (fun x17 => ev_let (if y15 < y2 then y15 else y2 : Int64) (fun y18 => (if x1_ < 99 then (f_X9_costWith p14.2 i0 0 (x1_ + 1) x2_).bind (fun p20 => (if p20.1 < y18 then ev_let (x1_ + 1 : Int32) (fun x22 => (some ((x22, p20.2)))) else (some ((x17, p20.2))))) else (some ((x17, p14.2)))))))) else (jn_X9_learnt_42 (p1.2) i0 x1_ x2_ x1_ y2))))
def lp_X9_learning_36 (i6 : Nat) (x7 : Int32) (x8 : Int32) : Nat → Int32 → Int32 → ev_m → (Int32 → ev_m → Option (Int32 × ev_m)) → Option (Int32 × ev_m)
  | 0, _, _, _, _ => none
  | f + 1, x9, x10, m11, kx =>
  (if x8 < x10 then (kx x9 m11) else (f_X9_learnt m11 i6 x9 x7).bind (fun p13 => ev_let (p13.1 : Int32) (fun x14 => (lp_X9_learning_36 i6 x7 x8 f x14 (x10 + 1) (p13.2) kx))))
def f_X9_learning (mF : ev_m) (i0 : Nat) (x1_ : Int32) (x2_ : Int32) (x3_ : Int32) (x4_ : Int32) : Option (Int32 × ev_m) :=
  (f_X9_ready mF i0 x1_ x2_ x3_).bind (fun p1 => (if p1.1 = true then (if x4_ < 0 then (some (((-1), p1.2))) else (if 30 < x4_ then (some (((-1), p1.2))) else ev_let (p1.2.1 4 16 0 : Int32) (fun x5 => (lp_X9_learning_36 i0 x3_ x4_ 4000 x5 1 (p1.2) (fun x15 m16 => (some ((x15, m16)))))))) else (some (((-1), p1.2)))))
def lp_X9_isManned_8 (mF : ev_m) (i2 : Nat) (i3 : Nat) : Nat → Int32 → (Unit → Option (Bool)) → Option (Bool)
  | 0, _, _ => none
  | f + 1, x4, kx =>
  (if x4 < (mF.1 6 i3 2) then (f_X0_handAt mF 0 (ev_at (mF.1 16 i3) 8 x4)).bind (fun x6 => ev_on x6 ((some (false))) (fun j7 => (lp_X9_isManned_8 mF i2 i3 f (x4 + 1) kx))) else (kx ()))
def f_X9_isManned (mF : ev_m) (i0 : Nat) (o1_ : Option Nat) : Option (Bool) :=
  ev_on o1_ ((some (false))) (fun j1 => (lp_X9_isManned_8 mF i0 j1 4000 0 (fun (_ : Unit) => (some (true)))))
def lp_X9_steers_56 (i8 : Nat) (x9 : Int32) (i10 : Nat) : Nat → Int32 → ev_m → (ev_m → Option (Int64 × ev_m)) → Option (Int64 × ev_m)
  | 0, _, _, _ => none
  | f + 1, x11, m12, kx =>
  (if x11 < (m12.1 6 i10 2) then (f_X0_handAt m12 0 (ev_at (m12.1 16 i10) 8 x11)).bind (fun x14 => (f_X8_steer m12 0 x14 (ev_at (m12.1 17 i10) 8 x11)).bind (fun m15 => (lp_X9_steers_56 i8 x9 i10 f (x11 + 1) m15 kx))) else (kx m12))
def f_X9_steers (mF : ev_m) (i0 : Nat) (x1_ : Int32) (x2_ : Int32) (x3_ : Int32) (x4_ : Int32) : Option (Int64 × ev_m) :=
  (f_X0_shipAt mF 0 x1_).bind (fun x1 => (f_X0_watchAt mF 0 x2_).bind (fun x2 => ev_on x1 ((some (((-100000), mF)))) (fun j3 => ev_on x2 ((some (((-100000), mF)))) (fun j4 => (f_X9_isManned mF i0 (some j4)).bind (fun x5 => (if x5 = true then ev_let (s_X8_begin mF 0 (some j3) x3_) (fun m7 => (lp_X9_steers_56 i0 x4_ j4 4000 0 m7 (fun m16 => (if x4_ = 0 then (f_X8_cost m16 0).bind (fun x29 => (some ((x29, m16)))) else if x4_ = 1 then (f_X8_off m16 0).bind (fun x28 => (some ((x28, m16)))) else if x4_ = 2 then (f_X8_wear m16 0).bind (fun x27 => (some ((x27, m16)))) else if x4_ = 3 then (f_X8_widest m16 0).bind (fun x26 => (some ((x26, m16)))) else if x4_ = 4 then (some (((m16.1 8 0 1).toInt64, m16))) else ev_let (if x4_ < 1000 then 0 else (if (m16.1 8 0 1) < (x4_ - 1000) then 0 else 1) : Int32) (fun x24 => (if x24 = 0 then (some (((-100000), m16))) else (some (((ev_at (m16.1 18 0) 401 (x4_ - 1000)).toInt64, m16))))))))) else (some (((-100000), mF)))))))))
def f_X9_sailChanged (mF : ev_m) (i0 : Nat) (o1_ : Option Nat) (o2_ : Option Nat) (o3_ : Option Nat) (x4_ : Int32) (x5_ : Int32) : Option (ev_m) :=
  ev_let (s_X8_begin mF 0 o1_ 0) (fun m1 => (f_X8_steer m1 0 o2_ x4_).bind (fun m2 => (f_X8_steer m2 0 o3_ (x5_ - x4_)).bind (fun m3 => (some (m3)))))
def jn_X9_change_113_66 (m24 : ev_m) (i8 : Nat) (x9 : Int32) (i10 : Nat) (i11 : Nat) (i12 : Nat) (x21 : Int32) (y22 : Int64) (x23 : Int32) (kb : Int32 → Int64 → Int32 → ev_m → Option (Int32 × ev_m)) (kx : Int32 → ev_m → Option (Int32 × ev_m)) : Option (Int32 × ev_m) :=
  (kb x21 y22 (x23 + 1) m24)
def lp_X9_change_66 (i8 : Nat) (x9 : Int32) (i10 : Nat) (i11 : Nat) (i12 : Nat) : Nat → Int32 → Int64 → Int32 → ev_m → (Int32 → ev_m → Option (Int32 × ev_m)) → Option (Int32 × ev_m)
  | 0, _, _, _, _, _ => none
  | f + 1, x13, y14, x15, m16, kx =>
  (if x9 < x15 then (kx x13 m16) else (f_X9_sailChanged m16 i8 (some i10) (some i11) (some i12) x15 x9).bind (fun m18 => (f_X8_cost m18 0).bind (fun x19 => (if x19 < y14 then (f_X8_cost m18 0).bind (fun x25 => (jn_X9_change_113_66 m18 i8 x9 i10 i11 i12 x15 x25 x15 (fun z0 z1 z2 z3 => lp_X9_change_66 i8 x9 i10 i11 i12 f z0 z1 z2 z3 kx) (kx))) else (jn_X9_change_113_66 m18 i8 x9 i10 i11 i12 x13 y14 x15 (fun z0 z1 z2 z3 => lp_X9_change_66 i8 x9 i10 i11 i12 f z0 z1 z2 z3 kx) (kx))))))
def f_X9_change (mF : ev_m) (i0 : Nat) (x1_ : Int32) (x2_ : Int32) (x3_ : Int32) (x4_ : Int32) : Option (Int32 × ev_m) :=
  (f_X0_shipAt mF 0 x1_).bind (fun x1 => (f_X0_handAt mF 0 x2_).bind (fun x2 => (f_X0_handAt mF 0 x3_).bind (fun x3 => ev_on x1 ((some (((-1), mF)))) (fun j4 => ev_on x2 ((some (((-1), mF)))) (fun j5 => ev_on x3 ((some (((-1), mF)))) (fun j6 => (if (s_X9_isTrial mF x4_) = true then (lp_X9_change_66 i0 x4_ j4 j5 j6 4000 ((-1)) 9223372036854775807 0 mF (fun x26 m27 => (some ((x26, m27))))) else (some (((-1), mF))))))))))
def s_J6_bitCount_0f7a4 (mF : ev_m) (x0_ : Int32) : Int32 :=
  ev_let (x0_ - (((x0_.toUInt32 >>> ((1 : Int32).toUInt32 &&& Int32.toUInt32 31)).toInt32) &&& 1431655765) : Int32) (fun x1 => ev_let ((x1 &&& 858993459) + (((x1.toUInt32 >>> ((2 : Int32).toUInt32 &&& Int32.toUInt32 31)).toInt32) &&& 858993459) : Int32) (fun x2 => ev_let ((x2 + ((x2.toUInt32 >>> ((4 : Int32).toUInt32 &&& Int32.toUInt32 31)).toInt32)) &&& 252645135 : Int32) (fun x3 => ev_let (x3 + ((x3.toUInt32 >>> ((8 : Int32).toUInt32 &&& Int32.toUInt32 31)).toInt32) : Int32) (fun x4 => ev_let (x4 + ((x4.toUInt32 >>> ((16 : Int32).toUInt32 &&& Int32.toUInt32 31)).toInt32) : Int32) (fun x5 => x5 &&& 63)))))
def s_X9_handIn (mF : ev_m) (x0_ : Int32) (x1_ : Int32) (x2_ : Int32) : Int32 :=
  ((x0_.toUInt32 >>> ((2 * ((x1_ - 1) - x2_)).toUInt32 &&& Int32.toUInt32 31)).toInt32) &&& 3
def lp_X9_handsOf_4 (mF : ev_m) (x1 : Int32) (x2 : Int32) : Nat → Int32 → Int32 → (Int32 → Option (Int32)) → Option (Int32)
  | 0, _, _, _ => none
  | f + 1, x3, x4, kx =>
  (if x4 < x2 then ev_let (x3 ||| (1 <<< ((s_X9_handIn mF x1 x2 x4) &&& 31)) : Int32) (fun x6 => (lp_X9_handsOf_4 mF x1 x2 f x6 (x4 + 1) kx)) else (kx x3))
def f_X9_handsOf (mF : ev_m) (x0_ : Int32) (x1_ : Int32) : Option (Int32) :=
  (lp_X9_handsOf_4 mF x0_ x1_ 4000 0 0 (fun x7 => (some (x7))))
def lp_X9_costInTurns_27 (i4 : Nat) (x5 : Int32) (x6 : Int32) (x7 : Int32) (x8 : Int32) : Nat → Int32 → ev_m → (ev_m → Option (Int64 × ev_m)) → Option (Int64 × ev_m)
  | 0, _, _, _ => none
  | f + 1, x9, m10, kx =>
  (if x9 < x6 then ev_let (if x9 = (x6 - 1) then (x7 - (x8 * x9)) else x8 : Int32) (fun x13 => (f_X0_handAt m10 0 (s_X9_handIn m10 x5 x6 x9)).bind (fun x14 => (f_X8_steer m10 0 x14 x13).bind (fun m15 => (lp_X9_costInTurns_27 i4 x5 x6 x7 x8 f (x9 + 1) m15 kx)))) else (kx m10))
def f_X9_costInTurns (mF : ev_m) (i0 : Nat) (o1_ : Option Nat) (x2_ : Int32) (x3_ : Int32) (x4_ : Int32) : Option (Int64 × ev_m) :=
  (if x3_ < 1 then (some ((9223372036854775807, mF))) else (ev_dv x4_ x3_).bind (fun x2 => ev_let (s_X8_begin mF 0 o1_ 0) (fun m3 => (lp_X9_costInTurns_27 i0 x2_ x3_ x4_ x2 4000 0 m3 (fun m16 => (f_X8_cost m16 0).bind (fun x17 => (some ((x17, m16)))))))))
def jn_X9_order_139_88 (m28 : ev_m) (i12 : Nat) (x13 : Int32) (x14 : Int32) (x15 : Int32) (i16 : Nat) (x17 : Int32) (x25 : Int32) (y26 : Int64) (x27 : Int32) (kb : Int32 → Int64 → Int32 → ev_m → Option (Int32 × ev_m)) (kx : Int32 → ev_m → Option (Int32 × ev_m)) : Option (Int32 × ev_m) :=
  (kb x25 y26 (x27 + 1) m28)
def lp_X9_order_88 (i12 : Nat) (x13 : Int32) (x14 : Int32) (x15 : Int32) (i16 : Nat) (x17 : Int32) : Nat → Int32 → Int64 → Int32 → ev_m → (Int32 → ev_m → Option (Int32 × ev_m)) → Option (Int32 × ev_m)
  | 0, _, _, _, _, _ => none
  | f + 1, x18, y19, x20, m21, kx =>
  (if x20 < (1 <<< ((2 * x17) &&& 31)) then (f_X9_handsOf m21 x20 x17).bind (fun x23 => (if x23 = x13 then (f_X9_costInTurns m21 i12 (some i16) x20 x17 x14).bind (fun p29 => ev_let (p29.1 : Int64) (fun y30 => ev_let (if y30 < y19 then x20 else x18 : Int32) (fun x32 => ev_let (if y30 < y19 then y30 else y19 : Int64) (fun y33 => (lp_X9_order_88 i12 x13 x14 x15 i16 x17 f x32 y33 (x20 + 1) (p29.2) kx))))) else (jn_X9_order_139_88 m21 i12 x13 x14 x15 i16 x17 x18 y19 x20 (fun z0 z1 z2 z3 => lp_X9_order_88 i12 x13 x14 x15 i16 x17 f z0 z1 z2 z3 kx) (kx)))) else (kx x18 m21))
def f_X9_order (mF : ev_m) (i0 : Nat) (x1_ : Int32) (x2_ : Int32) (x3_ : Int32) (x4_ : Int32) : Option (Int32 × ev_m) :=
  (f_X0_shipAt mF 0 x1_).bind (fun x1 => ev_let (s_J6_bitCount_0f7a4 mF x2_ : Int32) (fun x2 => ev_let (if 0 < x2_ then (if x2_ < (1 <<< ((mF.1 1 0 4) &&& 31)) then 1 else 0) else 0 : Int32) (fun x5 => ev_on x1 ((some (((-1), mF)))) (fun j6 => (if x5 = 0 then (some (((-1), mF))) else (if (s_X9_isTrial mF x3_) = true then (if x3_ < x2 then (some (((-1), mF))) else (if x4_ < 0 then (some (((-1), mF))) else (if x4_ < x2 then (lp_X9_order_88 i0 x2_ x3_ x4_ j6 x2 4000 ((-1)) 9223372036854775807 0 mF (fun x34 m35 => (if x34 = ((-1)) then (some (((-1), m35))) else (some ((s_X9_handIn m35 x34 x2 x4_, m35)))))) else (some (((-1), mF)))))) else (some (((-1), mF)))))))))
def f_X9_both (mF : ev_m) (i0 : Nat) (x1_ : Int32) (x2_ : Int32) (x3_ : Int32) (x4_ : Int32) (x5_ : Int32) : Option (Int64 × ev_m) :=
  (f_X0_shipAt mF 0 x1_).bind (fun x1 => (f_X0_handAt mF 0 x2_).bind (fun x2 => (f_X0_handAt mF 0 x3_).bind (fun x3 => ev_on x1 ((some (((-1), mF)))) (fun j4 => ev_on x2 ((some (((-1), mF)))) (fun j5 => ev_on x3 ((some (((-1), mF)))) (fun j6 => (if (s_X9_isTrial mF x4_) = true then ev_let (s_X8_begin mF 0 (some j4) 0) (fun m8 => (f_X8_steerTogether m8 0 (some j5) (some j6) x4_).bind (fun m9 => (if x5_ = 0 then (f_X8_cost m9 0).bind (fun x11 => (some ((x11, m9)))) else (f_X8_widest m9 0).bind (fun x12 => (some ((x12, m9))))))) else (some (((-1), mF))))))))))
def f_X9_apart (mF : ev_m) (i0 : Nat) (x1_ : Int32) (x2_ : Int32) (x3_ : Int32) (x4_ : Int32) : Option (Int32 × ev_m) :=
  (f_X0_paperAt mF 0 x3_).bind (fun x1 => ev_on x1 ((some (((-1), mF)))) (fun j2 => (f_X9_ready mF i0 x1_ x2_ (mF.1 5 j2 1)).bind (fun p3 => (if p3.1 = true then (f_X8_sail p3.2 0 (some 8) (some 16) 0 (p3.2.1 5 j2 1)).bind (fun m5 => (if x4_ = 0 then (f_X8_apartFrom m5 0 (some j2)).bind (fun x7 => (some ((x7, m5)))) else (f_X8_alikeTo m5 0 (some j2)).bind (fun x8 => (some ((x8, m5)))))) else (some (((-1), p3.2)))))))
def jn_X9_whose_74_26 (m16 : ev_m) (i3 : Nat) (x4 : Int32) (i5 : Nat) (x13 : Int32) (x14 : Int32) (x15 : Int32) (kb : Int32 → Int32 → Int32 → ev_m → Option (Int32 × ev_m)) (kx : Int32 → ev_m → Option (Int32 × ev_m)) : Option (Int32 × ev_m) :=
  (kb x13 x14 (x15 + 1) m16)
def lp_X9_whose_26 (i3 : Nat) (x4 : Int32) (i5 : Nat) : Nat → Int32 → Int32 → Int32 → ev_m → (Int32 → ev_m → Option (Int32 × ev_m)) → Option (Int32 × ev_m)
  | 0, _, _, _, _, _ => none
  | f + 1, x6, x7, x8, m9, kx =>
  (if x8 < (m9.1 1 0 4) then (f_X9_ready m9 i3 x4 x8 (m9.1 5 i5 1)).bind (fun p11 => (if p11.1 = true then (f_X9_trialApart p11.2 i3 (some i5)).bind (fun p17 => ev_let (p17.1 : Int32) (fun x18 => ev_let (if x18 < x7 then x8 else x6 : Int32) (fun x20 => ev_let (if x18 < x7 then x18 else x7 : Int32) (fun x21 => (lp_X9_whose_26 i3 x4 i5 f x20 x21 (x8 + 1) (p17.2) kx))))) else (jn_X9_whose_74_26 (p11.2) i3 x4 i5 x6 x7 x8 (fun z0 z1 z2 z3 => lp_X9_whose_26 i3 x4 i5 f z0 z1 z2 z3 kx) (kx)))) else (kx x6 m9))
def f_X9_whose (mF : ev_m) (i0 : Nat) (x1_ : Int32) (x2_ : Int32) : Option (Int32 × ev_m) :=
  (f_X0_paperAt mF 0 x2_).bind (fun x1 => ev_on x1 ((some (((-1), mF)))) (fun j2 => (lp_X9_whose_26 i0 x1_ j2 4000 ((-1)) 2147483647 0 mF (fun x22 m23 => (some ((x22, m23)))))))
def lp_X9_tells_42 (i5 : Nat) (i6 : Nat) : Nat → Int32 → Int32 → Int32 → ev_m → (Int32 → ev_m → Option (Int32 × ev_m)) → Option (Int32 × ev_m)
  | 0, _, _, _, _, _ => none
  | f + 1, x7, x8, x9, m10, kx =>
  (if 99 < x9 then (kx x7 m10) else ev_let (s_X5_write m10 8 0 x9) (fun m12 => (f_X9_trialApart m12 i5 (some i6)).bind (fun p13 => ev_let (p13.1 : Int32) (fun x14 => ev_let (if x14 < x8 then x9 else x7 : Int32) (fun x16 => ev_let (if x14 < x8 then x14 else x8 : Int32) (fun x17 => (lp_X9_tells_42 i5 i6 f x16 x17 (x9 + 1) (p13.2) kx)))))))
def f_X9_tells (mF : ev_m) (i0 : Nat) (x1_ : Int32) (x2_ : Int32) (x3_ : Int32) : Option (Int32 × ev_m) :=
  (f_X0_paperAt mF 0 x3_).bind (fun x1 => ev_on x1 ((some (((-1), mF)))) (fun j2 => (f_X9_ready mF i0 x1_ x2_ (mF.1 5 j2 1)).bind (fun p3 => (if p3.1 = true then (lp_X9_tells_42 i0 j2 4000 ((-1)) 2147483647 0 (p3.2) (fun x18 m19 => (some ((x18, m19))))) else (some (((-1), p3.2)))))))
def lp_X9_slipped_42 (i5 : Nat) (x6 : Int32) (x7 : Int32) (x8 : Int32) (x9 : Int32) : Nat → Int32 → Int64 → Int64 → Int32 → ev_m → (Int32 → Int64 → ev_m → Option (Int64 × ev_m)) → Option (Int64 × ev_m)
  | 0, _, _, _, _, _, _ => none
  | f + 1, x10, y11, y12, x13, m14, kx =>
  (if x13 < x7 then (f_X8_sail m14 0 (some 8) (some 16) (x6 + x13) x8).bind (fun m16 => (f_X8_cost m16 0).bind (fun x17 => ev_let (y12 + x17 : Int64) (fun y18 => ev_let (if x17 < y11 then (x6 + x13) else x10 : Int32) (fun x20 => ev_let (if x17 < y11 then x17 else y11 : Int64) (fun y21 => (lp_X9_slipped_42 i5 x6 x7 x8 x9 f x20 y21 y18 (x13 + 1) m16 kx)))))) else (kx x10 y12 m14))
def f_X9_slipped (mF : ev_m) (i0 : Nat) (x1_ : Int32) (x2_ : Int32) (x3_ : Int32) (x4_ : Int32) (x5_ : Int32) (x6_ : Int32) : Option (Int64 × ev_m) :=
  (f_X9_ready mF i0 x1_ x2_ x5_).bind (fun p1 => (if p1.1 = true then (if x4_ < 1 then (some (((-100000), p1.2))) else (if 20 < x4_ then (some (((-100000), p1.2))) else (lp_X9_slipped_42 i0 x3_ x4_ x5_ x6_ 4000 x3_ 9223372036854775807 0 0 (p1.2) (fun x22 y23 m24 => (if x6_ = 0 then (some ((y23, m24))) else (some ((x22.toInt64, m24)))))))) else (some (((-100000), p1.2)))))
def lp_X9_lead_17 (i3 : Nat) (x4 : Int32) : Nat → Int32 → ev_m → (ev_m → Option (Int32 × ev_m)) → Option (Int32 × ev_m)
  | 0, _, _, _ => none
  | f + 1, x5, m6, kx =>
  (if 99 < x5 then (kx m6) else (f_X9_growsWith m6 i3 1 x5 x4).bind (fun p8 => (if p8.1 = true then (lp_X9_lead_17 i3 x4 f (x5 + 1) (p8.2) kx) else (some ((x5, p8.2))))))
def f_X9_lead (mF : ev_m) (i0 : Nat) (x1_ : Int32) (x2_ : Int32) (x3_ : Int32) (x4_ : Int32) : Option (Int32 × ev_m) :=
  (f_X9_lagged mF i0 x1_ x2_ x3_ x4_).bind (fun p1 => (if p1.1 = true then (lp_X9_lead_17 i0 x3_ 4000 0 (p1.2) (fun m10 => (some (((-1), m10))))) else (some (((-1), p1.2)))))
def lp_X9_deadest_3 (i1 : Nat) (x2 : Int32) (x3 : Int32) : Nat → Int32 → ev_m → (ev_m → Option (Int32 × ev_m)) → Option (Int32 × ev_m)
  | 0, _, _, _ => none
  | f + 1, x4, m5, kx =>
  (if x4 < 0 then (kx m5) else ev_let (s_X1_write m5 16 3 x4) (fun m7 => (f_X9_trialWidest m7 i1 x2).bind (fun p8 => (if x3.toInt64 < p8.1 then (lp_X9_deadest_3 i1 x2 x3 f (x4 + (-1)) (p8.2) kx) else (some ((x4, p8.2)))))))
def f_X9_deadest (mF : ev_m) (i0 : Nat) (x1_ : Int32) (x2_ : Int32) : Option (Int32 × ev_m) :=
  (lp_X9_deadest_3 i0 x1_ x2_ 4000 99 mF (fun m10 => (some (((-1), m10)))))
def lp_X9_leastGear_3 (i1 : Nat) (x2 : Int32) (x3 : Int32) (x4 : Int32) : Nat → Int32 → ev_m → (ev_m → Option (Int32 × ev_m)) → Option (Int32 × ev_m)
  | 0, _, _, _ => none
  | f + 1, x5, m6, kx =>
  (if 35 < x5 then (kx m6) else ev_let (s_X5_write m6 8 x2 x5) (fun m8 => (f_X9_trialWidest m8 i1 x3).bind (fun p9 => (if x4.toInt64 < p9.1 then (lp_X9_leastGear_3 i1 x2 x3 x4 f (x5 + 1) (p9.2) kx) else (some ((x5, p9.2)))))))
def f_X9_leastGear (mF : ev_m) (i0 : Nat) (x1_ : Int32) (x2_ : Int32) (x3_ : Int32) : Option (Int32 × ev_m) :=
  (lp_X9_leastGear_3 i0 x1_ x2_ x3_ 4000 1 mF (fun m11 => (some (((-1), m11)))))
def f_X9_bound (mF : ev_m) (i0 : Nat) (x1_ : Int32) (x2_ : Int32) (x3_ : Int32) (x4_ : Int32) (x5_ : Int32) : Option (Int32 × ev_m) :=
  (f_X9_ready mF i0 x1_ x2_ x3_).bind (fun p1 => (if p1.1 = true then (if x4_ < 0 then (some (((-1), p1.2))) else (if x5_ = 0 then (f_X9_deadest p1.2 i0 x3_ x4_).bind (fun p9 => (some ((p9.1, p9.2)))) else if x5_ = 1 then (f_X9_leastGear p1.2 i0 3 x3_ x4_).bind (fun p8 => (some ((p8.1, p8.2)))) else if x5_ = 2 then (f_X9_leastGear p1.2 i0 4 x3_ x4_).bind (fun p7 => (some ((p7.1, p7.2)))) else (some (((-1), p1.2))))) else (some (((-1), p1.2)))))
def f_X9_first (mF : ev_m) (i0 : Nat) (x1_ : Int32) (x2_ : Int32) (x3_ : Int32) (x4_ : Int32) : Option (Int32 × ev_m) :=
  (f_X9_ready mF i0 x1_ x2_ x3_).bind (fun p1 => (if p1.1 = true then (f_X8_sail p1.2 0 (some 8) (some 16) 0 x3_).bind (fun m3 => (if x4_ = 0 then (f_X8_earliestBeyond m3 0 8999).bind (fun x9 => (some ((x9, m3)))) else if x4_ = 1 then (f_X8_dearest m3 0).bind (fun x8 => (some ((x8, m3)))) else if x4_ = 2 then (f_X8_halfway m3 0).bind (fun x7 => (some ((x7, m3)))) else (some (((-1), m3))))) else (some (((-1), p1.2)))))
def f_X9_better (mF : ev_m) (i0 : Nat) (x1_ : Int32) (x2_ : Int32) (x3_ : Int32) (x4_ : Int32) : Option (Int32 × ev_m) :=
  (f_X9_ready mF i0 x1_ x2_ x4_).bind (fun p1 => (if p1.1 = true then (f_X9_trialCost p1.2 i0 x4_).bind (fun p3 => ev_let (p3.1 : Int64) (fun y4 => (f_X9_ready p3.2 i0 x1_ x3_ x4_).bind (fun p5 => (if p5.1 = true then (f_X9_trialCost p5.2 i0 x4_).bind (fun p7 => ev_let (p7.1 : Int64) (fun y8 => (if y4 < y8 then (some ((0, p7.2))) else (if y8 < y4 then (some ((1, p7.2))) else (some ((2, p7.2))))))) else (some (((-1), p5.2))))))) else (some (((-1), p1.2)))))
def f_X9_reads (mF : ev_m) (i0 : Nat) (x1_ : Int32) (x2_ : Int32) (x3_ : Int32) (x4_ : Int32) (x5_ : Int32) (x6_ : Int32) : Option (Int32 × ev_m) :=
  (f_X0_paperAt mF 0 x3_).bind (fun x1 => ev_on x1 ((some (((-1), mF)))) (fun j2 => (f_X9_ready mF i0 x1_ x2_ (mF.1 5 j2 1)).bind (fun p3 => (if p3.1 = true then (f_X9_leastRule p3.2 i0 (some j2) (p3.2.1 5 j2 1) x4_ x5_ x6_).bind (fun p5 => (some ((p5.1.toInt32, p5.2)))) else (some (((-1), p3.2)))))))
def lp_X9_parted_74 (i9 : Nat) (i10 : Nat) (i11 : Nat) (i12 : Nat) (i13 : Nat) : Nat → Int32 → Int32 → Int32 → ev_m → (Int32 → ev_m → Option (Int32 × ev_m)) → Option (Int32 × ev_m)
  | 0, _, _, _, _, _ => none
  | f + 1, x14, x15, x16, m17, kx =>
  (if (m17.1 5 i13 1) < x16 then (kx x14 m17) else (f_X9_sailChanged m17 i9 (some i10) (some i11) (some i12) x16 (m17.1 5 i13 1)).bind (fun m19 => (f_X8_apartFrom m19 0 (some i13)).bind (fun x20 => ev_let (if x20 < x15 then x16 else x14 : Int32) (fun x22 => ev_let (if x20 < x15 then x20 else x15 : Int32) (fun x23 => (lp_X9_parted_74 i9 i10 i11 i12 i13 f x22 x23 (x16 + 1) m19 kx))))))
def f_X9_parted (mF : ev_m) (i0 : Nat) (x1_ : Int32) (x2_ : Int32) (x3_ : Int32) (x4_ : Int32) : Option (Int32 × ev_m) :=
  (f_X0_shipAt mF 0 x1_).bind (fun x1 => (f_X0_handAt mF 0 x2_).bind (fun x2 => (f_X0_handAt mF 0 x3_).bind (fun x3 => (f_X0_paperAt mF 0 x4_).bind (fun x4 => ev_on x1 ((some (((-1), mF)))) (fun j5 => ev_on x2 ((some (((-1), mF)))) (fun j6 => ev_on x3 ((some (((-1), mF)))) (fun j7 => ev_on x4 ((some (((-1), mF)))) (fun j8 => (lp_X9_parted_74 i0 j5 j6 j7 j8 4000 ((-1)) 2147483647 0 mF (fun x24 m25 => (some ((x24, m25)))))))))))))
def s_X9_count (mF : ev_m) (i0 : Nat) (x1_ : Int32) : Int32 :=
  s_X0_countOf mF 0 x1_
def f_X9_image (mF : ev_m) (i0 : Nat) (x1_ : Int32) : Option (Bool × ev_m) :=
  (if x1_ < 0 then (some ((false, mF))) else (if x1_ < 3 then (ev_ard (fun k => k + 1) 3 x1_).bind (fun j3 => (ev_ard (fun k => k + 1) 3 x1_).bind (fun j4 => (f_X0_copy mF j4 (some 0)).bind (fun m5 => (ev_zst m5 22 0 3 x1_ 1).bind (fun m6 => (some ((true, m6))))))) else (some ((false, mF)))))
def f_X9_again (mF : ev_m) (i0 : Nat) (x1_ : Int32) : Option (Bool × ev_m) :=
  (if x1_ < 0 then (some ((false, mF))) else (if x1_ < 3 then (ev_ald (mF.1 22 0) 3 x1_).bind (fun x3 => (if x3 = 0 then (some ((false, mF))) else (ev_ard (fun k => k + 1) 3 x1_).bind (fun j5 => (f_X0_copy mF 0 (some j5)).bind (fun m6 => (some ((true, m6))))))) else (some ((false, mF)))))
def s_X10_in (mF : ev_m) (x0_ : Int32) (x1_ : Int32) (x2_ : Int32) : Bool :=
  (if x0_ < x1_ then false else (if x2_ < x0_ then false else true))
def s_X10_has (mF : ev_m) (x0_ : Int32) (x1_ : Int32) : Bool :=
  (if ((x0_ >>> (x1_ &&& 31)) &&& 1) = 1 then true else false)
def s_X10_plain (mF : ev_m) (x0_ : Int32) : Int32 :=
  (if x0_ < 0 then -x0_ else x0_)
def s_X10_within (mF : ev_m) (x0_ : Int32) (x1_ : Int32) : Int32 :=
  (if x1_ < x0_ then x1_ else (if x0_ < (-x1_) then -x1_ else x0_))
def lp_X10_copyAll_2 (i1 : Nat) (x2 : Int32) (x3 : Int32) : Nat → Int32 → ev_m → (ev_m → Option (ev_m)) → Option (ev_m)
  | 0, _, _, _ => none
  | f + 1, x4, m5, kx =>
  (if x4 < 600 then (ev_ald (m5.1 30 0) 2400 ((600 * x2) + x4)).bind (fun x7 => (ev_bst m5 30 0 2400 ((600 * x3) + x4) x7).bind (fun m8 => (lp_X10_copyAll_2 i1 x2 x3 f (x4 + 1) m8 kx))) else (kx m5))
def f_X10_copyAll (mF : ev_m) (i0 : Nat) (x1_ : Int32) (x2_ : Int32) : Option (ev_m) :=
  (lp_X10_copyAll_2 i0 x1_ x2_ 4000 0 mF (fun m9 => (f_X10_copyRow 31 0 4 m9 1 x1_ x2_).bind (fun m10 => (f_X10_copyRow 32 0 4 m10 1 x1_ x2_).bind (fun m11 => (f_X10_copyRow 33 0 4 m11 1 x1_ x2_).bind (fun m12 => (f_X10_copyRow 34 0 16 m12 4 x1_ x2_).bind (fun m13 => (f_X10_copyRow 35 0 184 m13 46 x1_ x2_).bind (fun m14 => (f_X10_copyRow 36 0 288 m14 72 x1_ x2_).bind (fun m15 => (f_X10_copyRow 37 0 488 m15 122 x1_ x2_).bind (fun m16 => (f_X10_copyRow 38 0 136 m16 34 x1_ x2_).bind (fun m17 => (some (m17))))))))))))
def s_X10_mostOf (mF : ev_m) (x0_ : Int32) : Int32 :=
  (if x0_ = 1 then 4 else 2)
def f_X10_is (mF : ev_m) (i0 : Nat) (x1_ : Int32) (x2_ : Int32) : Option (Bool) :=
  (ev_ald (mF.1 34 0) 16 x1_).bind (fun x1 => (some (s_X10_in mF x2_ 0 (x1 - 1))))
def lp_X10_four_3 (i1 : Nat) (x2 : Int32) : Nat → Int32 → ev_m → (ev_m → Option (ev_m)) → Option (ev_m)
  | 0, _, _, _ => none
  | f + 1, x3, m4, kx =>
  (if x3 < 0 then (kx m4) else (ev_bst m4 30 0 2400 (m4.1 31 0 0) ((x2 >>> (x3 &&& 31)).toInt8.toInt32)).bind (fun m6 => ev_let (ev_pim m6 31 0 0 ((m6.1 31 0 0) + 1)) (fun m7 => (lp_X10_four_3 i1 x2 f (x3 + (-8)) m7 kx))))
def f_X10_four (mF : ev_m) (i0 : Nat) (x1_ : Int32) : Option (ev_m) :=
  (lp_X10_four_3 i0 x1_ 4000 24 mF (fun m8 => (some (m8))))
def f_X10_feed (mF : ev_m) (i0 : Nat) (x1_ : Int32) (x2_ : Int32) (x3_ : Int32) (x4_ : Int32) (x5_ : Int32) : Option (Int32 × ev_m) :=
  ev_let (ev_pim mF 10 i0 0 0) (fun m1 => (if 600 < ((m1.1 31 0 0) + 20) then (some (((-1), m1))) else (f_X10_four m1 i0 x1_).bind (fun m3 => (f_X10_four m3 i0 x2_).bind (fun m4 => (f_X10_four m4 i0 x3_).bind (fun m5 => (f_X10_four m5 i0 x4_).bind (fun m6 => (f_X10_four m6 i0 x5_).bind (fun m7 => (some ((m7.1 31 0 0, m7))))))))))
def s_X10_end (mF : ev_m) (i0 : Nat) (x1_ : Int32) : Int32 × ev_m :=
  ev_let (ev_pim mF 10 i0 0 0) (fun m1 => (if (s_X10_in m1 x1_ 0 (m1.1 31 0 0)) = true then ev_let (ev_pim m1 31 0 0 x1_) (fun m3 => (x1_, m3)) else ((-1), m1)))
def f_X10_see (mF : ev_m) (i0 : Nat) : Option (Int32) :=
  (if (mF.1 10 i0 10) < (mF.1 10 i0 11) then (ev_ald (mF.1 30 0) 2400 (mF.1 10 i0 10)).bind (fun x2 => (some (x2 &&& 255))) else (some ((-1))))
def jn_X10_token_18_0 (m10 : ev_m) (i6 : Nat) (kb : ev_m → Option (ev_m)) (kx : ev_m → Option (ev_m)) : Option (ev_m) :=
  ev_let (ev_pim m10 10 i6 10 ((m10.1 10 i6 10) + 1)) (fun m11 => (kb m11))
def lp_X10_token_0 (i6 : Nat) : Nat → ev_m → (ev_m → Option (ev_m)) → Option (ev_m)
  | 0, _, _ => none
  | f + 1, m7, kx =>
  (f_X10_see m7 i6).bind (fun x8 => (if x8 = 10 then (jn_X10_token_18_0 m7 i6 (fun z0 => lp_X10_token_0 i6 f z0 kx) (kx)) else (f_X10_see m7 i6).bind (fun x12 => (if x12 = 32 then (jn_X10_token_18_0 m7 i6 (fun z0 => lp_X10_token_0 i6 f z0 kx) (kx)) else (kx m7)))))
def jn_X10_token_205_163 (m36 : ev_m) (i27 : Nat) (x33 : Int32) (x34 : Int32) (i35 : Nat) (kb : Int32 → ev_m → Option (ev_m)) (kx : Int32 → ev_m → Option (ev_m)) : Option (ev_m) :=
  ev_let (ev_pim m36 10 i35 14 x34) (fun m37 => ev_let (ev_pim m37 10 i27 10 ((m37.1 10 i27 10) + 1)) (fun m38 => (kb (x33 + 1) m38)))
def lp_X10_token_163 (i27 : Nat) : Nat → Int32 → ev_m → (Int32 → ev_m → Option (ev_m)) → Option (ev_m)
  | 0, _, _, _ => none
  | f + 1, x28, m29, kx =>
  (f_X10_see m29 i27).bind (fun x30 => (if (s_X10_in m29 x30 48 57) = true then (if x28 < 4 then (f_X10_see m29 i27).bind (fun x39 => (jn_X10_token_205_163 m29 i27 x28 (((10 * (m29.1 10 i27 14)) + x39) - 48) i27 (fun z0 z1 => lp_X10_token_163 i27 f z0 z1 kx) (kx))) else (jn_X10_token_205_163 m29 i27 x28 (m29.1 10 i27 14) i27 (fun z0 z1 => lp_X10_token_163 i27 f z0 z1 kx) (kx))) else (kx x28 m29)))
def lp_X10_token_74 (i45 : Nat) : Nat → Int32 → ev_m → (Int32 → ev_m → Option (ev_m)) → Option (ev_m)
  | 0, _, _, _ => none
  | f + 1, x46, m47, kx =>
  (f_X10_see m47 i45).bind (fun x48 => (if (s_X10_in m47 x48 97 122) = true then (f_X10_see m47 i45).bind (fun x50 => ev_let (ev_plm m47 10 i45 15 (((m47.2.1 10 i45 15) <<< ((8 : Int32).toInt64 &&& 63)) ||| x50.toInt64)) (fun m51 => ev_let (ev_pim m51 10 i45 10 ((m51.1 10 i45 10) + 1)) (fun m52 => (lp_X10_token_74 i45 f (x46 + 1) m52 kx)))) else (kx x46 m47)))
def jn_X10_token_18 (m4 : ev_m) (i3 : Nat) : Option (ev_m) :=
  ev_let (ev_pim m4 10 i3 10 ((m4.1 10 i3 10) + 1)) (fun m5 => (lp_X10_token_0 i3 4000 m5 (fun m14 => ev_let (ev_pim m14 10 i3 12 (m14.1 10 i3 10)) (fun m15 => (f_X10_see m15 i3).bind (fun x16 => ev_let (ev_plm m15 10 i3 15 0) (fun m17 => (if x16 < 0 then ev_let (ev_pim m17 10 i3 13 0) (fun m59 => (some (m59))) else (if (s_X10_in m17 x16 97 122) = true then (lp_X10_token_74 i3 4000 0 m17 (fun x53 m54 => ev_let (if 8 < x53 then 0 else (m54.2.1 10 i3 15) : Int64) (fun y56 => ev_let (ev_plm m54 10 i3 15 y56) (fun m57 => ev_let (ev_pim m57 10 i3 13 2) (fun m58 => (some (m58))))))) else (if (s_X10_in m17 x16 48 57) = true then ev_let (ev_pim m17 10 i3 14 0) (fun m26 => (lp_X10_token_163 i3 4000 0 m26 (fun x40 m41 => ev_let (if 4 < x40 then 1 else 3 : Int32) (fun x43 => ev_let (ev_pim m41 10 i3 13 x43) (fun m44 => (some (m44))))))) else ev_let (ev_pim m17 10 i3 10 ((m17.1 10 i3 10) + 1)) (fun m21 => ev_let (if x16 = 59 then 4 else (if x16 = 45 then 5 else 1) : Int32) (fun x24 => ev_let (ev_pim m21 10 i3 13 x24) (fun m25 => (some (m25))))))))))))))
def f_X10_token (mF : ev_m) (i0 : Nat) : Option (ev_m) :=
  (f_X10_see mF i0).bind (fun x1 => (if x1 = 10 then (jn_X10_token_18 mF i0) else (f_X10_see mF i0).bind (fun x60 => (if x60 = 32 then (jn_X10_token_18 mF i0) else ev_let (ev_pim mF 10 i0 12 (mF.1 10 i0 10)) (fun m62 => (f_X10_see m62 i0).bind (fun x63 => ev_let (ev_plm m62 10 i0 15 0) (fun m64 => (if x63 < 0 then ev_let (ev_pim m64 10 i0 13 0) (fun m91 => (some (m91))) else (if (s_X10_in m64 x63 97 122) = true then (lp_X10_token_74 i0 4000 0 m64 (fun x85 m86 => ev_let (if 8 < x85 then 0 else (m86.2.1 10 i0 15) : Int64) (fun y88 => ev_let (ev_plm m86 10 i0 15 y88) (fun m89 => ev_let (ev_pim m89 10 i0 13 2) (fun m90 => (some (m90))))))) else (if (s_X10_in m64 x63 48 57) = true then ev_let (ev_pim m64 10 i0 14 0) (fun m73 => (lp_X10_token_163 i0 4000 0 m73 (fun x77 m78 => ev_let (if 4 < x77 then 1 else 3 : Int32) (fun x80 => ev_let (ev_pim m78 10 i0 13 x80) (fun m81 => (some (m81))))))) else ev_let (ev_pim m64 10 i0 10 ((m64.1 10 i0 10) + 1)) (fun m68 => ev_let (if x63 = 59 then 4 else (if x63 = 45 then 5 else 1) : Int32) (fun x71 => ev_let (ev_pim m68 10 i0 13 x71) (fun m72 => (some (m72)))))))))))))))
def s_X10_stops (mF : ev_m) (i0 : Nat) : Bool × ev_m :=
  ev_let (ev_pim mF 10 i0 16 (mF.1 10 i0 12)) (fun m1 => (false, m1))
def jn_X10_later_31 (m5 : ev_m) (i2 : Nat) (x3 : Int32) (x4 : Int32) : ev_m :=
  ev_let (ev_pim m5 10 i2 17 x3) (fun m6 => ev_let (ev_pim m6 10 i2 18 x4) (fun m7 => m7))
def s_X10_later (mF : ev_m) (i0 : Nat) (x1_ : Int32) (x2_ : Int32) : ev_m :=
  (if (mF.1 10 i0 17) = 0 then (jn_X10_later_31 mF i0 x1_ x2_) else (if x2_ < (mF.1 10 i0 18) then (jn_X10_later_31 mF i0 x1_ x2_) else (if x2_ = (mF.1 10 i0 18) then (if x1_ < (mF.1 10 i0 17) then (jn_X10_later_31 mF i0 x1_ x2_) else mF) else mF)))
def jn_X10_number_42 (m5 : ev_m) (i4 : Nat) : Option (Bool × ev_m) :=
  (f_X10_token m5 i4).bind (fun m6 => (some ((true, m6))))
def f_X10_number (mF : ev_m) (i0 : Nat) (x1_ : Int32) (x2_ : Int32) : Option (Bool × ev_m) :=
  (if (mF.1 10 i0 13) = 3 then ev_let (ev_pim mF 10 i0 20 (mF.1 10 i0 14)) (fun m2 => (if (s_X10_in m2 (m2.1 10 i0 14) x1_ x2_) = true then (jn_X10_number_42 m2 i0) else ev_let (s_X10_later m2 i0 2 (m2.1 10 i0 12)) (fun m7 => (jn_X10_number_42 m7 i0)))) else ev_let (s_X10_stops mF i0) (fun p8 => (some ((p8.1, p8.2)))))
def jn_X10_signed_22 (m7 : ev_m) (i4 : Nat) (x5 : Int32) (x6 : Int32) : Option (Bool × ev_m) :=
  (f_X10_number m7 i4 0 x5).bind (fun p8 => ev_let (p8.1 : Bool) (fun x9 => ev_let (if x6 = 0 then (p8.2.1 10 i4 20) else (-(p8.2.1 10 i4 20)) : Int32) (fun x11 => ev_let (ev_pim p8.2 10 i4 20 x11) (fun m12 => (some ((x9, m12)))))))
def f_X10_signed (mF : ev_m) (i0 : Nat) (x1_ : Int32) : Option (Bool × ev_m) :=
  ev_let (if (mF.1 10 i0 13) = 5 then 1 else 0 : Int32) (fun x2 => (if x2 = 0 then (jn_X10_signed_22 mF i0 x1_ x2) else (f_X10_token mF i0).bind (fun m13 => (jn_X10_signed_22 m13 i0 x1_ x2))))
def jn_X10_into_31 (m8 : ev_m) (x5 : Bool) (x6 : Int32) (x7 : Int32) : Option (Bool × ev_m) :=
  (ev_ast m8 39 0 61 x7 x6).bind (fun m9 => (some ((x5, m9))))
def f_X10_into (mF : ev_m) (i0 : Nat) (x1_ : Int32) (x2_ : Int32) (x3_ : Int32) : Option (Bool × ev_m) :=
  (f_X10_number mF i0 x2_ x3_).bind (fun p1 => ev_let (p1.1 : Bool) (fun x2 => (if x2 = true then (jn_X10_into_31 (p1.2) x2 (p1.2.1 10 i0 20) x1_) else (ev_ald (p1.2.1 39 0) 61 x1_).bind (fun x4 => (jn_X10_into_31 (p1.2) x2 x4 x1_)))))
def jn_X10_signedInto_28 (m8 : ev_m) (x5 : Bool) (x6 : Int32) (x7 : Int32) : Option (Bool × ev_m) :=
  (ev_ast m8 39 0 61 x7 x6).bind (fun m9 => (some ((x5, m9))))
def f_X10_signedInto (mF : ev_m) (i0 : Nat) (x1_ : Int32) (x2_ : Int32) : Option (Bool × ev_m) :=
  (f_X10_signed mF i0 x2_).bind (fun p1 => ev_let (p1.1 : Bool) (fun x2 => (if x2 = true then (jn_X10_signedInto_28 (p1.2) x2 (p1.2.1 10 i0 20) x1_) else (ev_ald (p1.2.1 39 0) 61 x1_).bind (fun x4 => (jn_X10_signedInto_28 (p1.2) x2 x4 x1_)))))
def jn_X10_list_83_0 (m33 : ev_m) (i20 : Nat) (x21 : Int32) (x22 : Int32) (x23 : Int32) (x24 : Int32) (kb : ev_m → Option (Bool × ev_m)) (kx : ev_m → Option (Bool × ev_m)) : Option (Bool × ev_m) :=
  (if (m33.1 10 i20 13) = 3 then (kb m33) else (if (m33.1 10 i20 13) = 5 then (kb m33) else (kx m33)))
def jn_X10_list_35_0 (m28 : ev_m) (i20 : Nat) (x21 : Int32) (x22 : Int32) (x23 : Int32) (x24 : Int32) (kb : ev_m → Option (Bool × ev_m)) (kx : ev_m → Option (Bool × ev_m)) : Option (Bool × ev_m) :=
  (f_X10_signed m28 i20 x24).bind (fun p29 => (if p29.1 = true then (ev_ald (p29.2.1 39 0) 61 x21).bind (fun x31 => (if x31 < x23 then (ev_ald (p29.2.1 39 0) 61 x21).bind (fun x36 => (ev_ast p29.2 39 0 61 (x22 + x36) (p29.2.1 10 i20 20)).bind (fun m37 => (ev_ald (m37.1 39 0) 61 x21).bind (fun x38 => (ev_ast m37 39 0 61 x21 (x38 + 1)).bind (fun m39 => (jn_X10_list_83_0 m39 i20 x21 x22 x23 x24 (kb) (kx)))))) else (jn_X10_list_83_0 (p29.2) i20 x21 x22 x23 x24 (kb) (kx)))) else (some ((false, p29.2)))))
def jn_X10_list_26_0 (m41 : ev_m) (i20 : Nat) (x21 : Int32) (x22 : Int32) (x23 : Int32) (x24 : Int32) (kb : ev_m → Option (Bool × ev_m)) (kx : ev_m → Option (Bool × ev_m)) : Option (Bool × ev_m) :=
  ev_let (s_X10_later m41 i20 3 (m41.1 10 i20 12)) (fun m42 => (jn_X10_list_35_0 m42 i20 x21 x22 x23 x24 (kb) (kx)))
def lp_X10_list_0 (i20 : Nat) (x21 : Int32) (x22 : Int32) (x23 : Int32) (x24 : Int32) : Nat → ev_m → (ev_m → Option (Bool × ev_m)) → Option (Bool × ev_m)
  | 0, _, _ => none
  | f + 1, m25, kx =>
  (ev_ald (m25.1 39 0) 61 x21).bind (fun x26 => (if x26 = x23 then (if (m25.1 10 i20 13) = 3 then (jn_X10_list_26_0 m25 i20 x21 x22 x23 x24 (fun z0 => lp_X10_list_0 i20 x21 x22 x23 x24 f z0 kx) (kx)) else (if (m25.1 10 i20 13) = 5 then (jn_X10_list_26_0 m25 i20 x21 x22 x23 x24 (fun z0 => lp_X10_list_0 i20 x21 x22 x23 x24 f z0 kx) (kx)) else (jn_X10_list_35_0 m25 i20 x21 x22 x23 x24 (fun z0 => lp_X10_list_0 i20 x21 x22 x23 x24 f z0 kx) (kx)))) else (jn_X10_list_35_0 m25 i20 x21 x22 x23 x24 (fun z0 => lp_X10_list_0 i20 x21 x22 x23 x24 f z0 kx) (kx))))
def jn_X10_list_83 (m18 : ev_m) (i13 : Nat) (x14 : Int32) (x15 : Int32) (x16 : Int32) (x17 : Int32) : Option (Bool × ev_m) :=
  (if (m18.1 10 i13 13) = 3 then (lp_X10_list_0 i13 x14 x15 x16 x17 4000 m18 (fun m44 => (some ((true, m44))))) else (if (m18.1 10 i13 13) = 5 then (lp_X10_list_0 i13 x14 x15 x16 x17 4000 m18 (fun m52 => (some ((true, m52))))) else (some ((true, m18)))))
def jn_X10_list_35 (m8 : ev_m) (i3 : Nat) (x4 : Int32) (x5 : Int32) (x6 : Int32) (x7 : Int32) : Option (Bool × ev_m) :=
  (f_X10_signed m8 i3 x7).bind (fun p9 => (if p9.1 = true then (ev_ald (p9.2.1 39 0) 61 x4).bind (fun x11 => (if x11 < x6 then (ev_ald (p9.2.1 39 0) 61 x4).bind (fun x53 => (ev_ast p9.2 39 0 61 (x5 + x53) (p9.2.1 10 i3 20)).bind (fun m54 => (ev_ald (m54.1 39 0) 61 x4).bind (fun x55 => (ev_ast m54 39 0 61 x4 (x55 + 1)).bind (fun m56 => (jn_X10_list_83 m56 i3 x4 x5 x6 x7))))) else (jn_X10_list_83 (p9.2) i3 x4 x5 x6 x7))) else (some ((false, p9.2)))))
def jn_X10_list_26 (m63 : ev_m) (i58 : Nat) (x59 : Int32) (x60 : Int32) (x61 : Int32) (x62 : Int32) : Option (Bool × ev_m) :=
  ev_let (s_X10_later m63 i58 3 (m63.1 10 i58 12)) (fun m64 => (jn_X10_list_35 m64 i58 x59 x60 x61 x62))
def f_X10_list (mF : ev_m) (i0 : Nat) (x1_ : Int32) (x2_ : Int32) (x3_ : Int32) (x4_ : Int32) : Option (Bool × ev_m) :=
  (ev_ald (mF.1 39 0) 61 x1_).bind (fun x1 => (if x1 = x3_ then (if (mF.1 10 i0 13) = 3 then (jn_X10_list_26 mF i0 x1_ x2_ x3_ x4_) else (if (mF.1 10 i0 13) = 5 then (jn_X10_list_26 mF i0 x1_ x2_ x3_ x4_) else (jn_X10_list_35 mF i0 x1_ x2_ x3_ x4_))) else (jn_X10_list_35 mF i0 x1_ x2_ x3_ x4_)))
def jn_X10_shipLine_209 (m21 : ev_m) (i19 : Nat) (x20 : Int32) : Option (Bool × ev_m) :=
  (f_X10_signedInto m21 i19 x20 99).bind (fun p22 => (some ((p22.1, p22.2))))
def jn_X10_shipLine_126 (m14 : ev_m) (i11 : Nat) (y12 : Int64) (x13 : Int32) : Option (Bool × ev_m) :=
  (f_X10_token m14 i11).bind (fun m15 => (if y12 = 495873782388 then (f_X10_signedInto m15 i11 8 999).bind (fun p35 => (if p35.1 = true then (f_X10_signedInto p35.2 i11 9 999).bind (fun p37 => (if p37.1 = true then (some ((true, p37.2))) else (some ((false, p37.2))))) else (some ((false, p35.2))))) else (if y12 = 7562593 then ev_let (ev_pim m15 39 0 10 0) (fun m33 => (f_X10_list m33 i11 10 11 12 99).bind (fun p34 => (some ((p34.1, p34.2))))) else (if x13 = 6 then (jn_X10_shipLine_209 m15 i11 x13) else (if x13 = 7 then (jn_X10_shipLine_209 m15 i11 x13) else ev_let (if x13 = 3 then 1 else (if x13 = 4 then 1 else 0) : Int32) (fun x26 => ev_let (if x13 = 1 then 100 else (if x13 = 2 then 9 else (if x13 = 3 then 35 else (if x13 = 4 then 35 else 99))) : Int32) (fun x31 => (f_X10_into m15 i11 x13 x26 x31).bind (fun p32 => (some ((p32.1, p32.2)))))))))))
def jn_X10_shipLine_99 (m45 : ev_m) (i42 : Nat) (y43 : Int64) (x44 : Int32) : Option (Bool × ev_m) :=
  (if x44 = ((-1)) then (if y43 = 495873782388 then (jn_X10_shipLine_126 m45 i42 y43 x44) else (if y43 = 7562593 then (jn_X10_shipLine_126 m45 i42 y43 x44) else ev_let (s_X10_stops m45 i42) (fun p49 => (some ((p49.1, p49.2)))))) else (jn_X10_shipLine_126 m45 i42 y43 x44))
def f_X10_shipLine (mF : ev_m) (i0 : Nat) (y1_ : Int64) : Option (Bool × ev_m) :=
  (if y1_ = 1953854062 then (jn_X10_shipLine_99 mF i0 y1_ 0) else ev_let (if y1_ = 1667329133 then 1 else (if y1_ = 7102823 then 2 else (if y1_ = 1836020596 then 3 else (if y1_ = 1734697330 then 4 else (if y1_ = 7501154 then 5 else (if y1_ = 2003398244 then 6 else (if y1_ = 1953655149 then 7 else ((-1)))))))) : Int32) (fun x9 => (if x9 = ((-1)) then (if y1_ = 495873782388 then (jn_X10_shipLine_126 mF i0 y1_ x9) else (if y1_ = 7562593 then (jn_X10_shipLine_126 mF i0 y1_ x9) else ev_let (s_X10_stops mF i0) (fun p41 => (some ((p41.1, p41.2)))))) else (jn_X10_shipLine_126 mF i0 y1_ x9))))
def jn_X10_handLine_153 (m20 : ev_m) (i17 : Nat) (y18 : Int64) (x19 : Int32) : Option (Bool × ev_m) :=
  (f_X10_token m20 i17).bind (fun m21 => (if y18 = 1700885369 then ev_let (ev_pim m21 39 0 8 1) (fun m41 => (some ((true, m41)))) else (if y18 = 1937006962 then (f_X10_number m21 i17 0 999).bind (fun p30 => (if p30.1 = true then ev_let (p30.2.1 10 i17 20 : Int32) (fun x32 => ev_let (if x32 < 999 then x32 else 999 : Int32) (fun x34 => (f_X10_number p30.2 i17 x34 999).bind (fun p35 => (if p35.1 = true then (if (p35.2.1 39 0 9) < 4 then (ev_ast p35.2 39 0 61 (10 + (2 * (p35.2.1 39 0 9))) x32).bind (fun m38 => (ev_ast m38 39 0 61 (11 + (2 * (m38.1 39 0 9))) (m38.1 10 i17 20)).bind (fun m39 => ev_let (ev_pim m39 39 0 9 ((m39.1 39 0 9) + 1)) (fun m40 => (some ((true, m40)))))) else (some ((true, p35.2)))) else (some ((false, p35.2))))))) else (some ((false, p30.2))))) else ev_let (if x19 = 4 then 1 else 0 : Int32) (fun x25 => ev_let (if 2 < x19 then (if x19 = 7 then 100 else 999) else 99 : Int32) (fun x28 => (f_X10_into m21 i17 x19 x25 x28).bind (fun p29 => (some ((p29.1, p29.2)))))))))
def jn_X10_handLine_128 (m15 : ev_m) (i11 : Nat) (y12 : Int64) (x13 : Int32) (x14 : Int32) : Option (Bool × ev_m) :=
  (if y12 = 1937006962 then (if (m15.1 39 0 9) = 4 then ev_let (s_X10_later m15 i11 3 x13) (fun m43 => (jn_X10_handLine_153 m43 i11 y12 x14)) else (jn_X10_handLine_153 m15 i11 y12 x14)) else (jn_X10_handLine_153 m15 i11 y12 x14))
def jn_X10_handLine_99 (m51 : ev_m) (i47 : Nat) (y48 : Int64) (x49 : Int32) (x50 : Int32) : Option (Bool × ev_m) :=
  (if x50 = ((-1)) then (if y48 = 1700885369 then (jn_X10_handLine_128 m51 i47 y48 x49 x50) else (if y48 = 1937006962 then (jn_X10_handLine_128 m51 i47 y48 x49 x50) else ev_let (s_X10_stops m51 i47) (fun p55 => (some ((p55.1, p55.2)))))) else (jn_X10_handLine_128 m51 i47 y48 x49 x50))
def f_X10_handLine (mF : ev_m) (i0 : Nat) (y1_ : Int64) (x3_ : Int32) : Option (Bool × ev_m) :=
  (if y1_ = 6709618 then (jn_X10_handLine_99 mF i0 y1_ x3_ 0) else ev_let (if y1_ = 487301145451 then 1 else (if y1_ = 1650812270 then 2 else (if y1_ = 1684365668 then 3 else (if y1_ = 482905517684 then 4 else (if y1_ = 513021013607 then 5 else (if y1_ = 499985311076 then 6 else (if y1_ = 495740088435 then 7 else ((-1)))))))) : Int32) (fun x9 => (if x9 = ((-1)) then (if y1_ = 1700885369 then (jn_X10_handLine_128 mF i0 y1_ x3_ x9) else (if y1_ = 1937006962 then (jn_X10_handLine_128 mF i0 y1_ x3_ x9) else ev_let (s_X10_stops mF i0) (fun p46 => (some ((p46.1, p46.2)))))) else (jn_X10_handLine_128 mF i0 y1_ x3_ x9))))
def f_X10_paperLine (mF : ev_m) (i0 : Nat) (y1_ : Int64) : Option (Bool × ev_m) :=
  (if y1_ = 7499639 then (f_X10_token mF i0).bind (fun m2 => (f_X10_list m2 i0 0 1 60 9999).bind (fun p3 => (some ((p3.1, p3.2))))) else ev_let (s_X10_stops mF i0) (fun p4 => (some ((p4.1, p4.2)))))
def jn_X10_watchLine_34 (m6 : ev_m) (i4 : Nat) (x5 : Int32) : Option (Bool × ev_m) :=
  (f_X10_token m6 i4).bind (fun m7 => (f_X10_number m7 i4 0 3).bind (fun p8 => (if p8.1 = true then ev_let (p8.2.1 10 i4 20 : Int32) (fun x10 => (f_X10_number p8.2 i4 1 200).bind (fun p11 => (if p11.1 = true then (if x5 < 8 then (ev_ast p11.2 39 0 61 (1 + (2 * x5)) x10).bind (fun m14 => (ev_ast m14 39 0 61 (2 + (2 * x5)) (m14.1 10 i4 20)).bind (fun m15 => ev_let (ev_pim m15 39 0 0 ((m15.1 39 0 0) + 1)) (fun m16 => (some ((true, m16)))))) else (some ((true, p11.2)))) else (some ((false, p11.2)))))) else (some ((false, p8.2))))))
def f_X10_watchLine (mF : ev_m) (i0 : Nat) (y1_ : Int64) (x3_ : Int32) : Option (Bool × ev_m) :=
  (if y1_ = 7168366 then ev_let (mF.1 39 0 0 : Int32) (fun x2 => (if x2 = 8 then ev_let (s_X10_later mF i0 3 x3_) (fun m17 => (jn_X10_watchLine_34 m17 i0 x2)) else (jn_X10_watchLine_34 mF i0 x2))) else ev_let (s_X10_stops mF i0) (fun p18 => (some ((p18.1, p18.2)))))
def lp_X10_clear_2 (i1 : Nat) (x2 : Int32) : Nat → Int32 → ev_m → (ev_m → Option (ev_m)) → Option (ev_m)
  | 0, _, _, _ => none
  | f + 1, x3, m4, kx =>
  (if x3 < 61 then (ev_ast m4 39 0 61 x3 0).bind (fun m6 => (lp_X10_clear_2 i1 x2 f (x3 + 1) m6 kx)) else (kx m4))
def jn_X10_clear_64 (m11 : ev_m) (i9 : Nat) (x10 : Int32) : Option (ev_m) :=
  ev_let (if x10 = 1 then 1 else (m11.1 39 0 4) : Int32) (fun x13 => ev_let (ev_pim m11 39 0 4 x13) (fun m14 => (some (m14))))
def f_X10_clear (mF : ev_m) (i0 : Nat) (x1_ : Int32) : Option (ev_m) :=
  (lp_X10_clear_2 i0 x1_ 4000 0 mF (fun m7 => (if x1_ = 0 then ev_let (ev_pim m7 39 0 0 5) (fun m15 => ev_let (ev_pim m15 39 0 1 10) (fun m16 => ev_let (ev_pim m16 39 0 3 35) (fun m17 => ev_let (ev_pim m17 39 0 4 35) (fun m18 => ev_let (ev_pim m18 39 0 10 1) (fun m19 => (jn_X10_clear_64 m19 i0 x1_)))))) else (jn_X10_clear_64 m7 i0 x1_))))
def jn_X10_readText_130_21 (m25 : ev_m) (i5 : Nat) (x6 : Int32) (x24 : Bool) (kb : Int32 → ev_m → Option (Bool × ev_m)) (kx : Int32 → ev_m → Option (Bool × ev_m)) : Option (Bool × ev_m) :=
  (kb (bi (x24)) m25)
def jn_X10_readText_122_21 (m22 : ev_m) (i5 : Nat) (x6 : Int32) (x21 : Bool) (kb : Int32 → ev_m → Option (Bool × ev_m)) (kx : Int32 → ev_m → Option (Bool × ev_m)) : Option (Bool × ev_m) :=
  (if x21 = true then (f_X10_token m22 i5).bind (fun m26 => (jn_X10_readText_130_21 m26 i5 x6 x21 (kb) (kx))) else (jn_X10_readText_130_21 m22 i5 x6 x21 (kb) (kx)))
def jn_X10_readText_104_21 (m19 : ev_m) (i5 : Nat) (x6 : Int32) (x18 : Bool) (kb : Int32 → ev_m → Option (Bool × ev_m)) (kx : Int32 → ev_m → Option (Bool × ev_m)) : Option (Bool × ev_m) :=
  (if x18 = true then (if (m19.1 10 i5 13) = 4 then (jn_X10_readText_122_21 m19 i5 x6 x18 (kb) (kx)) else ev_let (s_X10_stops m19 i5) (fun p28 => ev_let (p28.1 : Bool) (fun x29 => (jn_X10_readText_122_21 (p28.2) i5 x6 x29 (kb) (kx))))) else (jn_X10_readText_122_21 m19 i5 x6 x18 (kb) (kx)))
def lp_X10_readText_21 (i5 : Nat) (x6 : Int32) : Nat → Int32 → ev_m → (Int32 → ev_m → Option (Bool × ev_m)) → Option (Bool × ev_m)
  | 0, _, _, _ => none
  | f + 1, x7, m8, kx =>
  (if x7 = 0 then (kx x7 m8) else (if (m8.1 10 i5 13) = 0 then (kx x7 m8) else ev_let (m8.1 10 i5 12 : Int32) (fun x11 => ev_let (if (m8.1 10 i5 13) = 2 then (m8.2.1 10 i5 15) else 0 : Int64) (fun y13 => (if x6 = 0 then (f_X10_shipLine m8 i5 y13).bind (fun p32 => (jn_X10_readText_104_21 (p32.2) i5 x6 p32.1 (fun z0 z1 => lp_X10_readText_21 i5 x6 f z0 z1 kx) (kx))) else (if x6 = 1 then (f_X10_handLine m8 i5 y13 x11).bind (fun p31 => (jn_X10_readText_104_21 (p31.2) i5 x6 p31.1 (fun z0 z1 => lp_X10_readText_21 i5 x6 f z0 z1 kx) (kx))) else (if x6 = 2 then (f_X10_paperLine m8 i5 y13).bind (fun p30 => (jn_X10_readText_104_21 (p30.2) i5 x6 p30.1 (fun z0 z1 => lp_X10_readText_21 i5 x6 f z0 z1 kx) (kx))) else (f_X10_watchLine m8 i5 y13 x11).bind (fun p17 => (jn_X10_readText_104_21 (p17.2) i5 x6 p17.1 (fun z0 z1 => lp_X10_readText_21 i5 x6 f z0 z1 kx) (kx))))))))))
def jn_X10_readText_167 (m42 : ev_m) (i40 : Nat) (x41 : Int32) : Option (Bool × ev_m) :=
  ev_let (if x41 = 0 then 1 else (m42.1 10 i40 17) : Int32) (fun x44 => ev_let (ev_pim m42 32 0 0 x44) (fun m45 => ev_let (if x41 = 0 then (m45.1 10 i40 16) else (if 0 < (m45.1 10 i40 17) then (m45.1 10 i40 18) else ((-1))) : Int32) (fun x48 => ev_let (ev_pim m45 33 0 0 x48) (fun m49 => (if (m49.1 32 0 0) = 0 then (some ((true, m49))) else (some ((false, m49))))))))
def jn_X10_readText_133 (m38 : ev_m) (i35 : Nat) (x36 : Int32) (x37 : Int32) : Option (Bool × ev_m) :=
  (if x37 = 0 then (jn_X10_readText_167 m38 i35 x37) else (if x36 = 2 then (if (m38.1 39 0 0) = 0 then (if (m38.1 10 i35 17) = 0 then ev_let (s_X10_later m38 i35 4 (m38.1 10 i35 12)) (fun m54 => (jn_X10_readText_167 m54 i35 x37)) else (jn_X10_readText_167 m38 i35 x37)) else (jn_X10_readText_167 m38 i35 x37)) else (jn_X10_readText_167 m38 i35 x37)))
def f_X10_readText (mF : ev_m) (i0 : Nat) (x1_ : Int32) : Option (Bool × ev_m) :=
  (f_X10_clear mF i0 x1_).bind (fun m1 => ev_let (ev_pim m1 10 i0 10 0) (fun m2 => ev_let (ev_pim m2 10 i0 17 0) (fun m3 => (f_X10_token m3 i0).bind (fun m4 => (lp_X10_readText_21 i0 x1_ 4000 1 m4 (fun x33 m34 => (jn_X10_readText_133 m34 i0 x1_ x33)))))))
def lp_X10_store_2 (i1 : Nat) (x2 : Int32) (x3 : Int32) : Nat → Int32 → ev_m → (ev_m → Option (ev_m)) → Option (ev_m)
  | 0, _, _, _ => none
  | f + 1, x4, m5, kx =>
  (if x4 < 23 then (if x2 = 0 then (ev_ald (m5.1 39 0) 61 x4).bind (fun x8 => (ev_ast m5 35 0 184 ((23 * x3) + x4) x8).bind (fun m9 => (lp_X10_store_2 i1 x2 x3 f (x4 + 1) m9 kx))) else (kx m5)) else (kx m5))
def lp_X10_store_37 (i15 : Nat) (x16 : Int32) (x17 : Int32) : Nat → Int32 → ev_m → (ev_m → Option (ev_m)) → Option (ev_m)
  | 0, _, _, _ => none
  | f + 1, x18, m19, kx =>
  (if x18 < 18 then (if x16 = 1 then (ev_ald (m19.1 39 0) 61 x18).bind (fun x22 => (ev_ast m19 36 0 288 ((18 * x17) + x18) x22).bind (fun m23 => (lp_X10_store_37 i15 x16 x17 f (x18 + 1) m23 kx))) else (kx m19)) else (kx m19))
def lp_X10_store_73 (i29 : Nat) (x30 : Int32) (x31 : Int32) : Nat → Int32 → ev_m → (ev_m → Option (ev_m)) → Option (ev_m)
  | 0, _, _, _ => none
  | f + 1, x32, m33, kx =>
  (if x32 < 61 then (if x30 = 2 then (ev_ald (m33.1 39 0) 61 x32).bind (fun x36 => (ev_ast m33 37 0 488 ((61 * x31) + x32) x36).bind (fun m37 => (lp_X10_store_73 i29 x30 x31 f (x32 + 1) m37 kx))) else (kx m33)) else (kx m33))
def lp_X10_store_109 (i43 : Nat) (x44 : Int32) (x45 : Int32) : Nat → Int32 → ev_m → (ev_m → Option (ev_m)) → Option (ev_m)
  | 0, _, _, _ => none
  | f + 1, x46, m47, kx =>
  (if x46 < 17 then (if x44 = 3 then (ev_ald (m47.1 39 0) 61 x46).bind (fun x50 => (ev_ast m47 38 0 136 ((17 * x45) + x46) x50).bind (fun m51 => (lp_X10_store_109 i43 x44 x45 f (x46 + 1) m51 kx))) else (kx m47)) else (kx m47))
def jn_X10_store_107 (m42 : ev_m) (i39 : Nat) (x40 : Int32) (x41 : Int32) : Option (ev_m) :=
  (lp_X10_store_109 i39 x40 x41 4000 0 m42 (fun m52 => (some (m52))))
def jn_X10_store_71 (m28 : ev_m) (i25 : Nat) (x26 : Int32) (x27 : Int32) : Option (ev_m) :=
  (lp_X10_store_73 i25 x26 x27 4000 0 m28 (fun m38 => (jn_X10_store_107 m38 i25 x26 x27)))
def jn_X10_store_35 (m14 : ev_m) (i11 : Nat) (x12 : Int32) (x13 : Int32) : Option (ev_m) :=
  (lp_X10_store_37 i11 x12 x13 4000 0 m14 (fun m24 => (jn_X10_store_71 m24 i11 x12 x13)))
def f_X10_store (mF : ev_m) (i0 : Nat) (x1_ : Int32) (x2_ : Int32) : Option (ev_m) :=
  (lp_X10_store_2 i0 x1_ x2_ 4000 0 mF (fun m10 => (jn_X10_store_35 m10 i0 x1_ x2_)))
def jn_X10_text_103 (m21 : ev_m) (i17 : Nat) (x18 : Int32) (x19 : Int32) (x20 : Int32) : Option (Int32 × ev_m) :=
  (ev_ald (m21.1 34 0) 16 x18).bind (fun x22 => ev_let (if x19 = ((-1)) then 1 else 0 : Int32) (fun x24 => (ev_ast m21 34 0 16 x18 (x22 + x24)).bind (fun m25 => (f_X10_store m25 i17 x18 x20).bind (fun m26 => (some ((x20, m26)))))))
def jn_X10_text_78 (m13 : ev_m) (i10 : Nat) (x11 : Int32) (x12 : Int32) : Option (Int32 × ev_m) :=
  (f_X10_readText m13 i10 x11).bind (fun p14 => (if p14.1 = true then (if x12 = ((-1)) then (ev_ald (p14.2.1 34 0) 16 x11).bind (fun x27 => (jn_X10_text_103 (p14.2) i10 x11 x12 x27)) else (jn_X10_text_103 (p14.2) i10 x11 x12 x12)) else (some (((-1), p14.2)))))
def f_X10_text (mF : ev_m) (i0 : Nat) (x1_ : Int32) (x2_ : Int32) : Option (Int32 × ev_m) :=
  ev_let (ev_pim mF 10 i0 0 0) (fun m1 => ev_let (ev_pim m1 10 i0 11 (m1.1 31 0 0)) (fun m2 => ev_let (ev_pim m2 31 0 0 0) (fun m3 => ev_let (ev_pim m3 32 0 0 0) (fun m4 => ev_let (ev_pim m4 33 0 0 ((-1))) (fun m5 => (if (s_X10_in m5 x1_ 0 3) = true then (if x2_ = ((-1)) then (ev_ald (m5.1 34 0) 16 x1_).bind (fun x28 => (if x28 = (s_X10_mostOf m5 x1_) then (some (((-2), m5))) else (jn_X10_text_78 m5 i0 x1_ x2_))) else (f_X10_is m5 i0 x1_ x2_).bind (fun x8 => (if x8 = true then (jn_X10_text_78 m5 i0 x1_ x2_) else (some (((-2), m5)))))) else (some (((-2), m5)))))))))
def s_X10_fault (mF : ev_m) (i0 : Nat) (x1_ : Int32) : Int32 × ev_m :=
  ev_let (ev_pim mF 10 i0 0 0) (fun m1 => (if x1_ = 0 then (m1.1 32 0 0, m1) else (if x1_ = 1 then (m1.1 33 0 0, m1) else ((-1), m1))))
def f_X10_ship (mF : ev_m) (i0 : Nat) (x1_ : Int32) (x2_ : Int32) : Option (Int32 × ev_m) :=
  ev_let (ev_pim mF 10 i0 0 0) (fun m1 => (f_X10_is m1 i0 0 x1_).bind (fun x2 => (if x2 = true then (if (s_X10_in m1 x2_ 0 10) = true then (ev_ald (m1.1 35 0) 184 ((23 * x1_) + x2_)).bind (fun x8 => (some ((x8, m1)))) else (ev_ald (m1.1 35 0) 184 ((23 * x1_) + 10)).bind (fun x5 => (if (s_X10_in m1 x2_ 20 (19 + x5)) = true then (ev_ald (m1.1 35 0) 184 (((((23 * x1_) + 10) + 1) + x2_) - 20)).bind (fun x7 => (some ((x7, m1)))) else (some (((-100000), m1)))))) else (some (((-100000), m1))))))
def f_X10_hand (mF : ev_m) (i0 : Nat) (x1_ : Int32) (x2_ : Int32) : Option (Int32 × ev_m) :=
  ev_let (ev_pim mF 10 i0 0 0) (fun m1 => (f_X10_is m1 i0 1 x1_).bind (fun x2 => (if x2 = true then (ev_ald (m1.1 36 0) 288 ((18 * x1_) + 9)).bind (fun x4 => (if (s_X10_in m1 x2_ 0 9) = true then (ev_ald (m1.1 36 0) 288 ((18 * x1_) + x2_)).bind (fun x10 => (some ((x10, m1)))) else (if (s_X10_in m1 x2_ 10 (9 + x4)) = true then (ev_ald (m1.1 36 0) 288 ((((18 * x1_) + 9) + 1) + (2 * (x2_ - 10)))).bind (fun x9 => (some ((x9, m1)))) else (if (s_X10_in m1 x2_ 20 (19 + x4)) = true then (ev_ald (m1.1 36 0) 288 ((((18 * x1_) + 9) + 2) + (2 * (x2_ - 20)))).bind (fun x8 => (some ((x8, m1)))) else (some (((-1), m1))))))) else (some (((-1), m1))))))
def f_X10_paper (mF : ev_m) (i0 : Nat) (x1_ : Int32) (x2_ : Int32) : Option (Int32 × ev_m) :=
  ev_let (ev_pim mF 10 i0 0 0) (fun m1 => (f_X10_is m1 i0 2 x1_).bind (fun x2 => (if x2 = true then (if x2_ = ((-1)) then (ev_ald (m1.1 37 0) 488 (61 * x1_)).bind (fun x8 => (some ((x8, m1)))) else (ev_ald (m1.1 37 0) 488 (61 * x1_)).bind (fun x5 => (if (s_X10_in m1 x2_ 0 (x5 - 1)) = true then (ev_ald (m1.1 37 0) 488 (((61 * x1_) + 1) + x2_)).bind (fun x7 => (some ((x7, m1)))) else (some (((-100000), m1)))))) else (some (((-100000), m1))))))
def f_X10_watch (mF : ev_m) (i0 : Nat) (x1_ : Int32) (x2_ : Int32) (x3_ : Int32) : Option (Int32 × ev_m) :=
  ev_let (ev_pim mF 10 i0 0 0) (fun m1 => (f_X10_is m1 i0 3 x1_).bind (fun x2 => (if x2 = true then (if x2_ = ((-1)) then (if x3_ = 0 then (ev_ald (m1.1 38 0) 136 (17 * x1_)).bind (fun x10 => (some ((x10, m1)))) else (some (((-1), m1)))) else (ev_ald (m1.1 38 0) 136 (17 * x1_)).bind (fun x5 => (if (s_X10_in m1 x2_ 0 (x5 - 1)) = true then (if (s_X10_in m1 x3_ 0 1) = true then (ev_ald (m1.1 38 0) 136 ((((17 * x1_) + 1) + (2 * x2_)) + x3_)).bind (fun x8 => (some ((x8, m1)))) else (some (((-1), m1)))) else (some (((-1), m1)))))) else (some (((-1), m1))))))
def lp_X10_layShip_2 (i1 : Nat) (x2 : Int32) : Nat → Int32 → ev_m → (ev_m → Option (ev_m)) → Option (ev_m)
  | 0, _, _, _ => none
  | f + 1, x3, m4, kx =>
  (if x3 < 23 then (ev_ald (m4.1 35 0) 184 ((23 * x2) + x3)).bind (fun x6 => (ev_ast m4 40 0 23 x3 x6).bind (fun m7 => (lp_X10_layShip_2 i1 x2 f (x3 + 1) m7 kx))) else (kx m4))
def f_X10_layShip (mF : ev_m) (i0 : Nat) (x1_ : Int32) : Option (ev_m) :=
  (lp_X10_layShip_2 i0 x1_ 4000 0 mF (fun m8 => (some (m8))))
def lp_X10_layHand_2 (i1 : Nat) (x2 : Int32) (x3 : Int32) : Nat → Int32 → ev_m → (ev_m → Option (ev_m)) → Option (ev_m)
  | 0, _, _, _ => none
  | f + 1, x4, m5, kx =>
  (if x4 < 18 then (ev_ald (m5.1 36 0) 288 ((18 * x3) + x4)).bind (fun x7 => (ev_ast m5 41 0 36 ((18 * x2) + x4) x7).bind (fun m8 => (lp_X10_layHand_2 i1 x2 x3 f (x4 + 1) m8 kx))) else (kx m5))
def f_X10_layHand (mF : ev_m) (i0 : Nat) (x1_ : Int32) (x2_ : Int32) : Option (ev_m) :=
  (lp_X10_layHand_2 i0 x1_ x2_ 4000 0 mF (fun m9 => (some (m9))))
def f_X10_of (mF : ev_m) (i0 : Nat) (x1_ : Int32) (x2_ : Int32) : Option (Int32) :=
  (ev_ald (mF.1 41 0) 36 ((18 * x1_) + x2_)).bind (fun x1 => (some (x1)))
def f_X10_draw (mF : ev_m) (i0 : Nat) (x1_ : Int32) : Option (Int32 × ev_m) :=
  ev_let (ev_pim mF 10 i0 26 (((mF.1 10 i0 26) * 1103515245) + 12345)) (fun m1 => (ev_rm (((m1.1 10 i0 26).toUInt32 >>> ((16 : Int32).toUInt32 &&& Int32.toUInt32 31)).toInt32) x1_).bind (fun x2 => (some ((x2, m1)))))
def s_X10_signOf (mF : ev_m) (x0_ : Int32) : Int32 :=
  (if 0 < x0_ then 1 else (if x0_ < 0 then (-1) else 0))
def s_X10_begin (mF : ev_m) (i0 : Nat) (x1_ : Int32) : ev_m :=
  ev_let (ev_pim mF 10 i0 26 x1_) (fun m1 => ev_let (ev_pim m1 10 i0 32 0) (fun m2 => ev_let (ev_pim m2 45 0 0 (m2.1 40 0 8)) (fun m3 => ev_let (ev_pim m3 46 0 0 (m3.1 40 0 9)) (fun m4 => ev_let (ev_pim m4 47 0 0 0) (fun m5 => ev_let (ev_pim m5 48 0 0 0) (fun m6 => ev_let (ev_plm m6 10 i0 33 0) (fun m7 => ev_let (ev_pim m7 10 i0 34 0) (fun m8 => ev_let (ev_plm m8 10 i0 35 0) (fun m9 => ev_let (ev_pim m9 10 i0 36 0) (fun m10 => ev_let (ev_plm m10 10 i0 37 0) (fun m11 => ev_let (ev_pim m11 10 i0 38 0) (fun m12 => ev_let (ev_pim m12 49 0 0 0) (fun m13 => ev_let (ev_pim m13 10 i0 39 (s_X10_signOf m13 (m13.1 40 0 8))) (fun m14 => ev_let (ev_pim m14 10 i0 40 0) (fun m15 => ev_let (ev_pim m15 10 i0 41 0) (fun m16 => ev_let (ev_pim m16 10 i0 42 0) (fun m17 => m17)))))))))))))))))
def f_X10_takes (mF : ev_m) (i0 : Nat) (x1_ : Int32) : Option (ev_m) :=
  (ev_ast mF 42 0 2 x1_ 0).bind (fun m1 => (ev_ast m1 43 0 2 x1_ 0).bind (fun m2 => (ev_ast m2 44 0 2 x1_ (m2.1 10 i0 32)).bind (fun m3 => (some (m3)))))
def lp_X10_isStar_2 (mF : ev_m) (i1 : Nat) (x2 : Int32) (x3 : Int32) : Nat → Int32 → (Unit → Option (Bool)) → Option (Bool)
  | 0, _, _ => none
  | f + 1, x4, kx =>
  (f_X10_of mF i1 x2 9).bind (fun x5 => (if x4 < x5 then (f_X10_of mF i1 x2 (10 + (2 * x4))).bind (fun x7 => (f_X10_of mF i1 x2 (11 + (2 * x4))).bind (fun x8 => (if (s_X10_in mF x3 x7 x8) = true then (some (true)) else (lp_X10_isStar_2 mF i1 x2 x3 f (x4 + 1) kx)))) else (kx ())))
def f_X10_isStar (mF : ev_m) (i0 : Nat) (x1_ : Int32) (x2_ : Int32) : Option (Bool) :=
  (lp_X10_isStar_2 mF i0 x1_ x2_ 4000 0 (fun (_ : Unit) => (some (false))))
def jn_X10_sees_40 (mF : ev_m) (i6 : Nat) (x7 : Int32) (x8 : Int32) (x9 : Int32) : Option (Int32) :=
  (f_X10_isStar mF i6 x7 x8).bind (fun x10 => ev_let (if x10 = true then 0 else ((mF.1 40 0 2) + x9) : Int32) (fun x12 => ev_let (if (mF.1 10 i6 32) < x12 then 0 else ((mF.1 10 i6 32) - x12) : Int32) (fun x14 => (ev_ald (mF.1 45 0) 401 x14).bind (fun x15 => (f_X10_of mF i6 x7 4).bind (fun x16 => (ev_rm x15 x16).bind (fun x17 => (some (x15 - x17))))))))
def f_X10_sees (mF : ev_m) (i0 : Nat) (x1_ : Int32) (x2_ : Int32) : Option (Int32) :=
  (f_X10_of mF i0 x1_ 6).bind (fun x1 => (if x1 = 0 then (jn_X10_sees_40 mF i0 x1_ x2_ 0) else (f_X10_of mF i0 x1_ 6).bind (fun x3 => (ev_dv x2_ x3).bind (fun x4 => (if x4 < 5 then (f_X10_of mF i0 x1_ 6).bind (fun x18 => (ev_dv x2_ x18).bind (fun x19 => (jn_X10_sees_40 mF i0 x1_ x2_ x19))) else (jn_X10_sees_40 mF i0 x1_ x2_ 5))))))
def jn_X10_wants_38 (m11 : ev_m) (i6 : Nat) (x7 : Int32) (x8 : Int32) (x9 : Int32) (x10 : Int32) : Option (Int32 × ev_m) :=
  (ev_ast m11 42 0 2 x7 x9).bind (fun m12 => (ev_ald (m12.1 43 0) 2 x7).bind (fun x13 => (ev_ast m12 43 0 2 x7 (s_X10_within m12 (x13 + x9) 9999)).bind (fun m14 => (f_X10_of m14 i6 x7 0).bind (fun x15 => (f_X10_of m14 i6 x7 1).bind (fun x16 => (f_X10_of m14 i6 x7 2).bind (fun x17 => (ev_ald (m14.1 43 0) 2 x7).bind (fun x18 => ev_let (s_X10_within m14 (((((-x15) * x9) - (x16 * x10)) - ((x17 * x18) / 100)) / 100) (m14.1 40 0 3) : Int32) (fun x19 => (f_X10_of m14 i6 x7 3).bind (fun x20 => ev_let (if x20 < (s_X10_plain m14 x9) then x19 else 0 : Int32) (fun x22 => (f_X10_of m14 i6 x7 8).bind (fun x23 => ev_let (if x23 = 1 then (if ((s_X10_signOf m14 x10) * (s_X10_signOf m14 x9)) < 0 then 0 else x22) else x22 : Int32) (fun x26 => (f_X10_of m14 i6 x7 5).bind (fun x27 => ev_let (if x27 < x8 then x26 else (-x26) : Int32) (fun x29 => (f_X10_of m14 i6 x7 7).bind (fun x30 => (if 0 < x30 then (f_X10_draw m14 i6 100).bind (fun p32 => (f_X10_of p32.2 i6 x7 7).bind (fun x33 => (if p32.1 < x33 then (ev_ald (p32.2.1 47 0) 401 (p32.2.1 10 i6 32)).bind (fun x35 => (some ((x35, p32.2)))) else (some ((x29, p32.2)))))) else (some ((x29, m14)))))))))))))))))))
def f_X10_wants (mF : ev_m) (i0 : Nat) (x1_ : Int32) : Option (Int32 × ev_m) :=
  (ev_ald (mF.1 44 0) 2 x1_).bind (fun x1 => ev_let (((mF.1 10 i0 32) + 1) - x1 : Int32) (fun x2 => (f_X10_sees mF i0 x1_ x2).bind (fun x3 => (if x2 = 1 then (jn_X10_wants_38 mF i0 x1_ x2 x3 0) else (ev_ald (mF.1 42 0) 2 x1_).bind (fun x5 => (jn_X10_wants_38 mF i0 x1_ x2 x3 (x3 - x5)))))))
def jn_X10_tally_159 (m23 : ev_m) (x21 : Int32) (x22 : Int32) : Option (ev_m) :=
  (ev_ast m23 49 0 401 x22 x21).bind (fun m24 => (some (m24)))
def jn_X10_tally_109 (m14 : ev_m) (i11 : Nat) (x12 : Int32) (x13 : Int32) : Option (ev_m) :=
  ev_let (if x13 = 0 then (m14.1 10 i11 39) else x13 : Int32) (fun x16 => ev_let (ev_pim m14 10 i11 39 x16) (fun m17 => (ev_ald (m17.1 49 0) 401 (m17.1 10 i11 38)).bind (fun x18 => (if x18 < x12 then (jn_X10_tally_159 m17 x12 (m17.1 10 i11 38)) else (ev_ald (m17.1 49 0) 401 (m17.1 10 i11 38)).bind (fun x20 => (jn_X10_tally_159 m17 x20 (m17.1 10 i11 38)))))))
def f_X10_tally (mF : ev_m) (i0 : Nat) : Option (ev_m) :=
  (ev_ald (mF.1 45 0) 401 (mF.1 10 i0 32)).bind (fun x1 => ev_let (s_X10_plain mF x1 : Int32) (fun x2 => ev_let (ev_plm mF 10 i0 33 ((mF.2.1 10 i0 33) + x2.toInt64)) (fun m3 => ev_let (ev_plm m3 10 i0 35 ((m3.2.1 10 i0 35) + ((x1.toInt64 * x1.toInt64) / 1000))) (fun m4 => ev_let (if (m4.1 10 i0 36) < x2 then x2 else (m4.1 10 i0 36) : Int32) (fun x6 => ev_let (ev_pim m4 10 i0 36 x6) (fun m7 => ev_let (ev_plm m7 10 i0 37 ((m7.2.1 10 i0 37) + x1.toInt64)) (fun m8 => ev_let (s_X10_signOf m8 x1 : Int32) (fun x9 => (if (x9 * (m8.1 10 i0 39)) < 0 then ev_let (ev_pim m8 10 i0 38 ((m8.1 10 i0 38) + 1)) (fun m25 => (ev_ast m25 49 0 401 (m25.1 10 i0 38) 0).bind (fun m26 => (jn_X10_tally_109 m26 i0 x2 x9))) else (jn_X10_tally_109 m8 i0 x2 x9))))))))))
def f_X10_pass (mF : ev_m) (i0 : Nat) (x1_ : Int32) (x2_ : Int32) : Option (ev_m) :=
  (ev_ald (mF.1 47 0) 401 (mF.1 10 i0 32)).bind (fun x1 => (ev_ald (mF.1 47 0) 401 (mF.1 10 i0 32)).bind (fun x2 => ev_let (x1 + (s_X10_within mF (x1_ - x2) (mF.1 40 0 4)) : Int32) (fun x3 => (ev_ald (mF.1 45 0) 401 (mF.1 10 i0 32)).bind (fun x4 => (ev_ald (mF.1 46 0) 401 (mF.1 10 i0 32)).bind (fun x5 => (ev_rm (mF.1 10 i0 32) (mF.1 40 0 10)).bind (fun x6 => (ev_ald (mF.1 40 0) 23 (11 + x6)).bind (fun x7 => (ev_ald (mF.1 47 0) 401 (mF.1 10 i0 32)).bind (fun x8 => ev_let (s_X10_plain mF (x3 - x8) : Int32) (fun x9 => ev_let (ev_pim mF 10 i0 32 ((mF.1 10 i0 32) + 1)) (fun m10 => (ev_ast m10 47 0 401 (m10.1 10 i0 32) x3).bind (fun m11 => (ev_ast m11 48 0 401 (m11.1 10 i0 32) x2_).bind (fun m12 => (ev_ast m12 46 0 401 (m12.1 10 i0 32) (s_X10_within m12 (((((x5 - ((x5 * (m12.1 40 0 1)) / 100)) + ((m12.1 40 0 0) * x3)) + (m12.1 40 0 6)) + x7) - (((m12.1 40 0 7) * x4) / 100)) 9999)).bind (fun m13 => (ev_ald (m13.1 46 0) 401 (m13.1 10 i0 32)).bind (fun x14 => (ev_ast m13 45 0 401 (m13.1 10 i0 32) (s_X10_within m13 (x4 + x14) 18000)).bind (fun m15 => ev_let (ev_pim m15 10 i0 34 ((m15.1 10 i0 34) + x9)) (fun m16 => ev_let (if 0 < x9 then 1 else 0 : Int32) (fun x18 => ev_let (ev_pim m16 10 i0 40 ((m16.1 10 i0 40) + x18)) (fun m19 => ev_let (if 0 < x9 then 0 else ((m19.1 10 i0 41) + 1) : Int32) (fun x21 => ev_let (ev_pim m19 10 i0 41 x21) (fun m22 => ev_let (if (m22.1 10 i0 42) < (m22.1 10 i0 41) then (m22.1 10 i0 41) else (m22.1 10 i0 42) : Int32) (fun x24 => ev_let (ev_pim m22 10 i0 42 x24) (fun m25 => (f_X10_tally m25 i0).bind (fun m26 => (some (m26)))))))))))))))))))))))))
def lp_X10_steer_7 (i2 : Nat) (x3 : Int32) (x4 : Int32) : Nat → Int32 → ev_m → (ev_m → Option (ev_m)) → Option (ev_m)
  | 0, _, _, _ => none
  | f + 1, x5, m6, kx =>
  (if x5 < x4 then (f_X10_wants m6 i2 x3).bind (fun p8 => ev_let (p8.1 : Int32) (fun x9 => (ev_ald (p8.2.1 42 0) 2 x3).bind (fun x10 => (f_X10_pass p8.2 i2 x9 x10).bind (fun m11 => (lp_X10_steer_7 i2 x3 x4 f (x5 + 1) m11 kx))))) else (kx m6))
def f_X10_steer (mF : ev_m) (i0 : Nat) (x1_ : Int32) (x2_ : Int32) : Option (ev_m) :=
  (f_X10_takes mF i0 x1_).bind (fun m1 => (lp_X10_steer_7 i0 x1_ x2_ 4000 0 m1 (fun m12 => (some (m12)))))
def lp_X10_runBy_19 (i3 : Nat) (x4 : Int32) : Nat → Int32 → ev_m → (ev_m → Option (ev_m)) → Option (ev_m)
  | 0, _, _, _ => none
  | f + 1, x5, m6, kx =>
  (if x5 < x4 then (f_X10_pass m6 i3 0 0).bind (fun m8 => (lp_X10_runBy_19 i3 x4 f (x5 + 1) m8 kx)) else (kx m6))
def f_X10_runBy (mF : ev_m) (i0 : Nat) (x1_ : Int32) (x2_ : Int32) (x3_ : Int32) : Option (ev_m) :=
  ev_let (s_X10_begin mF i0 x2_) (fun m1 => (if x1_ = 0 then (lp_X10_runBy_19 i0 x3_ 4000 0 m1 (fun m9 => (some (m9)))) else (f_X10_steer m1 i0 0 x3_).bind (fun m10 => (some (m10)))))
def s_X10_cost (mF : ev_m) (i0 : Nat) : Int64 :=
  (mF.2.1 10 i0 33) + (((mF.1 40 0 5).toInt64) * ((mF.1 10 i0 34).toInt64))
def f_X10_costBy (mF : ev_m) (i0 : Nat) (x1_ : Int32) : Option (Int64 × ev_m) :=
  (f_X10_runBy mF i0 1 0 x1_).bind (fun m1 => (some ((s_X10_cost m1 i0, m1))))
def f_X10_grows (mF : ev_m) (i0 : Nat) : Option (Bool) :=
  (if (mF.1 10 i0 38) < 2 then (some (false)) else (ev_ald (mF.1 49 0) 401 ((mF.1 10 i0 38) - 1)).bind (fun x2 => (ev_ald (mF.1 49 0) 401 ((mF.1 10 i0 38) - 2)).bind (fun x3 => (if x3 < x2 then (some (true)) else (some (false))))))
def jn_X10_lay_29 (m8 : ev_m) (i5 : Nat) (x6 : Int32) (x7 : Int32) : Option (Bool × ev_m) :=
  (f_X10_layShip m8 i5 x6).bind (fun m9 => (if x7 = ((-1)) then (some ((true, m9))) else (f_X10_layHand m9 i5 0 x7).bind (fun m11 => (some ((true, m11))))))
def f_X10_lay (mF : ev_m) (i0 : Nat) (x1_ : Int32) (x2_ : Int32) (x3_ : Int32) : Option (Bool × ev_m) :=
  (f_X10_is mF i0 0 x1_).bind (fun x1 => (if x1 = true then (f_X10_is mF i0 1 x2_).bind (fun x3 => (if x3 = true then (jn_X10_lay_29 mF i0 x1_ x2_) else (if x3_ = 0 then (some ((false, mF))) else (if x2_ = ((-1)) then (jn_X10_lay_29 mF i0 x1_ x2_) else (some ((false, mF))))))) else (some ((false, mF)))))
def f_X10_second (mF : ev_m) (i0 : Nat) (x1_ : Int32) (x2_ : Int32) (x3_ : Int32) (x4_ : Int32) (x5_ : Int32) : Option (Int32 × ev_m) :=
  ev_let (ev_pim mF 10 i0 0 0) (fun m1 => (f_X10_lay m1 i0 x1_ x2_ 1).bind (fun p2 => (if p2.1 = true then (if (s_X10_in p2.2 x4_ 0 400) = true then (if (s_X10_in p2.2 x5_ 0 3) = true then ev_let (if x2_ = ((-1)) then 0 else 1 : Int32) (fun x7 => (f_X10_runBy p2.2 i0 x7 x3_ x4_).bind (fun m8 => (if x5_ = 0 then (ev_ald (m8.1 45 0) 401 x4_).bind (fun x15 => (some ((x15, m8)))) else (if x5_ = 1 then (ev_ald (m8.1 46 0) 401 x4_).bind (fun x14 => (some ((x14, m8)))) else (if x5_ = 2 then (ev_ald (m8.1 47 0) 401 x4_).bind (fun x13 => (some ((x13, m8)))) else (ev_ald (m8.1 48 0) 401 x4_).bind (fun x12 => (some ((x12, m8))))))))) else (some (((-100000), p2.2)))) else (some (((-100000), p2.2)))) else (some (((-100000), p2.2))))))
def f_X10_run (mF : ev_m) (i0 : Nat) (x1_ : Int32) (x2_ : Int32) (x3_ : Int32) (x4_ : Int32) (x5_ : Int32) : Option (Int64 × ev_m) :=
  ev_let (ev_pim mF 10 i0 0 0) (fun m1 => (f_X10_lay m1 i0 x1_ x2_ 1).bind (fun p2 => (if p2.1 = true then (if (s_X10_in p2.2 x4_ 1 400) = true then (if (s_X10_in p2.2 x5_ 0 9) = true then ev_let (if x2_ = ((-1)) then 0 else 1 : Int32) (fun x7 => (f_X10_runBy p2.2 i0 x7 x3_ x4_).bind (fun m8 => (if x5_ = 0 then (some ((s_X10_cost m8 i0, m8))) else if x5_ = 1 then (some ((m8.2.1 10 i0 33, m8))) else if x5_ = 2 then (some (((m8.1 10 i0 34).toInt64, m8))) else if x5_ = 3 then (some ((m8.2.1 10 i0 35, m8))) else if x5_ = 4 then (some (((m8.1 10 i0 36).toInt64, m8))) else if x5_ = 5 then (some ((m8.2.1 10 i0 37, m8))) else if x5_ = 6 then (some (((m8.1 10 i0 38).toInt64, m8))) else if x5_ = 7 then (f_X10_grows m8 i0).bind (fun x18 => (if x18 = true then (some ((1, m8))) else (some ((0, m8))))) else if x5_ = 8 then (some (((m8.1 10 i0 40).toInt64, m8))) else (some (((m8.1 10 i0 42).toInt64, m8)))))) else (some (((-9223372036854775808), p2.2)))) else (some (((-9223372036854775808), p2.2)))) else (some (((-9223372036854775808), p2.2))))))
def f_X10_peak (mF : ev_m) (i0 : Nat) (x1_ : Int32) (x2_ : Int32) (x3_ : Int32) (x4_ : Int32) (x5_ : Int32) : Option (Int32 × ev_m) :=
  ev_let (ev_pim mF 10 i0 0 0) (fun m1 => (f_X10_lay m1 i0 x1_ x2_ 1).bind (fun p2 => (if p2.1 = true then (if (s_X10_in p2.2 x4_ 1 400) = true then ev_let (if x2_ = ((-1)) then 0 else 1 : Int32) (fun x6 => (f_X10_runBy p2.2 i0 x6 x3_ x4_).bind (fun m7 => (if (s_X10_in m7 x5_ 0 (m7.1 10 i0 38)) = true then (ev_ald (m7.1 49 0) 401 x5_).bind (fun x9 => (some ((x9, m7)))) else (some (((-1), m7)))))) else (some (((-1), p2.2)))) else (some (((-1), p2.2))))))
def f_X10_layFor (mF : ev_m) (i0 : Nat) (x1_ : Int32) (x2_ : Int32) (x3_ : Int32) : Option (Bool × ev_m) :=
  (if (s_X10_in mF x3_ 1 200) = true then (f_X10_lay mF i0 x1_ x2_ 0).bind (fun p2 => (if p2.1 = true then (some ((true, p2.2))) else (some ((false, p2.2))))) else (some ((false, mF))))
def f_X10_put (mF : ev_m) (i0 : Nat) (x1_ : Int32) (x2_ : Int32) : Option (ev_m) :=
  (ev_ast mF 41 0 36 x1_ x2_).bind (fun m1 => (some (m1)))
def lp_X10_found_60 (i7 : Nat) (x8 : Int32) (x9 : Int32) (x10 : Int32) (x11 : Int32) : Nat → Int32 → Int64 → Int32 → ev_m → (Int32 → Int64 → ev_m → Option (Int64 × ev_m)) → Option (Int64 × ev_m)
  | 0, _, _, _, _, _ => none
  | f + 1, x12, y13, x14, m15, kx =>
  (if x14 < ((x9 + 1) * (x10 + 1)) then (ev_dv x14 (x10 + 1)).bind (fun x17 => (f_X10_put m15 i7 0 x17).bind (fun m18 => (ev_rm x14 (x10 + 1)).bind (fun x19 => (f_X10_put m18 i7 1 x19).bind (fun m20 => (f_X10_costBy m20 i7 x8).bind (fun p21 => ev_let (p21.1 : Int64) (fun y22 => ev_let (if x12 = ((-1)) then x14 else (if y22 < y13 then x14 else x12) : Int32) (fun x25 => ev_let (if x12 = ((-1)) then y22 else (if y22 < y13 then y22 else y13) : Int64) (fun y26 => (lp_X10_found_60 i7 x8 x9 x10 x11 f x25 y26 (x14 + 1) (p21.2) kx))))))))) else (kx x12 y13 m15))
def f_X10_found (mF : ev_m) (i0 : Nat) (x1_ : Int32) (x2_ : Int32) (x3_ : Int32) (x4_ : Int32) (x5_ : Int32) (x6_ : Int32) : Option (Int64 × ev_m) :=
  ev_let (ev_pim mF 10 i0 0 0) (fun m1 => (f_X10_layFor m1 i0 x1_ x2_ x3_).bind (fun p2 => (if p2.1 = true then (if (s_X10_in p2.2 x4_ 0 20) = true then (if (s_X10_in p2.2 x5_ 0 20) = true then (if (s_X10_in p2.2 x6_ 0 2) = true then (lp_X10_found_60 i0 x3_ x4_ x5_ x6_ 4000 ((-1)) 0 0 (p2.2) (fun x27 y28 m29 => (if x6_ = 0 then (ev_dv x27 (x5_ + 1)).bind (fun x33 => (some ((x33.toInt64, m29)))) else (if x6_ = 1 then (ev_rm x27 (x5_ + 1)).bind (fun x32 => (some ((x32.toInt64, m29)))) else (some ((y28, m29))))))) else (some (((-1), p2.2)))) else (some (((-1), p2.2)))) else (some (((-1), p2.2)))) else (some (((-1), p2.2))))))
def lp_X10_iron_28 (i4 : Nat) (x5 : Int32) (x6 : Int32) : Nat → Int32 → Int64 → Int32 → ev_m → (Int32 → Int64 → ev_m → Option (Int64 × ev_m)) → Option (Int64 × ev_m)
  | 0, _, _, _, _, _ => none
  | f + 1, x7, y8, x9, m10, kx =>
  (if 20 < x9 then (kx x7 y8 m10) else (f_X10_put m10 i4 2 x9).bind (fun m12 => (f_X10_costBy m12 i4 x5).bind (fun p13 => ev_let (p13.1 : Int64) (fun y14 => ev_let (if x7 = ((-1)) then x9 else (if y14 < y8 then x9 else x7) : Int32) (fun x17 => ev_let (if x7 = ((-1)) then y14 else (if y14 < y8 then y14 else y8) : Int64) (fun y18 => (lp_X10_iron_28 i4 x5 x6 f x17 y18 (x9 + 1) (p13.2) kx)))))))
def f_X10_iron (mF : ev_m) (i0 : Nat) (x1_ : Int32) (x2_ : Int32) (x3_ : Int32) (x4_ : Int32) : Option (Int64 × ev_m) :=
  ev_let (ev_pim mF 10 i0 0 0) (fun m1 => (f_X10_layFor m1 i0 x1_ x2_ x3_).bind (fun p2 => (if p2.1 = true then (lp_X10_iron_28 i0 x3_ x4_ 4000 ((-1)) 0 0 (p2.2) (fun x19 y20 m21 => (if x4_ = 0 then (some ((x19.toInt64, m21))) else (some ((y20, m21)))))) else (some (((-1), p2.2))))))
def lp_X10_line_42 (i6 : Nat) (x7 : Int32) : Nat → Int32 → Int32 → ev_m → (Int32 → ev_m → Option (Int32 × ev_m)) → Option (Int32 × ev_m)
  | 0, _, _, _, _ => none
  | f + 1, x8, x9, m10, kx =>
  (if 99 < x9 then (kx x8 m10) else (f_X10_put m10 i6 0 x9).bind (fun m12 => (f_X10_runBy m12 i6 1 0 x7).bind (fun m13 => (f_X10_grows m13 i6).bind (fun x14 => ev_let (if x14 = true then x8 else x9 : Int32) (fun x16 => (lp_X10_line_42 i6 x7 f x16 (x9 + 1) m13 kx))))))
def f_X10_line (mF : ev_m) (i0 : Nat) (x1_ : Int32) (x2_ : Int32) (x3_ : Int32) (x4_ : Int32) : Option (Int32 × ev_m) :=
  ev_let (ev_pim mF 10 i0 0 0) (fun m1 => (f_X10_layFor m1 i0 x1_ x2_ x3_).bind (fun p2 => (if p2.1 = true then (if (s_X10_in p2.2 x4_ 0 9) = true then ev_let (ev_pim p2.2 40 0 2 x4_) (fun m5 => (lp_X10_line_42 i0 x3_ 4000 ((-1)) 0 m5 (fun x17 m18 => (some ((x17, m18)))))) else (some (((-1), p2.2)))) else (some (((-1), p2.2))))))
def lp_X10_alone_35 (i6 : Nat) (x7 : Int32) (x8 : Int32) : Nat → Int32 → ev_m → (ev_m → Option (Int32 × ev_m)) → Option (Int32 × ev_m)
  | 0, _, _, _ => none
  | f + 1, x9, m10, kx =>
  (if 99 < x9 then (kx m10) else ev_let (ev_pim m10 40 0 7 x9) (fun m12 => (f_X10_runBy m12 i6 0 0 x7).bind (fun m13 => (if x8 < (m13.1 10 i6 36) then (lp_X10_alone_35 i6 x7 x8 f (x9 + 1) m13 kx) else (some ((x9, m13)))))))
def f_X10_alone (mF : ev_m) (i0 : Nat) (x1_ : Int32) (x2_ : Int32) (x3_ : Int32) : Option (Int32 × ev_m) :=
  ev_let (ev_pim mF 10 i0 0 0) (fun m1 => (if (s_X10_in m1 x2_ 1 200) = true then (if x3_ < 0 then (some (((-1), m1))) else (f_X10_lay m1 i0 x1_ ((-1)) 1).bind (fun p4 => (if p4.1 = true then (lp_X10_alone_35 i0 x2_ x3_ 4000 0 (p4.2) (fun m15 => (some (((-1), m15))))) else (some (((-1), p4.2)))))) else (some (((-1), m1)))))
def lp_X10_hard_38 (i13 : Nat) (x14 : Int32) (x15 : Int32) (x16 : Int32) (x17 : Int32) (x18 : Int32) : Nat → Int32 → ev_m → (ev_m → Option (Int32 × ev_m)) → Option (Int32 × ev_m)
  | 0, _, _, _ => none
  | f + 1, x19, m20, kx =>
  (if x19 < (m20.1 40 0 10) then (ev_ald (m20.1 35 0) 184 ((((23 * x14) + 10) + 1) + x19)).bind (fun x22 => (ev_ast m20 40 0 23 (11 + x19) (x18 * x22)).bind (fun m23 => (lp_X10_hard_38 i13 x14 x15 x16 x17 x18 f (x19 + 1) m23 kx))) else (kx m20))
def lp_X10_hard_28 (i5 : Nat) (x6 : Int32) (x7 : Int32) (x8 : Int32) : Nat → Int32 → Int32 → ev_m → (Int32 → ev_m → Option (Int32 × ev_m)) → Option (Int32 × ev_m)
  | 0, _, _, _, _ => none
  | f + 1, x9, x10, m11, kx =>
  (if 9 < x10 then (kx x9 m11) else (lp_X10_hard_38 i5 x6 x7 x8 x9 x10 4000 0 m11 (fun m24 => (f_X10_runBy m24 i5 1 0 x7).bind (fun m25 => ev_let (if x8 < (m25.1 10 i5 36) then x9 else x10 : Int32) (fun x27 => (lp_X10_hard_28 i5 x6 x7 x8 f x27 (x10 + 1) m25 kx))))))
def f_X10_hard (mF : ev_m) (i0 : Nat) (x1_ : Int32) (x2_ : Int32) (x3_ : Int32) (x4_ : Int32) : Option (Int32 × ev_m) :=
  ev_let (ev_pim mF 10 i0 0 0) (fun m1 => (f_X10_layFor m1 i0 x1_ x2_ x3_).bind (fun p2 => (if p2.1 = true then (if x4_ < 0 then (some (((-1), p2.2))) else (lp_X10_hard_28 i0 x1_ x3_ x4_ 4000 ((-1)) 0 (p2.2) (fun x28 m29 => (some ((x28, m29)))))) else (some (((-1), p2.2))))))
def lp_X10_set_39 (i5 : Nat) (x6 : Int32) (x7 : Int32) : Nat → Int32 → Int64 → Int32 → ev_m → (Int32 → ev_m → Option (Int32 × ev_m)) → Option (Int32 × ev_m)
  | 0, _, _, _, _, _ => none
  | f + 1, x8, y9, x10, m11, kx =>
  (if 50 < x10 then (kx x8 m11) else ev_let (ev_pim m11 40 0 6 (x7 + x10)) (fun m13 => (f_X10_runBy m13 i5 1 0 x6).bind (fun m14 => ev_let (if (m14.2.1 10 i5 37) < 0 then (-(m14.2.1 10 i5 37)) else (m14.2.1 10 i5 37) : Int64) (fun y16 => ev_let (if y9 < 0 then x10 else (if y16 < y9 then x10 else x8) : Int32) (fun x19 => ev_let (if y9 < 0 then y16 else (if y16 < y9 then y16 else y9) : Int64) (fun y20 => (lp_X10_set_39 i5 x6 x7 f x19 y20 (x10 + 1) m14 kx)))))))
def f_X10_set (mF : ev_m) (i0 : Nat) (x1_ : Int32) (x2_ : Int32) (x3_ : Int32) : Option (Int32 × ev_m) :=
  ev_let (ev_pim mF 10 i0 0 0) (fun m1 => (f_X10_layFor m1 i0 x1_ x2_ x3_).bind (fun p2 => (if p2.1 = true then ev_let (p2.2.1 40 0 6 : Int32) (fun x4 => (lp_X10_set_39 i0 x3_ x4 4000 0 ((-1)) ((-50)) (p2.2) (fun x21 m22 => (some ((x21, m22)))))) else (some (((-100000), p2.2))))))
def f_X10_costWith (mF : ev_m) (i0 : Nat) (x1_ : Int32) (x2_ : Int32) (x3_ : Int32) : Option (Int64 × ev_m) :=
  (ev_ald (mF.1 41 0) 36 x1_).bind (fun x1 => (f_X10_put mF i0 x1_ x2_).bind (fun m2 => (f_X10_costBy m2 i0 x3_).bind (fun p3 => ev_let (p3.1 : Int64) (fun y4 => (f_X10_put p3.2 i0 x1_ x1).bind (fun m5 => (some ((y4, m5))))))))
def f_X10_worth (mF : ev_m) (i0 : Nat) (x1_ : Int32) (x2_ : Int32) (x3_ : Int32) (x4_ : Int32) : Option (Int64 × ev_m) :=
  ev_let (ev_pim mF 10 i0 0 0) (fun m1 => (f_X10_layFor m1 i0 x1_ x2_ x3_).bind (fun p2 => (if p2.1 = true then (if (s_X10_in p2.2 x4_ 0 2) = true then (if x4_ = 1 then (f_X10_costWith p2.2 i0 8 1 x3_).bind (fun p10 => (f_X10_costWith p10.2 i0 8 0 x3_).bind (fun p11 => (some ((p10.1 - p11.1, p11.2))))) else ev_let (if x4_ = 0 then 9 else 1 : Int32) (fun x7 => (f_X10_costWith p2.2 i0 x7 0 x3_).bind (fun p8 => (f_X10_costBy p8.2 i0 x3_).bind (fun p9 => (some ((p8.1 - p9.1, p9.2))))))) else (some (((-9223372036854775808), p2.2)))) else (some (((-9223372036854775808), p2.2))))))
def f_X10_night (mF : ev_m) (i0 : Nat) (x1_ : Int32) (x2_ : Int32) (x3_ : Int32) (x4_ : Int32) : Option (Int64 × ev_m) :=
  ev_let (ev_pim mF 10 i0 0 0) (fun m1 => (f_X10_layFor m1 i0 x1_ x2_ x3_).bind (fun p2 => (if p2.1 = true then (if (s_X10_in p2.2 x4_ 0 999) = true then (f_X10_costWith p2.2 i0 5 x4_ x3_).bind (fun p5 => (f_X10_costWith p5.2 i0 5 0 x3_).bind (fun p6 => (some ((p5.1 - p6.1, p6.2))))) else (some (((-9223372036854775808), p2.2)))) else (some (((-9223372036854775808), p2.2))))))
def lp_X10_cloud_28 (i5 : Nat) (x6 : Int32) (x7 : Int32) : Nat → Int32 → Int32 → ev_m → (Int32 → ev_m → Option (Int32 × ev_m)) → Option (Int32 × ev_m)
  | 0, _, _, _, _ => none
  | f + 1, x8, x9, m10, kx =>
  (if x6 < x9 then (kx x8 m10) else ev_let (if 0 < x9 then 1 else 0 : Int32) (fun x13 => (f_X10_put m10 i5 9 x13).bind (fun m14 => (f_X10_put m14 i5 10 1).bind (fun m15 => (f_X10_put m15 i5 11 x9).bind (fun m16 => (f_X10_runBy m16 i5 1 0 x6).bind (fun m17 => ev_let (if x7 < (m17.1 10 i5 36) then x8 else x9 : Int32) (fun x19 => (lp_X10_cloud_28 i5 x6 x7 f x19 (x9 + 1) m17 kx))))))))
def f_X10_cloud (mF : ev_m) (i0 : Nat) (x1_ : Int32) (x2_ : Int32) (x3_ : Int32) (x4_ : Int32) : Option (Int32 × ev_m) :=
  ev_let (ev_pim mF 10 i0 0 0) (fun m1 => (f_X10_layFor m1 i0 x1_ x2_ x3_).bind (fun p2 => (if p2.1 = true then (if x4_ < 0 then (some (((-1), p2.2))) else (lp_X10_cloud_28 i0 x3_ x4_ 4000 ((-1)) 0 (p2.2) (fun x20 m21 => (some ((x20, m21)))))) else (some (((-1), p2.2))))))
def lp_X10_coarse_43 (i7 : Nat) (x8 : Int32) (x9 : Int32) (y10 : Int64) : Nat → Int32 → Int32 → ev_m → (Int32 → ev_m → Option (Int32 × ev_m)) → Option (Int32 × ev_m)
  | 0, _, _, _, _ => none
  | f + 1, x11, x12, m13, kx =>
  (if x9 < x12 then (kx x11 m13) else (f_X10_costWith m13 i7 4 x12 x8).bind (fun p15 => ev_let (if y10 < p15.1 then x11 else x12 : Int32) (fun x17 => (lp_X10_coarse_43 i7 x8 x9 y10 f x17 (x12 + 1) (p15.2) kx))))
def f_X10_coarse (mF : ev_m) (i0 : Nat) (x1_ : Int32) (x2_ : Int32) (x3_ : Int32) (x4_ : Int32) : Option (Int32 × ev_m) :=
  ev_let (ev_pim mF 10 i0 0 0) (fun m1 => (f_X10_layFor m1 i0 x1_ x2_ x3_).bind (fun p2 => (if p2.1 = true then (if (s_X10_in p2.2 x4_ 1 50) = true then (f_X10_costWith p2.2 i0 4 1 x3_).bind (fun p5 => ev_let (p5.1 : Int64) (fun y6 => (lp_X10_coarse_43 i0 x3_ x4_ y6 4000 1 2 (p5.2) (fun x18 m19 => (some ((x18, m19))))))) else (some (((-1), p2.2)))) else (some (((-1), p2.2))))))
def lp_X10_weary_38 (m13 : ev_m) (i6 : Nat) (x7 : Int32) (x8 : Int32) (x9 : Int32) : Nat → Int32 → Int32 → Int32 → (Int32 → Int32 → Option (Int32 × ev_m)) → Option (Int32 × ev_m)
  | 0, _, _, _, _ => none
  | f + 1, x10, x11, x12, kx =>
  (if x7 < x12 then (kx x10 x11) else (ev_ald (m13.1 45 0) 401 x12).bind (fun x15 => ev_let (if x8 < (s_X10_plain m13 x15) then 1 else 0 : Int32) (fun x17 => ev_let (if x17 = 0 then x10 else (if x10 = ((-1)) then x12 else x10) : Int32) (fun x20 => ev_let (if x17 = 0 then x11 else x12 : Int32) (fun x22 => (lp_X10_weary_38 m13 i6 x7 x8 x9 f x20 x22 (x12 + 1) kx))))))
def f_X10_weary (mF : ev_m) (i0 : Nat) (x1_ : Int32) (x2_ : Int32) (x3_ : Int32) (x4_ : Int32) (x5_ : Int32) : Option (Int32 × ev_m) :=
  ev_let (ev_pim mF 10 i0 0 0) (fun m1 => (f_X10_layFor m1 i0 x1_ x2_ x3_).bind (fun p2 => (if p2.1 = true then (if x4_ < 0 then (some (((-1), p2.2))) else (f_X10_runBy p2.2 i0 1 0 x3_).bind (fun m5 => (lp_X10_weary_38 m5 i0 x3_ x4_ x5_ 4000 ((-1)) 0 1 (fun x23 x24 => (if x5_ = 0 then (some ((x23, m5))) else (if x24 = x3_ then (some (((-1), m5))) else (some ((x24, m5))))))))) else (some (((-1), p2.2))))))
def lp_X10_third_18 (i4 : Nat) (x5 : Int32) (x6 : Int32) (x7 : Int32) : Nat → Int32 → Int64 → Int32 → ev_m → (Int32 → ev_m → Option (Int32 × ev_m)) → Option (Int32 × ev_m)
  | 0, _, _, _, _, _ => none
  | f + 1, x8, y9, x10, m11, kx =>
  (if 1 < x10 then (kx x8 m11) else (f_X10_costWith m11 i4 0 (x5 + (x10 * x6)) x7).bind (fun p13 => ev_let (p13.1 : Int64) (fun y14 => ev_let (if y14 < y9 then (x5 + (x10 * x6)) else x8 : Int32) (fun x16 => ev_let (if y14 < y9 then y14 else y9 : Int64) (fun y18 => (lp_X10_third_18 i4 x5 x6 x7 f x16 y18 (x10 + 1) (p13.2) kx))))))
def f_X10_third (mF : ev_m) (i0 : Nat) (x1_ : Int32) (x2_ : Int32) (x3_ : Int32) : Option (Int32 × ev_m) :=
  ev_let (x1_ - x2_ : Int32) (fun x1 => (f_X10_costWith mF i0 0 x1 x3_).bind (fun p2 => ev_let (p2.1 : Int64) (fun y3 => (lp_X10_third_18 i0 x1_ x2_ x3_ 4000 x1 y3 0 (p2.2) (fun x19 m20 => (some ((x19, m20))))))))
def lp_X10_tries_64 (i11 : Nat) (x12 : Int32) (x13 : Int32) : Nat → Int64 → Int32 → ev_m → (Int64 → ev_m → Option (Int64 × ev_m)) → Option (Int64 × ev_m)
  | 0, _, _, _, _ => none
  | f + 1, y14, x15, m16, kx =>
  (if 63 < x15 then (kx y14 m16) else (f_X10_costWith m16 i11 0 x15 x12).bind (fun p18 => ev_let (p18.1 : Int64) (fun y19 => ev_let (if y19 < y14 then y19 else y14 : Int64) (fun y21 => (lp_X10_tries_64 i11 x12 x13 f y21 (x15 + 1) (p18.2) kx)))))
def f_X10_tries (mF : ev_m) (i0 : Nat) (x1_ : Int32) (x2_ : Int32) (x3_ : Int32) (x4_ : Int32) : Option (Int64 × ev_m) :=
  ev_let (ev_pim mF 10 i0 0 0) (fun m1 => (f_X10_layFor m1 i0 x1_ x2_ x3_).bind (fun p2 => (if p2.1 = true then (f_X10_third p2.2 i0 32 16 x3_).bind (fun p4 => (f_X10_third p4.2 i0 p4.1 8 x3_).bind (fun p5 => (f_X10_third p5.2 i0 p5.1 4 x3_).bind (fun p6 => ev_let (p6.1 : Int32) (fun x7 => (if x4_ = 0 then (some ((x7.toInt64, p6.2))) else (f_X10_costWith p6.2 i0 0 0 x3_).bind (fun p9 => ev_let (p9.1 : Int64) (fun y10 => (lp_X10_tries_64 i0 x3_ x7 4000 y10 1 (p9.2) (fun y22 m23 => (f_X10_costWith m23 i0 0 x7 x3_).bind (fun p24 => (some ((p24.1 - y22, p24.2))))))))))))) else (some (((-1), p2.2))))))
def jn_X10_learning_100_39 (m27 : ev_m) (i6 : Nat) (x7 : Int32) (x8 : Int32) (x22 : Int32) (x23 : Int32) (y24 : Int64) (y25 : Int64) (y26 : Int64) (kb : Int32 → Int32 → ev_m → Option (Int32 × ev_m)) (kx : Int32 → ev_m → Option (Int32 × ev_m)) : Option (Int32 × ev_m) :=
  ev_let (if y25 < y24 then (if y26 < y25 then (if y26 < y24 then (x22 + 1) else x22) else (x22 - 1)) else (if y26 < y24 then (x22 + 1) else x22) : Int32) (fun x32 => (kb x32 (x23 + 1) m27))
def jn_X10_learning_76_39 (m20 : ev_m) (i6 : Nat) (x7 : Int32) (x8 : Int32) (x16 : Int32) (x17 : Int32) (y18 : Int64) (y19 : Int64) (kb : Int32 → Int32 → ev_m → Option (Int32 × ev_m)) (kx : Int32 → ev_m → Option (Int32 × ev_m)) : Option (Int32 × ev_m) :=
  (if x16 < 99 then (f_X10_costWith m20 i6 0 (x16 + 1) x7).bind (fun p33 => (jn_X10_learning_100_39 (p33.2) i6 x7 x8 x16 x17 y18 y19 p33.1 (kb) (kx))) else (jn_X10_learning_100_39 m20 i6 x7 x8 x16 x17 y18 y19 y18 (kb) (kx)))
def lp_X10_learning_39 (i6 : Nat) (x7 : Int32) (x8 : Int32) : Nat → Int32 → Int32 → ev_m → (Int32 → ev_m → Option (Int32 × ev_m)) → Option (Int32 × ev_m)
  | 0, _, _, _, _ => none
  | f + 1, x9, x10, m11, kx =>
  (if x10 < x8 then (f_X10_costWith m11 i6 0 x9 x7).bind (fun p13 => ev_let (p13.1 : Int64) (fun y14 => (if 0 < x9 then (f_X10_costWith p13.2 i6 0 (x9 - 1) x7).bind (fun p34 => (jn_X10_learning_76_39 (p34.2) i6 x7 x8 x9 x10 y14 p34.1 (fun z0 z1 z2 => lp_X10_learning_39 i6 x7 x8 f z0 z1 z2 kx) (kx))) else (jn_X10_learning_76_39 (p13.2) i6 x7 x8 x9 x10 y14 y14 (fun z0 z1 z2 => lp_X10_learning_39 i6 x7 x8 f z0 z1 z2 kx) (kx))))) else (kx x9 m11))
def f_X10_learning (mF : ev_m) (i0 : Nat) (x1_ : Int32) (x2_ : Int32) (x3_ : Int32) (x4_ : Int32) : Option (Int32 × ev_m) :=
  ev_let (ev_pim mF 10 i0 0 0) (fun m1 => (f_X10_layFor m1 i0 x1_ x2_ x3_).bind (fun p2 => (if p2.1 = true then (if (s_X10_in p2.2 x4_ 0 30) = true then ev_let (p2.2.1 41 0 0 : Int32) (fun x5 => (lp_X10_learning_39 i0 x3_ x4_ 4000 x5 0 (p2.2) (fun x35 m36 => (some ((x35, m36)))))) else (some (((-1), p2.2)))) else (some (((-1), p2.2))))))
def lp_X10_steers_30 (m12 : ev_m) (i6 : Nat) (x7 : Int32) (x8 : Int32) (x9 : Int32) (x10 : Int32) : Nat → Int32 → (Unit → Option (Int64 × ev_m)) → Option (Int64 × ev_m)
  | 0, _, _ => none
  | f + 1, x11, kx =>
  (ev_ald (m12.1 38 0) 136 (17 * x8)).bind (fun x13 => (if x11 < x13 then (ev_ald (m12.1 38 0) 136 (((17 * x8) + 1) + (2 * x11))).bind (fun x15 => (f_X10_is m12 i6 1 x15).bind (fun x16 => (if x16 = true then (lp_X10_steers_30 m12 i6 x7 x8 x9 x10 f (x11 + 1) kx) else (some (((-100000), m12)))))) else (kx ())))
def lp_X10_steers_91 (i20 : Nat) (x21 : Int32) (x22 : Int32) : Nat → Int32 → ev_m → (ev_m → Option (Int64 × ev_m)) → Option (Int64 × ev_m)
  | 0, _, _, _ => none
  | f + 1, x23, m24, kx =>
  (ev_ald (m24.1 38 0) 136 (17 * x21)).bind (fun x25 => (if x23 < x25 then (if (m24.1 10 i20 32) < 400 then (ev_ald (m24.1 38 0) 136 (((17 * x21) + 2) + (2 * x23))).bind (fun x28 => (ev_ald (m24.1 38 0) 136 (((17 * x21) + 1) + (2 * x23))).bind (fun x29 => (f_X10_layHand m24 i20 0 x29).bind (fun m30 => ev_let (if ((m30.1 10 i20 32) + x28) < 400 then x28 else (400 - (m30.1 10 i20 32)) : Int32) (fun x32 => (f_X10_steer m30 i20 0 x32).bind (fun m33 => (lp_X10_steers_91 i20 x21 x22 f (x23 + 1) m33 kx)))))) else (kx m24)) else (kx m24)))
def jn_X10_steers_191 (m37 : ev_m) (i35 : Nat) (x36 : Int32) : Option (Int64 × ev_m) :=
  (if x36 = 0 then (some ((s_X10_cost m37 i35, m37))) else if x36 = 1 then (some ((m37.2.1 10 i35 33, m37))) else if x36 = 2 then (some (((m37.1 10 i35 34).toInt64, m37))) else if x36 = 3 then (some (((m37.1 10 i35 36).toInt64, m37))) else if x36 = 4 then (some (((m37.1 10 i35 32).toInt64, m37))) else (if (s_X10_in m37 x36 1000 (1000 + (m37.1 10 i35 32))) = true then (ev_ald (m37.1 45 0) 401 (x36 - 1000)).bind (fun x44 => (some ((x44.toInt64, m37)))) else (some (((-100000), m37)))))
def f_X10_steers (mF : ev_m) (i0 : Nat) (x1_ : Int32) (x2_ : Int32) (x3_ : Int32) (x4_ : Int32) : Option (Int64 × ev_m) :=
  ev_let (ev_pim mF 10 i0 0 0) (fun m1 => (f_X10_is m1 i0 0 x1_).bind (fun x2 => (if x2 = true then (f_X10_is m1 i0 3 x2_).bind (fun x4 => (if x4 = true then (lp_X10_steers_30 m1 i0 x1_ x2_ x3_ x4_ 4000 0 (fun (_ : Unit) => (f_X10_layShip m1 i0 x1_).bind (fun m18 => ev_let (s_X10_begin m18 i0 x3_) (fun m19 => (lp_X10_steers_91 i0 x2_ x4_ 4000 0 m19 (fun m34 => (jn_X10_steers_191 m34 i0 x4_))))))) else (some (((-100000), m1))))) else (some (((-100000), m1))))))
def lp_X10_change_42 (i7 : Nat) (x8 : Int32) : Nat → Int32 → Int64 → Int32 → ev_m → (Int32 → ev_m → Option (Int32 × ev_m)) → Option (Int32 × ev_m)
  | 0, _, _, _, _, _ => none
  | f + 1, x9, y10, x11, m12, kx =>
  (if x8 < x11 then (kx x9 m12) else ev_let (s_X10_begin m12 i7 0) (fun m14 => (f_X10_steer m14 i7 0 x11).bind (fun m15 => (f_X10_steer m15 i7 1 (x8 - x11)).bind (fun m16 => ev_let (if x9 = ((-1)) then x11 else (if (s_X10_cost m16 i7) < y10 then x11 else x9) : Int32) (fun x19 => ev_let (if x9 = ((-1)) then (s_X10_cost m16 i7) else (if (s_X10_cost m16 i7) < y10 then (s_X10_cost m16 i7) else y10) : Int64) (fun y20 => (lp_X10_change_42 i7 x8 f x19 y20 (x11 + 1) m16 kx)))))))
def f_X10_change (mF : ev_m) (i0 : Nat) (x1_ : Int32) (x2_ : Int32) (x3_ : Int32) (x4_ : Int32) : Option (Int32 × ev_m) :=
  ev_let (ev_pim mF 10 i0 0 0) (fun m1 => (f_X10_is m1 i0 1 x3_).bind (fun x2 => (if x2 = true then (f_X10_layFor m1 i0 x1_ x2_ x4_).bind (fun p4 => (if p4.1 = true then (f_X10_layHand p4.2 i0 1 x3_).bind (fun m6 => (lp_X10_change_42 i0 x4_ 4000 ((-1)) 0 0 m6 (fun x21 m22 => (some ((x21, m22)))))) else (some (((-1), p4.2))))) else (some (((-1), m1))))))
def jn_X10_isOrder_57_9 (m17 : ev_m) (i1 : Nat) (x2 : Int32) (x3 : Int32) (x14 : Int32) (x15 : Int32) (x16 : Int32) (kb : Int32 → Int32 → Int32 → ev_m → Option (Bool × ev_m)) (kx : Int32 → ev_m → Option (Bool × ev_m)) : Option (Bool × ev_m) :=
  (kb x14 x15 (x16 + (-1)) m17)
def lp_X10_isOrder_9 (i1 : Nat) (x2 : Int32) (x3 : Int32) : Nat → Int32 → Int32 → Int32 → ev_m → (Int32 → ev_m → Option (Bool × ev_m)) → Option (Bool × ev_m)
  | 0, _, _, _, _, _ => none
  | f + 1, x4, x5, x6, m7, kx =>
  (if x6 < 0 then (kx x4 m7) else ev_let (x5 - x5 / 4 * 4 : Int32) (fun x9 => ev_let (x5 / 4 : Int32) (fun x10 => (if x6 < x3 then (ev_ast m7 50 0 4 x6 x9).bind (fun m12 => ev_let (x4 ||| (1 <<< (x9 &&& 31)) : Int32) (fun x13 => (jn_X10_isOrder_57_9 m12 i1 x2 x3 x13 x10 x6 (fun z0 z1 z2 z3 => lp_X10_isOrder_9 i1 x2 x3 f z0 z1 z2 z3 kx) (kx)))) else (if 0 < x9 then (some ((false, m7))) else (jn_X10_isOrder_57_9 m7 i1 x2 x3 x4 x10 x6 (fun z0 z1 z2 z3 => lp_X10_isOrder_9 i1 x2 x3 f z0 z1 z2 z3 kx) (kx)))))))
def f_X10_isOrder (mF : ev_m) (i0 : Nat) (x1_ : Int32) (x2_ : Int32) (x3_ : Int32) : Option (Bool × ev_m) :=
  (lp_X10_isOrder_9 i0 x2_ x3_ 4000 0 x1_ 3 mF (fun x19 m20 => (if x19 = x2_ then (some ((true, m20))) else (some ((false, m20))))))
def lp_X10_order_11 (m9 : ev_m) (i2 : Nat) (x3 : Int32) (x4 : Int32) (x5 : Int32) (x6 : Int32) : Nat → Int32 → Int32 → (Int32 → Option (Int32 × ev_m)) → Option (Int32 × ev_m)
  | 0, _, _, _ => none
  | f + 1, x7, x8, kx =>
  (if x8 < 4 then ev_let (if (s_X10_has m9 x4 x8) = true then 1 else 0 : Int32) (fun x12 => ev_let (x7 + x12 : Int32) (fun x13 => (lp_X10_order_11 m9 i2 x3 x4 x5 x6 f x13 (x8 + 1) kx))) else (kx x7))
def jn_X10_order_186_138 (m54 : ev_m) (i35 : Nat) (x36 : Int32) (x37 : Int32) (x38 : Int32) (x39 : Int32) (x40 : Int32) (y41 : Int64) (x42 : Int32) (x50 : Int32) (x51 : Int32) (x52 : Int32) (i53 : Nat) (kb : Int32 → ev_m → Option (Int32 × ev_m)) (kx : ev_m → Option (Int32 × ev_m)) : Option (Int32 × ev_m) :=
  (f_X10_steer m54 i53 x52 x51).bind (fun m55 => (kb (x50 + 1) m55))
def lp_X10_order_138 (i35 : Nat) (x36 : Int32) (x37 : Int32) (x38 : Int32) (x39 : Int32) (x40 : Int32) (y41 : Int64) (x42 : Int32) : Nat → Int32 → ev_m → (ev_m → Option (Int32 × ev_m)) → Option (Int32 × ev_m)
  | 0, _, _, _ => none
  | f + 1, x43, m44, kx =>
  (if x43 < x39 then (ev_ald (m44.1 50 0) 4 x43).bind (fun x46 => (f_X10_layHand m44 i35 0 x46).bind (fun m47 => (if x43 < (x39 - 1) then (ev_dv x37 x39).bind (fun x56 => (jn_X10_order_186_138 m47 i35 x36 x37 x38 x39 x40 y41 x42 x43 x56 0 i35 (fun z0 z1 => lp_X10_order_138 i35 x36 x37 x38 x39 x40 y41 x42 f z0 z1 kx) (kx))) else (ev_dv x37 x39).bind (fun x49 => (jn_X10_order_186_138 m47 i35 x36 x37 x38 x39 x40 y41 x42 x43 (x37 - (x49 * (x39 - 1))) 0 i35 (fun z0 z1 => lp_X10_order_138 i35 x36 x37 x38 x39 x40 y41 x42 f z0 z1 kx) (kx)))))) else (kx m44))
def lp_X10_order_222 (i62 : Nat) (x63 : Int32) (x64 : Int32) (x65 : Int32) (x66 : Int32) (y67 : Int64) (x68 : Int32) : Nat → Int32 → ev_m → (ev_m → Option (Int32 × ev_m)) → Option (Int32 × ev_m)
  | 0, _, _, _ => none
  | f + 1, x69, m70, kx =>
  (if x69 < x66 then (ev_ald (m70.1 50 0) 4 x69).bind (fun x72 => (ev_ast m70 51 0 4 x69 x72).bind (fun m73 => (lp_X10_order_222 i62 x63 x64 x65 x66 y67 x68 f (x69 + 1) m73 kx))) else (kx m70))
def jn_X10_order_249_107 (m78 : ev_m) (i22 : Nat) (x23 : Int32) (x24 : Int32) (x25 : Int32) (x26 : Int32) (x75 : Int32) (y76 : Int64) (x77 : Int32) (kb : Int32 → Int64 → Int32 → ev_m → Option (Int32 × ev_m)) (kx : ev_m → Option (Int32 × ev_m)) : Option (Int32 × ev_m) :=
  (kb x75 y76 (x77 + 1) m78)
def jn_X10_order_210_107 (m60 : ev_m) (i22 : Nat) (x23 : Int32) (x24 : Int32) (x25 : Int32) (x26 : Int32) (x59 : Int32) (kb : Int32 → Int64 → Int32 → ev_m → Option (Int32 × ev_m)) (kx : ev_m → Option (Int32 × ev_m)) : Option (Int32 × ev_m) :=
  ev_let (s_X10_cost m60 i22 : Int64) (fun y61 => (lp_X10_order_222 i22 x23 x24 x25 x26 y61 x59 4000 0 m60 (fun m74 => (jn_X10_order_249_107 m74 i22 x23 x24 x25 x26 1 y61 x59 (kb) (kx)))))
def lp_X10_order_107 (i22 : Nat) (x23 : Int32) (x24 : Int32) (x25 : Int32) (x26 : Int32) : Nat → Int32 → Int64 → Int32 → ev_m → (ev_m → Option (Int32 × ev_m)) → Option (Int32 × ev_m)
  | 0, _, _, _, _, _ => none
  | f + 1, x27, y28, x29, m30, kx =>
  (if x29 < 256 then (f_X10_isOrder m30 i22 x29 x23 x26).bind (fun p32 => (if p32.1 = true then ev_let (s_X10_begin p32.2 i22 0) (fun m34 => (lp_X10_order_138 i22 x23 x24 x25 x26 x27 y28 x29 4000 0 m34 (fun m57 => (if x27 = 0 then (jn_X10_order_210_107 m57 i22 x23 x24 x25 x26 x29 (fun z0 z1 z2 z3 => lp_X10_order_107 i22 x23 x24 x25 x26 f z0 z1 z2 z3 kx) (kx)) else (if (s_X10_cost m57 i22) < y28 then (jn_X10_order_210_107 m57 i22 x23 x24 x25 x26 x29 (fun z0 z1 z2 z3 => lp_X10_order_107 i22 x23 x24 x25 x26 f z0 z1 z2 z3 kx) (kx)) else (jn_X10_order_249_107 m57 i22 x23 x24 x25 x26 x27 y28 x29 (fun z0 z1 z2 z3 => lp_X10_order_107 i22 x23 x24 x25 x26 f z0 z1 z2 z3 kx) (kx))))))) else (jn_X10_order_249_107 (p32.2) i22 x23 x24 x25 x26 x27 y28 x29 (fun z0 z1 z2 z3 => lp_X10_order_107 i22 x23 x24 x25 x26 f z0 z1 z2 z3 kx) (kx)))) else (kx m30))
def f_X10_order (mF : ev_m) (i0 : Nat) (x1_ : Int32) (x2_ : Int32) (x3_ : Int32) (x4_ : Int32) : Option (Int32 × ev_m) :=
  ev_let (ev_pim mF 10 i0 0 0) (fun m1 => (lp_X10_order_11 m1 i0 x1_ x2_ x3_ x4_ 4000 0 0 (fun x14 => (f_X10_is m1 i0 0 x1_).bind (fun x15 => (if x15 = true then (if 0 < x2_ then (if (x2_ >>> ((m1.1 34 0 1) &&& 31)) = 0 then (if (s_X10_in m1 x3_ x14 200) = true then (if (s_X10_in m1 x4_ 0 (x14 - 1)) = true then (f_X10_layShip m1 i0 x1_).bind (fun m21 => (lp_X10_order_107 i0 x2_ x3_ x4_ x14 4000 0 0 0 m21 (fun m80 => (ev_ald (m80.1 51 0) 4 x4_).bind (fun x81 => (some ((x81, m80))))))) else (some (((-1), m1)))) else (some (((-1), m1)))) else (some (((-1), m1)))) else (some (((-1), m1)))) else (some (((-1), m1))))))))
def lp_X10_both_53 (i10 : Nat) (x11 : Int32) (x12 : Int32) : Nat → Int32 → ev_m → (ev_m → Option (Int64 × ev_m)) → Option (Int64 × ev_m)
  | 0, _, _, _ => none
  | f + 1, x13, m14, kx =>
  (if x13 < x11 then (f_X10_wants m14 i10 0).bind (fun p16 => ev_let (p16.1 : Int32) (fun x17 => (f_X10_wants p16.2 i10 1).bind (fun p18 => ev_let (x17 + p18.1 : Int32) (fun x19 => (f_X10_pass p18.2 i10 (x19 / 2) 0).bind (fun m20 => (lp_X10_both_53 i10 x11 x12 f (x13 + 1) m20 kx)))))) else (kx m14))
def f_X10_both (mF : ev_m) (i0 : Nat) (x1_ : Int32) (x2_ : Int32) (x3_ : Int32) (x4_ : Int32) (x5_ : Int32) : Option (Int64 × ev_m) :=
  ev_let (ev_pim mF 10 i0 0 0) (fun m1 => (f_X10_is m1 i0 1 x3_).bind (fun x2 => (if x2 = true then (f_X10_layFor m1 i0 x1_ x2_ x4_).bind (fun p4 => (if p4.1 = true then (f_X10_layHand p4.2 i0 1 x3_).bind (fun m6 => ev_let (s_X10_begin m6 i0 0) (fun m7 => (f_X10_takes m7 i0 0).bind (fun m8 => (f_X10_takes m8 i0 1).bind (fun m9 => (lp_X10_both_53 i0 x4_ x5_ 4000 0 m9 (fun m21 => (if x5_ = 0 then (some ((s_X10_cost m21 i0, m21))) else (some (((m21.1 10 i0 36).toInt64, m21)))))))))) else (some (((-1), p4.2))))) else (some (((-1), m1))))))
def lp_X10_apartFrom_15 (mF : ev_m) (i2 : Nat) (x3 : Int32) (x4 : Int32) : Nat → Int64 → Int32 → (Int64 → Option (Int64)) → Option (Int64)
  | 0, _, _, _ => none
  | f + 1, y5, x6, kx =>
  (if x4 < x6 then (kx y5) else (ev_ald (mF.1 45 0) 401 x6).bind (fun x8 => (ev_ald (mF.1 37 0) 488 ((61 * x3) + x6)).bind (fun x9 => ev_let (y5 + ((s_X10_plain mF (x8 - x9)).toInt64) : Int64) (fun y10 => (lp_X10_apartFrom_15 mF i2 x3 x4 f y10 (x6 + 1) kx)))))
def f_X10_apartFrom (mF : ev_m) (i0 : Nat) (x1_ : Int32) : Option (Int64) :=
  (ev_ald (mF.1 37 0) 488 (61 * x1_)).bind (fun x1 => (lp_X10_apartFrom_15 mF i0 x1_ x1 4000 0 1 (fun y11 => (some (y11)))))
def lp_X10_apart_60 (m13 : ev_m) (i9 : Nat) (x10 : Int32) (x11 : Int32) : Nat → Int32 → (Int32 → Option (Int32 × ev_m)) → Option (Int32 × ev_m)
  | 0, _, _ => none
  | f + 1, x12, kx =>
  (if x12 < x11 then (ev_ald (m13.1 45 0) 401 (x12 + 1)).bind (fun x15 => (ev_ald (m13.1 37 0) 488 (((61 * x10) + 1) + x12)).bind (fun x16 => (if x15 = x16 then (lp_X10_apart_60 m13 i9 x10 x11 f (x12 + 1) kx) else (kx x12)))) else (kx x12))
def f_X10_apart (mF : ev_m) (i0 : Nat) (x1_ : Int32) (x2_ : Int32) (x3_ : Int32) (x4_ : Int32) : Option (Int32 × ev_m) :=
  ev_let (ev_pim mF 10 i0 0 0) (fun m1 => (f_X10_is m1 i0 2 x3_).bind (fun x2 => (if x2 = true then (f_X10_lay m1 i0 x1_ x2_ 0).bind (fun p4 => (if p4.1 = true then (ev_ald (p4.2.1 37 0) 488 (61 * x3_)).bind (fun x6 => (f_X10_runBy p4.2 i0 1 0 x6).bind (fun m7 => (if x4_ = 0 then (f_X10_apartFrom m7 i0 x3_).bind (fun x19 => (some ((x19.toInt32, m7)))) else (lp_X10_apart_60 m7 i0 x3_ x6 4000 0 (fun x18 => (some ((x18, m7)))))))) else (some (((-1), p4.2))))) else (some (((-1), m1))))))
def jn_X10_whose_96_33 (m25 : ev_m) (i6 : Nat) (x7 : Int32) (x8 : Int32) (x22 : Int32) (y23 : Int64) (x24 : Int32) (kb : Int32 → Int64 → Int32 → ev_m → Option (Int32 × ev_m)) (kx : Int32 → ev_m → Option (Int32 × ev_m)) : Option (Int32 × ev_m) :=
  (kb x22 y23 (x24 + 1) m25)
def jn_X10_whose_86_33 (m20 : ev_m) (i6 : Nat) (x7 : Int32) (x8 : Int32) (x19 : Int32) (kb : Int32 → Int64 → Int32 → ev_m → Option (Int32 × ev_m)) (kx : Int32 → ev_m → Option (Int32 × ev_m)) : Option (Int32 × ev_m) :=
  (f_X10_apartFrom m20 i6 x8).bind (fun x21 => (jn_X10_whose_96_33 m20 i6 x7 x8 x19 x21 x19 (kb) (kx)))
def lp_X10_whose_33 (i6 : Nat) (x7 : Int32) (x8 : Int32) : Nat → Int32 → Int64 → Int32 → ev_m → (Int32 → ev_m → Option (Int32 × ev_m)) → Option (Int32 × ev_m)
  | 0, _, _, _, _, _ => none
  | f + 1, x9, y10, x11, m12, kx =>
  (if x11 < (m12.1 34 0 1) then (f_X10_lay m12 i6 x7 x11 0).bind (fun p14 => ev_let (p14.1 : Bool) (fun x15 => (ev_ald (p14.2.1 37 0) 488 (61 * x8)).bind (fun x16 => (f_X10_runBy p14.2 i6 (bi (x15)) 0 x16).bind (fun m17 => (if x9 = ((-1)) then (jn_X10_whose_86_33 m17 i6 x7 x8 x11 (fun z0 z1 z2 z3 => lp_X10_whose_33 i6 x7 x8 f z0 z1 z2 z3 kx) (kx)) else (f_X10_apartFrom m17 i6 x8).bind (fun x26 => (if x26 < y10 then (jn_X10_whose_86_33 m17 i6 x7 x8 x11 (fun z0 z1 z2 z3 => lp_X10_whose_33 i6 x7 x8 f z0 z1 z2 z3 kx) (kx)) else (jn_X10_whose_96_33 m17 i6 x7 x8 x9 y10 x11 (fun z0 z1 z2 z3 => lp_X10_whose_33 i6 x7 x8 f z0 z1 z2 z3 kx) (kx))))))))) else (kx x9 m12))
def f_X10_whose (mF : ev_m) (i0 : Nat) (x1_ : Int32) (x2_ : Int32) : Option (Int32 × ev_m) :=
  ev_let (ev_pim mF 10 i0 0 0) (fun m1 => (f_X10_is m1 i0 0 x1_).bind (fun x2 => (if x2 = true then (f_X10_is m1 i0 2 x2_).bind (fun x4 => (if x4 = true then (lp_X10_whose_33 i0 x1_ x2_ 4000 ((-1)) 0 0 m1 (fun x28 m29 => (some ((x28, m29))))) else (some (((-1), m1))))) else (some (((-1), m1))))))
def jn_X10_tells_93_35 (m23 : ev_m) (i6 : Nat) (x7 : Int32) (x20 : Int32) (y21 : Int64) (x22 : Int32) (kb : Int32 → Int64 → Int32 → ev_m → Option (Int32 × ev_m)) (kx : Int32 → ev_m → Option (Int32 × ev_m)) : Option (Int32 × ev_m) :=
  (kb x20 y21 (x22 + 1) m23)
def jn_X10_tells_82_35 (m18 : ev_m) (i6 : Nat) (x7 : Int32) (x17 : Int32) (kb : Int32 → Int64 → Int32 → ev_m → Option (Int32 × ev_m)) (kx : Int32 → ev_m → Option (Int32 × ev_m)) : Option (Int32 × ev_m) :=
  (f_X10_apartFrom m18 i6 x7).bind (fun x19 => (jn_X10_tells_93_35 m18 i6 x7 x17 x19 x17 (kb) (kx)))
def lp_X10_tells_35 (i6 : Nat) (x7 : Int32) : Nat → Int32 → Int64 → Int32 → ev_m → (Int32 → ev_m → Option (Int32 × ev_m)) → Option (Int32 × ev_m)
  | 0, _, _, _, _, _ => none
  | f + 1, x8, y9, x10, m11, kx =>
  (if 99 < x10 then (kx x8 m11) else ev_let (ev_pim m11 40 0 0 x10) (fun m13 => (ev_ald (m13.1 37 0) 488 (61 * x7)).bind (fun x14 => (f_X10_runBy m13 i6 1 0 x14).bind (fun m15 => (if x8 = ((-1)) then (jn_X10_tells_82_35 m15 i6 x7 x10 (fun z0 z1 z2 z3 => lp_X10_tells_35 i6 x7 f z0 z1 z2 z3 kx) (kx)) else (f_X10_apartFrom m15 i6 x7).bind (fun x24 => (if x24 < y9 then (jn_X10_tells_82_35 m15 i6 x7 x10 (fun z0 z1 z2 z3 => lp_X10_tells_35 i6 x7 f z0 z1 z2 z3 kx) (kx)) else (jn_X10_tells_93_35 m15 i6 x7 x8 y9 x10 (fun z0 z1 z2 z3 => lp_X10_tells_35 i6 x7 f z0 z1 z2 z3 kx) (kx)))))))))
def f_X10_tells (mF : ev_m) (i0 : Nat) (x1_ : Int32) (x2_ : Int32) (x3_ : Int32) : Option (Int32 × ev_m) :=
  ev_let (ev_pim mF 10 i0 0 0) (fun m1 => (f_X10_is m1 i0 2 x3_).bind (fun x2 => (if x2 = true then (f_X10_lay m1 i0 x1_ x2_ 0).bind (fun p4 => (if p4.1 = true then (lp_X10_tells_35 i0 x3_ 4000 ((-1)) 0 0 (p4.2) (fun x26 m27 => (some ((x26, m27))))) else (some (((-1), p4.2))))) else (some (((-1), m1))))))
def lp_X10_slipped_45 (i5 : Nat) (x6 : Int32) (x7 : Int32) (x8 : Int32) (x9 : Int32) : Nat → Int64 → Int32 → Int64 → Int32 → ev_m → (Int64 → Int32 → ev_m → Option (Int64 × ev_m)) → Option (Int64 × ev_m)
  | 0, _, _, _, _, _, _ => none
  | f + 1, y10, x11, y12, x13, m14, kx =>
  (if x13 < x7 then (f_X10_runBy m14 i5 1 (x6 + x13) x8).bind (fun m16 => ev_let (y10 + (s_X10_cost m16 i5) : Int64) (fun y17 => ev_let (if y12 < 0 then (x6 + x13) else (if (s_X10_cost m16 i5) < y12 then (x6 + x13) else x11) : Int32) (fun x20 => ev_let (if y12 < 0 then (s_X10_cost m16 i5) else (if (s_X10_cost m16 i5) < y12 then (s_X10_cost m16 i5) else y12) : Int64) (fun y21 => (lp_X10_slipped_45 i5 x6 x7 x8 x9 f y17 x20 y21 (x13 + 1) m16 kx))))) else (kx y10 x11 m14))
def f_X10_slipped (mF : ev_m) (i0 : Nat) (x1_ : Int32) (x2_ : Int32) (x3_ : Int32) (x4_ : Int32) (x5_ : Int32) (x6_ : Int32) : Option (Int64 × ev_m) :=
  ev_let (ev_pim mF 10 i0 0 0) (fun m1 => (f_X10_layFor m1 i0 x1_ x2_ x5_).bind (fun p2 => (if p2.1 = true then (if (s_X10_in p2.2 x4_ 1 20) = true then (lp_X10_slipped_45 i0 x3_ x4_ x5_ x6_ 4000 0 x3_ ((-1)) 0 (p2.2) (fun y22 x23 m24 => (if x6_ = 0 then (some ((y22, m24))) else (some ((x23.toInt64, m24)))))) else (some (((-100000), p2.2)))) else (some (((-100000), p2.2))))))
def lp_X10_lead_39 (i6 : Nat) (x7 : Int32) : Nat → Int32 → ev_m → (ev_m → Option (Int32 × ev_m)) → Option (Int32 × ev_m)
  | 0, _, _, _ => none
  | f + 1, x8, m9, kx =>
  (if 99 < x8 then (kx m9) else (f_X10_put m9 i6 1 x8).bind (fun m11 => (f_X10_runBy m11 i6 1 0 x7).bind (fun m12 => (f_X10_grows m12 i6).bind (fun x13 => (if x13 = true then (lp_X10_lead_39 i6 x7 f (x8 + 1) m12 kx) else (some ((x8, m12))))))))
def f_X10_lead (mF : ev_m) (i0 : Nat) (x1_ : Int32) (x2_ : Int32) (x3_ : Int32) (x4_ : Int32) : Option (Int32 × ev_m) :=
  ev_let (ev_pim mF 10 i0 0 0) (fun m1 => (f_X10_layFor m1 i0 x1_ x2_ x3_).bind (fun p2 => (if p2.1 = true then (if (s_X10_in p2.2 x4_ 0 9) = true then ev_let (ev_pim p2.2 40 0 2 x4_) (fun m5 => (lp_X10_lead_39 i0 x3_ 4000 0 m5 (fun m15 => (some (((-1), m15)))))) else (some (((-1), p2.2)))) else (some (((-1), p2.2))))))
def lp_X10_bound_95 (i7 : Nat) (x8 : Int32) (x9 : Int32) (x10 : Int32) : Nat → Int32 → Int32 → ev_m → (Int32 → ev_m → Option (Int32 × ev_m)) → Option (Int32 × ev_m)
  | 0, _, _, _, _ => none
  | f + 1, x11, x12, m13, kx =>
  (if x12 < 1 then (kx x11 m13) else ev_let (if x10 = 1 then 3 else 4 : Int32) (fun x16 => (ev_ast m13 40 0 23 x16 x12).bind (fun m17 => (f_X10_runBy m17 i7 1 0 x8).bind (fun m18 => ev_let (if x9 < (m18.1 10 i7 36) then x11 else x12 : Int32) (fun x20 => (lp_X10_bound_95 i7 x8 x9 x10 f x20 (x12 + (-1)) m18 kx))))))
def lp_X10_bound_43 (i23 : Nat) (x24 : Int32) (x25 : Int32) : Nat → Int32 → Int32 → ev_m → (Int32 → ev_m → Option (Int32 × ev_m)) → Option (Int32 × ev_m)
  | 0, _, _, _, _ => none
  | f + 1, x26, x27, m28, kx =>
  (if 99 < x27 then (kx x26 m28) else (f_X10_put m28 i23 3 x27).bind (fun m30 => (f_X10_runBy m30 i23 1 0 x24).bind (fun m31 => ev_let (if x25 < (m31.1 10 i23 36) then x26 else x27 : Int32) (fun x33 => (lp_X10_bound_43 i23 x24 x25 f x33 (x27 + 1) m31 kx)))))
def f_X10_bound (mF : ev_m) (i0 : Nat) (x1_ : Int32) (x2_ : Int32) (x3_ : Int32) (x4_ : Int32) (x5_ : Int32) : Option (Int32 × ev_m) :=
  ev_let (ev_pim mF 10 i0 0 0) (fun m1 => (f_X10_layFor m1 i0 x1_ x2_ x3_).bind (fun p2 => (if p2.1 = true then (if x4_ < 0 then (some (((-1), p2.2))) else (if (s_X10_in p2.2 x5_ 0 2) = true then (if x5_ = 0 then (lp_X10_bound_43 i0 x3_ x4_ 4000 ((-1)) 0 (p2.2) (fun x34 m35 => (some ((x34, m35))))) else (lp_X10_bound_95 i0 x3_ x4_ x5_ 4000 ((-1)) 35 (p2.2) (fun x21 m22 => (some ((x21, m22)))))) else (some (((-1), p2.2))))) else (some (((-1), p2.2))))))
def f_X10_costOf (mF : ev_m) (i0 : Nat) (x1_ : Int32) : Option (Int64) :=
  (ev_ald (mF.1 45 0) 401 x1_).bind (fun x1 => (ev_ald (mF.1 47 0) 401 x1_).bind (fun x2 => (ev_ald (mF.1 47 0) 401 (x1_ - 1)).bind (fun x3 => (some (((s_X10_plain mF x1).toInt64) + (((mF.1 40 0 5).toInt64) * ((s_X10_plain mF (x2 - x3)).toInt64)))))))
def jn_X10_first_84_49 (m14 : ev_m) (i6 : Nat) (x7 : Int32) (x8 : Int32) (x22 : Int32) (x23 : Int32) (y24 : Int64) (x25 : Int32) (x26 : Int32) (kb : Int32 → Int32 → Int32 → Int64 → Int32 → Option (Int32 × ev_m)) (kx : Int32 → Int32 → Int32 → Option (Int32 × ev_m)) : Option (Int32 × ev_m) :=
  (f_X10_costOf m14 i6 x25).bind (fun x27 => (f_X10_costOf m14 i6 x22).bind (fun x28 => ev_let (if x28 < x27 then x25 else x22 : Int32) (fun x30 => (f_X10_costOf m14 i6 x25).bind (fun x31 => ev_let (y24 + x31 : Int64) (fun y32 => ev_let (if x23 = ((-1)) then (if (2 * y32) < (s_X10_cost m14 i6) then x23 else x25) else x23 : Int32) (fun x35 => (kb x26 x30 x35 y32 (x25 + 1))))))))
def jn_X10_first_82_49 (m14 : ev_m) (i6 : Nat) (x7 : Int32) (x8 : Int32) (x17 : Int32) (x18 : Int32) (x19 : Int32) (y20 : Int64) (x21 : Int32) (kb : Int32 → Int32 → Int32 → Int64 → Int32 → Option (Int32 × ev_m)) (kx : Int32 → Int32 → Int32 → Option (Int32 × ev_m)) : Option (Int32 × ev_m) :=
  (jn_X10_first_84_49 m14 i6 x7 x8 x18 x19 y20 x21 x17 (kb) (kx))
def lp_X10_first_49 (m14 : ev_m) (i6 : Nat) (x7 : Int32) (x8 : Int32) : Nat → Int32 → Int32 → Int32 → Int64 → Int32 → (Int32 → Int32 → Int32 → Option (Int32 × ev_m)) → Option (Int32 × ev_m)
  | 0, _, _, _, _, _, _ => none
  | f + 1, x9, x10, x11, y12, x13, kx =>
  (if x7 < x13 then (kx x9 x10 x11) else (if x9 = ((-1)) then (ev_ald (m14.1 45 0) 401 x13).bind (fun x36 => ev_let (if (s_X10_plain m14 x36) < 9000 then x9 else x13 : Int32) (fun x38 => (f_X10_costOf m14 i6 x13).bind (fun x39 => (f_X10_costOf m14 i6 x10).bind (fun x40 => ev_let (if x40 < x39 then x13 else x10 : Int32) (fun x42 => (f_X10_costOf m14 i6 x13).bind (fun x43 => ev_let (y12 + x43 : Int64) (fun y44 => ev_let (if x11 = ((-1)) then (if (2 * y44) < (s_X10_cost m14 i6) then x11 else x13) else x11 : Int32) (fun x47 => (lp_X10_first_49 m14 i6 x7 x8 f x38 x42 x47 y44 (x13 + 1) kx))))))))) else (jn_X10_first_82_49 m14 i6 x7 x8 x9 x10 x11 y12 x13 (fun z0 z1 z2 z3 z4 => lp_X10_first_49 m14 i6 x7 x8 f z0 z1 z2 z3 z4 kx) (kx))))
def f_X10_first (mF : ev_m) (i0 : Nat) (x1_ : Int32) (x2_ : Int32) (x3_ : Int32) (x4_ : Int32) : Option (Int32 × ev_m) :=
  ev_let (ev_pim mF 10 i0 0 0) (fun m1 => (f_X10_layFor m1 i0 x1_ x2_ x3_).bind (fun p2 => (if p2.1 = true then (if (s_X10_in p2.2 x4_ 0 2) = true then (f_X10_runBy p2.2 i0 1 0 x3_).bind (fun m5 => (lp_X10_first_49 m5 i0 x3_ x4_ 4000 ((-1)) 1 ((-1)) 0 1 (fun x48 x49 x50 => (if x4_ = 0 then (some ((x48, m5))) else (if x4_ = 1 then (some ((x49, m5))) else (some ((x50, m5)))))))) else (some (((-1), p2.2)))) else (some (((-1), p2.2))))))
def f_X10_better (mF : ev_m) (i0 : Nat) (x1_ : Int32) (x2_ : Int32) (x3_ : Int32) (x4_ : Int32) : Option (Int32 × ev_m) :=
  ev_let (ev_pim mF 10 i0 0 0) (fun m1 => (f_X10_is m1 i0 1 x3_).bind (fun x2 => (if x2 = true then (f_X10_layFor m1 i0 x1_ x2_ x4_).bind (fun p4 => (if p4.1 = true then (f_X10_costBy p4.2 i0 x4_).bind (fun p6 => ev_let (p6.1 : Int64) (fun y7 => (f_X10_layHand p6.2 i0 0 x3_).bind (fun m8 => (f_X10_costBy m8 i0 x4_).bind (fun p9 => ev_let (p9.1 : Int64) (fun y10 => (if y7 < y10 then (some ((0, p9.2))) else (if y10 < y7 then (some ((1, p9.2))) else (some ((2, p9.2)))))))))) else (some (((-1), p4.2))))) else (some (((-1), m1))))))
def jn_X10_reads_148_67 (m32 : ev_m) (i9 : Nat) (x10 : Int32) (x11 : Int32) (x12 : Int32) (x13 : Int32) (x29 : Int32) (y30 : Int64) (x31 : Int32) (kb : Int32 → Int64 → Int32 → ev_m → Option (Int32 × ev_m)) (kx : Int32 → Int64 → ev_m → Option (Int32 × ev_m)) : Option (Int32 × ev_m) :=
  (kb x29 y30 (x31 + 1) m32)
def jn_X10_reads_137_67 (m27 : ev_m) (i9 : Nat) (x10 : Int32) (x11 : Int32) (x12 : Int32) (x13 : Int32) (x26 : Int32) (kb : Int32 → Int64 → Int32 → ev_m → Option (Int32 × ev_m)) (kx : Int32 → Int64 → ev_m → Option (Int32 × ev_m)) : Option (Int32 × ev_m) :=
  (f_X10_apartFrom m27 i9 x10).bind (fun x28 => (jn_X10_reads_148_67 m27 i9 x10 x11 x12 x13 x26 x28 x26 (kb) (kx)))
def lp_X10_reads_67 (i9 : Nat) (x10 : Int32) (x11 : Int32) (x12 : Int32) (x13 : Int32) : Nat → Int32 → Int64 → Int32 → ev_m → (Int32 → Int64 → ev_m → Option (Int32 × ev_m)) → Option (Int32 × ev_m)
  | 0, _, _, _, _, _ => none
  | f + 1, x14, y15, x16, m17, kx =>
  (if x16 < ((x11 + 1) * (x12 + 1)) then (ev_dv x16 (x12 + 1)).bind (fun x19 => (f_X10_put m17 i9 0 x19).bind (fun m20 => (ev_rm x16 (x12 + 1)).bind (fun x21 => (f_X10_put m20 i9 1 x21).bind (fun m22 => (ev_ald (m22.1 37 0) 488 (61 * x10)).bind (fun x23 => (f_X10_runBy m22 i9 1 0 x23).bind (fun m24 => (if x14 = ((-1)) then (jn_X10_reads_137_67 m24 i9 x10 x11 x12 x13 x16 (fun z0 z1 z2 z3 => lp_X10_reads_67 i9 x10 x11 x12 x13 f z0 z1 z2 z3 kx) (kx)) else (f_X10_apartFrom m24 i9 x10).bind (fun x33 => (if x33 < y15 then (jn_X10_reads_137_67 m24 i9 x10 x11 x12 x13 x16 (fun z0 z1 z2 z3 => lp_X10_reads_67 i9 x10 x11 x12 x13 f z0 z1 z2 z3 kx) (kx)) else (jn_X10_reads_148_67 m24 i9 x10 x11 x12 x13 x14 y15 x16 (fun z0 z1 z2 z3 => lp_X10_reads_67 i9 x10 x11 x12 x13 f z0 z1 z2 z3 kx) (kx))))))))))) else (kx x14 y15 m17))
def f_X10_reads (mF : ev_m) (i0 : Nat) (x1_ : Int32) (x2_ : Int32) (x3_ : Int32) (x4_ : Int32) (x5_ : Int32) (x6_ : Int32) : Option (Int32 × ev_m) :=
  ev_let (ev_pim mF 10 i0 0 0) (fun m1 => (f_X10_is m1 i0 2 x3_).bind (fun x2 => (if x2 = true then (f_X10_lay m1 i0 x1_ x2_ 0).bind (fun p4 => (if p4.1 = true then (if (s_X10_in p4.2 x4_ 0 20) = true then (if (s_X10_in p4.2 x5_ 0 20) = true then (if (s_X10_in p4.2 x6_ 0 2) = true then (lp_X10_reads_67 i0 x3_ x4_ x5_ x6_ 4000 ((-1)) 0 0 (p4.2) (fun x35 y36 m37 => (if x6_ = 0 then (ev_dv x35 (x5_ + 1)).bind (fun x41 => (some ((x41, m37)))) else (if x6_ = 1 then (ev_rm x35 (x5_ + 1)).bind (fun x40 => (some ((x40, m37)))) else (some ((y36.toInt32, m37))))))) else (some (((-1), p4.2)))) else (some (((-1), p4.2)))) else (some (((-1), p4.2)))) else (some (((-1), p4.2))))) else (some (((-1), m1))))))
def jn_X10_parted_122_63 (m28 : ev_m) (i10 : Nat) (x11 : Int32) (x12 : Int32) (x25 : Int32) (y26 : Int64) (x27 : Int32) (kb : Int32 → Int64 → Int32 → ev_m → Option (Int32 × ev_m)) (kx : Int32 → ev_m → Option (Int32 × ev_m)) : Option (Int32 × ev_m) :=
  (kb x25 y26 (x27 + 1) m28)
def jn_X10_parted_110_63 (m23 : ev_m) (i10 : Nat) (x11 : Int32) (x12 : Int32) (x22 : Int32) (kb : Int32 → Int64 → Int32 → ev_m → Option (Int32 × ev_m)) (kx : Int32 → ev_m → Option (Int32 × ev_m)) : Option (Int32 × ev_m) :=
  (f_X10_apartFrom m23 i10 x11).bind (fun x24 => (jn_X10_parted_122_63 m23 i10 x11 x12 x22 x24 x22 (kb) (kx)))
def lp_X10_parted_63 (i10 : Nat) (x11 : Int32) (x12 : Int32) : Nat → Int32 → Int64 → Int32 → ev_m → (Int32 → ev_m → Option (Int32 × ev_m)) → Option (Int32 × ev_m)
  | 0, _, _, _, _, _ => none
  | f + 1, x13, y14, x15, m16, kx =>
  (if x12 < x15 then (kx x13 m16) else ev_let (s_X10_begin m16 i10 0) (fun m18 => (f_X10_steer m18 i10 0 x15).bind (fun m19 => (f_X10_steer m19 i10 1 (x12 - x15)).bind (fun m20 => (if x13 = ((-1)) then (jn_X10_parted_110_63 m20 i10 x11 x12 x15 (fun z0 z1 z2 z3 => lp_X10_parted_63 i10 x11 x12 f z0 z1 z2 z3 kx) (kx)) else (f_X10_apartFrom m20 i10 x11).bind (fun x29 => (if x29 < y14 then (jn_X10_parted_110_63 m20 i10 x11 x12 x15 (fun z0 z1 z2 z3 => lp_X10_parted_63 i10 x11 x12 f z0 z1 z2 z3 kx) (kx)) else (jn_X10_parted_122_63 m20 i10 x11 x12 x13 y14 x15 (fun z0 z1 z2 z3 => lp_X10_parted_63 i10 x11 x12 f z0 z1 z2 z3 kx) (kx)))))))))
def f_X10_parted (mF : ev_m) (i0 : Nat) (x1_ : Int32) (x2_ : Int32) (x3_ : Int32) (x4_ : Int32) : Option (Int32 × ev_m) :=
  ev_let (ev_pim mF 10 i0 0 0) (fun m1 => (f_X10_is m1 i0 1 x3_).bind (fun x2 => (if x2 = true then (f_X10_is m1 i0 2 x4_).bind (fun x4 => (if x4 = true then (f_X10_lay m1 i0 x1_ x2_ 0).bind (fun p6 => (if p6.1 = true then (f_X10_layHand p6.2 i0 1 x3_).bind (fun m8 => (ev_ald (m8.1 37 0) 488 (61 * x4_)).bind (fun x9 => (lp_X10_parted_63 i0 x4_ x9 4000 ((-1)) 0 0 m8 (fun x31 m32 => (some ((x31, m32))))))) else (some (((-1), p6.2))))) else (some (((-1), m1))))) else (some (((-1), m1))))))
def f_X10_count (mF : ev_m) (i0 : Nat) (x1_ : Int32) : Option (Int32 × ev_m) :=
  ev_let (ev_pim mF 10 i0 0 0) (fun m1 => (if (s_X10_in m1 x1_ 0 3) = true then (ev_ald (m1.1 34 0) 16 x1_).bind (fun x3 => (some ((x3, m1)))) else (some (((-2), m1)))))
def f_X10_image (mF : ev_m) (i0 : Nat) (x1_ : Int32) : Option (Bool × ev_m) :=
  ev_let (ev_pim mF 10 i0 0 0) (fun m1 => (if (s_X10_in m1 x1_ 0 2) = true then (f_X10_copyAll m1 i0 0 (x1_ + 1)).bind (fun m3 => (ev_zst m3 52 0 3 x1_ 1).bind (fun m4 => (some ((true, m4))))) else (some ((false, m1)))))
def f_X10_again (mF : ev_m) (i0 : Nat) (x1_ : Int32) : Option (Bool × ev_m) :=
  ev_let (ev_pim mF 10 i0 0 0) (fun m1 => (if (s_X10_in m1 x1_ 0 2) = true then (ev_ald (m1.1 52 0) 3 x1_).bind (fun x3 => (if x3 = 0 then (some ((false, m1))) else (f_X10_copyAll m1 i0 (x1_ + 1) 0).bind (fun m5 => (some ((true, m5)))))) else (some ((false, m1)))))
def jn_L_law_2336_18 (xs : List Int32) (m47 : ev_m) (x46 : Int32) (kb : Int32 → ev_m → Option (Bool × ev_m)) (kx : ev_m → Option (Bool × ev_m)) : Option (Bool × ev_m) :=
  (kb (x46 + 7) m47)
def lp_L_law_18 (xs : List Int32)  : Nat → Int32 → ev_m → (ev_m → Option (Bool × ev_m)) → Option (Bool × ev_m)
  | 0, _, _, _ => none
  | f + 1, x1, m2, kx =>
  (if ((Int32.ofNat xs.length) - 7) < x1 then (kx m2) else (ev_ald (fun k => xs.getD k 0) xs.length x1).bind (fun x4 => (if (x4 &&& 63) = 0 then (ev_ald (fun k => xs.getD k 0) xs.length (x1 + 1)).bind (fun x476 => (ev_ald (fun k => xs.getD k 0) xs.length (x1 + 2)).bind (fun x477 => (ev_ald (fun k => xs.getD k 0) xs.length (x1 + 3)).bind (fun x478 => (ev_ald (fun k => xs.getD k 0) xs.length (x1 + 4)).bind (fun x479 => (ev_ald (fun k => xs.getD k 0) xs.length (x1 + 5)).bind (fun x480 => (f_X9_feed m2 0 x476 x477 x478 x479 x480).bind (fun p481 => (ev_ald (fun k => xs.getD k 0) xs.length (x1 + 1)).bind (fun x482 => (ev_ald (fun k => xs.getD k 0) xs.length (x1 + 2)).bind (fun x483 => (ev_ald (fun k => xs.getD k 0) xs.length (x1 + 3)).bind (fun x484 => (ev_ald (fun k => xs.getD k 0) xs.length (x1 + 4)).bind (fun x485 => (ev_ald (fun k => xs.getD k 0) xs.length (x1 + 5)).bind (fun x486 => (f_X10_feed p481.2 0 x482 x483 x484 x485 x486).bind (fun p487 => (if p481.1 = p487.1 then (jn_L_law_2336_18 xs (p487.2) x1 (fun z0 z1 => lp_L_law_18 xs f z0 z1 kx) (kx)) else (some ((false, p487.2)))))))))))))))) else if (x4 &&& 63) = 1 then (ev_ald (fun k => xs.getD k 0) xs.length (x1 + 1)).bind (fun x471 => ev_let (s_X9_end m2 0 x471) (fun p472 => (ev_ald (fun k => xs.getD k 0) xs.length (x1 + 1)).bind (fun x473 => ev_let (s_X10_end p472.2 0 x473) (fun p474 => (if p472.1 = p474.1 then (jn_L_law_2336_18 xs (p474.2) x1 (fun z0 z1 => lp_L_law_18 xs f z0 z1 kx) (kx)) else (some ((false, p474.2)))))))) else if (x4 &&& 63) = 2 then (ev_ald (fun k => xs.getD k 0) xs.length (x1 + 1)).bind (fun x464 => (ev_ald (fun k => xs.getD k 0) xs.length (x1 + 2)).bind (fun x465 => (f_X9_text m2 0 x464 x465).bind (fun p466 => (ev_ald (fun k => xs.getD k 0) xs.length (x1 + 1)).bind (fun x467 => (ev_ald (fun k => xs.getD k 0) xs.length (x1 + 2)).bind (fun x468 => (f_X10_text p466.2 0 x467 x468).bind (fun p469 => (if p466.1 = p469.1 then (jn_L_law_2336_18 xs (p469.2) x1 (fun z0 z1 => lp_L_law_18 xs f z0 z1 kx) (kx)) else (some ((false, p469.2)))))))))) else if (x4 &&& 63) = 3 then (ev_ald (fun k => xs.getD k 0) xs.length (x1 + 1)).bind (fun x460 => (ev_ald (fun k => xs.getD k 0) xs.length (x1 + 1)).bind (fun x461 => ev_let (s_X10_fault m2 0 x461) (fun p462 => (if (s_X9_fault m2 0 x460) = p462.1 then (jn_L_law_2336_18 xs (p462.2) x1 (fun z0 z1 => lp_L_law_18 xs f z0 z1 kx) (kx)) else (some ((false, p462.2))))))) else if (x4 &&& 63) = 4 then (ev_ald (fun k => xs.getD k 0) xs.length (x1 + 1)).bind (fun x453 => (ev_ald (fun k => xs.getD k 0) xs.length (x1 + 2)).bind (fun x454 => (f_X9_ship m2 0 x453 x454).bind (fun x455 => (ev_ald (fun k => xs.getD k 0) xs.length (x1 + 1)).bind (fun x456 => (ev_ald (fun k => xs.getD k 0) xs.length (x1 + 2)).bind (fun x457 => (f_X10_ship m2 0 x456 x457).bind (fun p458 => (if x455 = p458.1 then (jn_L_law_2336_18 xs (p458.2) x1 (fun z0 z1 => lp_L_law_18 xs f z0 z1 kx) (kx)) else (some ((false, p458.2)))))))))) else if (x4 &&& 63) = 5 then (ev_ald (fun k => xs.getD k 0) xs.length (x1 + 1)).bind (fun x446 => (ev_ald (fun k => xs.getD k 0) xs.length (x1 + 2)).bind (fun x447 => (f_X9_hand m2 0 x446 x447).bind (fun x448 => (ev_ald (fun k => xs.getD k 0) xs.length (x1 + 1)).bind (fun x449 => (ev_ald (fun k => xs.getD k 0) xs.length (x1 + 2)).bind (fun x450 => (f_X10_hand m2 0 x449 x450).bind (fun p451 => (if x448 = p451.1 then (jn_L_law_2336_18 xs (p451.2) x1 (fun z0 z1 => lp_L_law_18 xs f z0 z1 kx) (kx)) else (some ((false, p451.2)))))))))) else if (x4 &&& 63) = 6 then (ev_ald (fun k => xs.getD k 0) xs.length (x1 + 1)).bind (fun x439 => (ev_ald (fun k => xs.getD k 0) xs.length (x1 + 2)).bind (fun x440 => (f_X9_paper m2 0 x439 x440).bind (fun x441 => (ev_ald (fun k => xs.getD k 0) xs.length (x1 + 1)).bind (fun x442 => (ev_ald (fun k => xs.getD k 0) xs.length (x1 + 2)).bind (fun x443 => (f_X10_paper m2 0 x442 x443).bind (fun p444 => (if x441 = p444.1 then (jn_L_law_2336_18 xs (p444.2) x1 (fun z0 z1 => lp_L_law_18 xs f z0 z1 kx) (kx)) else (some ((false, p444.2)))))))))) else if (x4 &&& 63) = 7 then (ev_ald (fun k => xs.getD k 0) xs.length (x1 + 1)).bind (fun x430 => (ev_ald (fun k => xs.getD k 0) xs.length (x1 + 2)).bind (fun x431 => (ev_ald (fun k => xs.getD k 0) xs.length (x1 + 3)).bind (fun x432 => (f_X9_watch m2 0 x430 x431 x432).bind (fun x433 => (ev_ald (fun k => xs.getD k 0) xs.length (x1 + 1)).bind (fun x434 => (ev_ald (fun k => xs.getD k 0) xs.length (x1 + 2)).bind (fun x435 => (ev_ald (fun k => xs.getD k 0) xs.length (x1 + 3)).bind (fun x436 => (f_X10_watch m2 0 x434 x435 x436).bind (fun p437 => (if x433 = p437.1 then (jn_L_law_2336_18 xs (p437.2) x1 (fun z0 z1 => lp_L_law_18 xs f z0 z1 kx) (kx)) else (some ((false, p437.2)))))))))))) else if (x4 &&& 63) = 8 then (ev_ald (fun k => xs.getD k 0) xs.length (x1 + 1)).bind (fun x417 => (ev_ald (fun k => xs.getD k 0) xs.length (x1 + 2)).bind (fun x418 => (ev_ald (fun k => xs.getD k 0) xs.length (x1 + 3)).bind (fun x419 => (ev_ald (fun k => xs.getD k 0) xs.length (x1 + 4)).bind (fun x420 => (ev_ald (fun k => xs.getD k 0) xs.length (x1 + 5)).bind (fun x421 => (f_X9_second m2 0 x417 x418 x419 x420 x421).bind (fun p422 => (ev_ald (fun k => xs.getD k 0) xs.length (x1 + 1)).bind (fun x423 => (ev_ald (fun k => xs.getD k 0) xs.length (x1 + 2)).bind (fun x424 => (ev_ald (fun k => xs.getD k 0) xs.length (x1 + 3)).bind (fun x425 => (ev_ald (fun k => xs.getD k 0) xs.length (x1 + 4)).bind (fun x426 => (ev_ald (fun k => xs.getD k 0) xs.length (x1 + 5)).bind (fun x427 => (f_X10_second p422.2 0 x423 x424 x425 x426 x427).bind (fun p428 => (if p422.1 = p428.1 then (jn_L_law_2336_18 xs (p428.2) x1 (fun z0 z1 => lp_L_law_18 xs f z0 z1 kx) (kx)) else (some ((false, p428.2)))))))))))))))) else if (x4 &&& 63) = 9 then (ev_ald (fun k => xs.getD k 0) xs.length (x1 + 1)).bind (fun x404 => (ev_ald (fun k => xs.getD k 0) xs.length (x1 + 2)).bind (fun x405 => (ev_ald (fun k => xs.getD k 0) xs.length (x1 + 3)).bind (fun x406 => (ev_ald (fun k => xs.getD k 0) xs.length (x1 + 4)).bind (fun x407 => (ev_ald (fun k => xs.getD k 0) xs.length (x1 + 5)).bind (fun x408 => (f_X9_run m2 0 x404 x405 x406 x407 x408).bind (fun p409 => (ev_ald (fun k => xs.getD k 0) xs.length (x1 + 1)).bind (fun x410 => (ev_ald (fun k => xs.getD k 0) xs.length (x1 + 2)).bind (fun x411 => (ev_ald (fun k => xs.getD k 0) xs.length (x1 + 3)).bind (fun x412 => (ev_ald (fun k => xs.getD k 0) xs.length (x1 + 4)).bind (fun x413 => (ev_ald (fun k => xs.getD k 0) xs.length (x1 + 5)).bind (fun x414 => (f_X10_run p409.2 0 x410 x411 x412 x413 x414).bind (fun p415 => (if p409.1 = p415.1 then (jn_L_law_2336_18 xs (p415.2) x1 (fun z0 z1 => lp_L_law_18 xs f z0 z1 kx) (kx)) else (some ((false, p415.2)))))))))))))))) else if (x4 &&& 63) = 10 then (ev_ald (fun k => xs.getD k 0) xs.length (x1 + 1)).bind (fun x391 => (ev_ald (fun k => xs.getD k 0) xs.length (x1 + 2)).bind (fun x392 => (ev_ald (fun k => xs.getD k 0) xs.length (x1 + 3)).bind (fun x393 => (ev_ald (fun k => xs.getD k 0) xs.length (x1 + 4)).bind (fun x394 => (ev_ald (fun k => xs.getD k 0) xs.length (x1 + 5)).bind (fun x395 => (f_X9_peak m2 0 x391 x392 x393 x394 x395).bind (fun p396 => (ev_ald (fun k => xs.getD k 0) xs.length (x1 + 1)).bind (fun x397 => (ev_ald (fun k => xs.getD k 0) xs.length (x1 + 2)).bind (fun x398 => (ev_ald (fun k => xs.getD k 0) xs.length (x1 + 3)).bind (fun x399 => (ev_ald (fun k => xs.getD k 0) xs.length (x1 + 4)).bind (fun x400 => (ev_ald (fun k => xs.getD k 0) xs.length (x1 + 5)).bind (fun x401 => (f_X10_peak p396.2 0 x397 x398 x399 x400 x401).bind (fun p402 => (if p396.1 = p402.1 then (jn_L_law_2336_18 xs (p402.2) x1 (fun z0 z1 => lp_L_law_18 xs f z0 z1 kx) (kx)) else (some ((false, p402.2)))))))))))))))) else if (x4 &&& 63) = 11 then (ev_ald (fun k => xs.getD k 0) xs.length (x1 + 1)).bind (fun x376 => (ev_ald (fun k => xs.getD k 0) xs.length (x1 + 2)).bind (fun x377 => (ev_ald (fun k => xs.getD k 0) xs.length (x1 + 3)).bind (fun x378 => (ev_ald (fun k => xs.getD k 0) xs.length (x1 + 4)).bind (fun x379 => (ev_ald (fun k => xs.getD k 0) xs.length (x1 + 5)).bind (fun x380 => (ev_ald (fun k => xs.getD k 0) xs.length (x1 + 6)).bind (fun x381 => (f_X9_found m2 0 x376 x377 x378 x379 x380 x381).bind (fun p382 => (ev_ald (fun k => xs.getD k 0) xs.length (x1 + 1)).bind (fun x383 => (ev_ald (fun k => xs.getD k 0) xs.length (x1 + 2)).bind (fun x384 => (ev_ald (fun k => xs.getD k 0) xs.length (x1 + 3)).bind (fun x385 => (ev_ald (fun k => xs.getD k 0) xs.length (x1 + 4)).bind (fun x386 => (ev_ald (fun k => xs.getD k 0) xs.length (x1 + 5)).bind (fun x387 => (ev_ald (fun k => xs.getD k 0) xs.length (x1 + 6)).bind (fun x388 => (f_X10_found p382.2 0 x383 x384 x385 x386 x387 x388).bind (fun p389 => (if p382.1 = p389.1 then (jn_L_law_2336_18 xs (p389.2) x1 (fun z0 z1 => lp_L_law_18 xs f z0 z1 kx) (kx)) else (some ((false, p389.2)))))))))))))))))) else if (x4 &&& 63) = 12 then (ev_ald (fun k => xs.getD k 0) xs.length (x1 + 1)).bind (fun x361 => (ev_ald (fun k => xs.getD k 0) xs.length (x1 + 2)).bind (fun x362 => (ev_ald (fun k => xs.getD k 0) xs.length (x1 + 3)).bind (fun x363 => (ev_ald (fun k => xs.getD k 0) xs.length (x1 + 4)).bind (fun x364 => ev_let (if x364 = 0 then 0 else 1 : Int32) (fun x366 => (f_X9_iron m2 0 x361 x362 x363 x366).bind (fun p367 => (ev_ald (fun k => xs.getD k 0) xs.length (x1 + 1)).bind (fun x368 => (ev_ald (fun k => xs.getD k 0) xs.length (x1 + 2)).bind (fun x369 => (ev_ald (fun k => xs.getD k 0) xs.length (x1 + 3)).bind (fun x370 => (ev_ald (fun k => xs.getD k 0) xs.length (x1 + 4)).bind (fun x371 => ev_let (if x371 = 0 then 0 else 1 : Int32) (fun x373 => (f_X10_iron p367.2 0 x368 x369 x370 x373).bind (fun p374 => (if p367.1 = p374.1 then (jn_L_law_2336_18 xs (p374.2) x1 (fun z0 z1 => lp_L_law_18 xs f z0 z1 kx) (kx)) else (some ((false, p374.2)))))))))))))))) else if (x4 &&& 63) = 13 then (ev_ald (fun k => xs.getD k 0) xs.length (x1 + 1)).bind (fun x350 => (ev_ald (fun k => xs.getD k 0) xs.length (x1 + 2)).bind (fun x351 => (ev_ald (fun k => xs.getD k 0) xs.length (x1 + 3)).bind (fun x352 => (ev_ald (fun k => xs.getD k 0) xs.length (x1 + 4)).bind (fun x353 => (f_X9_line m2 0 x350 x351 x352 x353).bind (fun p354 => (ev_ald (fun k => xs.getD k 0) xs.length (x1 + 1)).bind (fun x355 => (ev_ald (fun k => xs.getD k 0) xs.length (x1 + 2)).bind (fun x356 => (ev_ald (fun k => xs.getD k 0) xs.length (x1 + 3)).bind (fun x357 => (ev_ald (fun k => xs.getD k 0) xs.length (x1 + 4)).bind (fun x358 => (f_X10_line p354.2 0 x355 x356 x357 x358).bind (fun p359 => (if p354.1 = p359.1 then (jn_L_law_2336_18 xs (p359.2) x1 (fun z0 z1 => lp_L_law_18 xs f z0 z1 kx) (kx)) else (some ((false, p359.2)))))))))))))) else if (x4 &&& 63) = 14 then (ev_ald (fun k => xs.getD k 0) xs.length (x1 + 1)).bind (fun x341 => (ev_ald (fun k => xs.getD k 0) xs.length (x1 + 2)).bind (fun x342 => (ev_ald (fun k => xs.getD k 0) xs.length (x1 + 3)).bind (fun x343 => (f_X9_alone m2 0 x341 x342 x343).bind (fun p344 => (ev_ald (fun k => xs.getD k 0) xs.length (x1 + 1)).bind (fun x345 => (ev_ald (fun k => xs.getD k 0) xs.length (x1 + 2)).bind (fun x346 => (ev_ald (fun k => xs.getD k 0) xs.length (x1 + 3)).bind (fun x347 => (f_X10_alone p344.2 0 x345 x346 x347).bind (fun p348 => (if p344.1 = p348.1 then (jn_L_law_2336_18 xs (p348.2) x1 (fun z0 z1 => lp_L_law_18 xs f z0 z1 kx) (kx)) else (some ((false, p348.2)))))))))))) else if (x4 &&& 63) = 15 then (ev_ald (fun k => xs.getD k 0) xs.length (x1 + 1)).bind (fun x330 => (ev_ald (fun k => xs.getD k 0) xs.length (x1 + 2)).bind (fun x331 => (ev_ald (fun k => xs.getD k 0) xs.length (x1 + 3)).bind (fun x332 => (ev_ald (fun k => xs.getD k 0) xs.length (x1 + 4)).bind (fun x333 => (f_X9_hard m2 0 x330 x331 x332 x333).bind (fun p334 => (ev_ald (fun k => xs.getD k 0) xs.length (x1 + 1)).bind (fun x335 => (ev_ald (fun k => xs.getD k 0) xs.length (x1 + 2)).bind (fun x336 => (ev_ald (fun k => xs.getD k 0) xs.length (x1 + 3)).bind (fun x337 => (ev_ald (fun k => xs.getD k 0) xs.length (x1 + 4)).bind (fun x338 => (f_X10_hard p334.2 0 x335 x336 x337 x338).bind (fun p339 => (if p334.1 = p339.1 then (jn_L_law_2336_18 xs (p339.2) x1 (fun z0 z1 => lp_L_law_18 xs f z0 z1 kx) (kx)) else (some ((false, p339.2)))))))))))))) else if (x4 &&& 63) = 16 then (ev_ald (fun k => xs.getD k 0) xs.length (x1 + 1)).bind (fun x321 => (ev_ald (fun k => xs.getD k 0) xs.length (x1 + 2)).bind (fun x322 => (ev_ald (fun k => xs.getD k 0) xs.length (x1 + 3)).bind (fun x323 => (f_X9_set m2 0 x321 x322 x323).bind (fun p324 => (ev_ald (fun k => xs.getD k 0) xs.length (x1 + 1)).bind (fun x325 => (ev_ald (fun k => xs.getD k 0) xs.length (x1 + 2)).bind (fun x326 => (ev_ald (fun k => xs.getD k 0) xs.length (x1 + 3)).bind (fun x327 => (f_X10_set p324.2 0 x325 x326 x327).bind (fun p328 => (if p324.1 = p328.1 then (jn_L_law_2336_18 xs (p328.2) x1 (fun z0 z1 => lp_L_law_18 xs f z0 z1 kx) (kx)) else (some ((false, p328.2)))))))))))) else if (x4 &&& 63) = 17 then (ev_ald (fun k => xs.getD k 0) xs.length (x1 + 1)).bind (fun x310 => (ev_ald (fun k => xs.getD k 0) xs.length (x1 + 2)).bind (fun x311 => (ev_ald (fun k => xs.getD k 0) xs.length (x1 + 3)).bind (fun x312 => (ev_ald (fun k => xs.getD k 0) xs.length (x1 + 4)).bind (fun x313 => (f_X9_worth m2 0 x310 x311 x312 x313).bind (fun p314 => (ev_ald (fun k => xs.getD k 0) xs.length (x1 + 1)).bind (fun x315 => (ev_ald (fun k => xs.getD k 0) xs.length (x1 + 2)).bind (fun x316 => (ev_ald (fun k => xs.getD k 0) xs.length (x1 + 3)).bind (fun x317 => (ev_ald (fun k => xs.getD k 0) xs.length (x1 + 4)).bind (fun x318 => (f_X10_worth p314.2 0 x315 x316 x317 x318).bind (fun p319 => (if p314.1 = p319.1 then (jn_L_law_2336_18 xs (p319.2) x1 (fun z0 z1 => lp_L_law_18 xs f z0 z1 kx) (kx)) else (some ((false, p319.2)))))))))))))) else if (x4 &&& 63) = 18 then (ev_ald (fun k => xs.getD k 0) xs.length (x1 + 1)).bind (fun x299 => (ev_ald (fun k => xs.getD k 0) xs.length (x1 + 2)).bind (fun x300 => (ev_ald (fun k => xs.getD k 0) xs.length (x1 + 3)).bind (fun x301 => (ev_ald (fun k => xs.getD k 0) xs.length (x1 + 4)).bind (fun x302 => (f_X9_night m2 0 x299 x300 x301 x302).bind (fun p303 => (ev_ald (fun k => xs.getD k 0) xs.length (x1 + 1)).bind (fun x304 => (ev_ald (fun k => xs.getD k 0) xs.length (x1 + 2)).bind (fun x305 => (ev_ald (fun k => xs.getD k 0) xs.length (x1 + 3)).bind (fun x306 => (ev_ald (fun k => xs.getD k 0) xs.length (x1 + 4)).bind (fun x307 => (f_X10_night p303.2 0 x304 x305 x306 x307).bind (fun p308 => (if p303.1 = p308.1 then (jn_L_law_2336_18 xs (p308.2) x1 (fun z0 z1 => lp_L_law_18 xs f z0 z1 kx) (kx)) else (some ((false, p308.2)))))))))))))) else if (x4 &&& 63) = 19 then (ev_ald (fun k => xs.getD k 0) xs.length (x1 + 1)).bind (fun x288 => (ev_ald (fun k => xs.getD k 0) xs.length (x1 + 2)).bind (fun x289 => (ev_ald (fun k => xs.getD k 0) xs.length (x1 + 3)).bind (fun x290 => (ev_ald (fun k => xs.getD k 0) xs.length (x1 + 4)).bind (fun x291 => (f_X9_cloud m2 0 x288 x289 x290 x291).bind (fun p292 => (ev_ald (fun k => xs.getD k 0) xs.length (x1 + 1)).bind (fun x293 => (ev_ald (fun k => xs.getD k 0) xs.length (x1 + 2)).bind (fun x294 => (ev_ald (fun k => xs.getD k 0) xs.length (x1 + 3)).bind (fun x295 => (ev_ald (fun k => xs.getD k 0) xs.length (x1 + 4)).bind (fun x296 => (f_X10_cloud p292.2 0 x293 x294 x295 x296).bind (fun p297 => (if p292.1 = p297.1 then (jn_L_law_2336_18 xs (p297.2) x1 (fun z0 z1 => lp_L_law_18 xs f z0 z1 kx) (kx)) else (some ((false, p297.2)))))))))))))) else if (x4 &&& 63) = 20 then (ev_ald (fun k => xs.getD k 0) xs.length (x1 + 1)).bind (fun x277 => (ev_ald (fun k => xs.getD k 0) xs.length (x1 + 2)).bind (fun x278 => (ev_ald (fun k => xs.getD k 0) xs.length (x1 + 3)).bind (fun x279 => (ev_ald (fun k => xs.getD k 0) xs.length (x1 + 4)).bind (fun x280 => (f_X9_coarse m2 0 x277 x278 x279 x280).bind (fun p281 => (ev_ald (fun k => xs.getD k 0) xs.length (x1 + 1)).bind (fun x282 => (ev_ald (fun k => xs.getD k 0) xs.length (x1 + 2)).bind (fun x283 => (ev_ald (fun k => xs.getD k 0) xs.length (x1 + 3)).bind (fun x284 => (ev_ald (fun k => xs.getD k 0) xs.length (x1 + 4)).bind (fun x285 => (f_X10_coarse p281.2 0 x282 x283 x284 x285).bind (fun p286 => (if p281.1 = p286.1 then (jn_L_law_2336_18 xs (p286.2) x1 (fun z0 z1 => lp_L_law_18 xs f z0 z1 kx) (kx)) else (some ((false, p286.2)))))))))))))) else if (x4 &&& 63) = 21 then (ev_ald (fun k => xs.getD k 0) xs.length (x1 + 1)).bind (fun x260 => (ev_ald (fun k => xs.getD k 0) xs.length (x1 + 2)).bind (fun x261 => (ev_ald (fun k => xs.getD k 0) xs.length (x1 + 3)).bind (fun x262 => (ev_ald (fun k => xs.getD k 0) xs.length (x1 + 4)).bind (fun x263 => (ev_ald (fun k => xs.getD k 0) xs.length (x1 + 5)).bind (fun x264 => ev_let (if x264 = 0 then 0 else 1 : Int32) (fun x266 => (f_X9_weary m2 0 x260 x261 x262 x263 x266).bind (fun p267 => (ev_ald (fun k => xs.getD k 0) xs.length (x1 + 1)).bind (fun x268 => (ev_ald (fun k => xs.getD k 0) xs.length (x1 + 2)).bind (fun x269 => (ev_ald (fun k => xs.getD k 0) xs.length (x1 + 3)).bind (fun x270 => (ev_ald (fun k => xs.getD k 0) xs.length (x1 + 4)).bind (fun x271 => (ev_ald (fun k => xs.getD k 0) xs.length (x1 + 5)).bind (fun x272 => ev_let (if x272 = 0 then 0 else 1 : Int32) (fun x274 => (f_X10_weary p267.2 0 x268 x269 x270 x271 x274).bind (fun p275 => (if p267.1 = p275.1 then (jn_L_law_2336_18 xs (p275.2) x1 (fun z0 z1 => lp_L_law_18 xs f z0 z1 kx) (kx)) else (some ((false, p275.2)))))))))))))))))) else if (x4 &&& 63) = 22 then (ev_ald (fun k => xs.getD k 0) xs.length (x1 + 1)).bind (fun x245 => (ev_ald (fun k => xs.getD k 0) xs.length (x1 + 2)).bind (fun x246 => (ev_ald (fun k => xs.getD k 0) xs.length (x1 + 3)).bind (fun x247 => (ev_ald (fun k => xs.getD k 0) xs.length (x1 + 4)).bind (fun x248 => ev_let (if x248 = 0 then 0 else 1 : Int32) (fun x250 => (f_X9_tries m2 0 x245 x246 x247 x250).bind (fun p251 => (ev_ald (fun k => xs.getD k 0) xs.length (x1 + 1)).bind (fun x252 => (ev_ald (fun k => xs.getD k 0) xs.length (x1 + 2)).bind (fun x253 => (ev_ald (fun k => xs.getD k 0) xs.length (x1 + 3)).bind (fun x254 => (ev_ald (fun k => xs.getD k 0) xs.length (x1 + 4)).bind (fun x255 => ev_let (if x255 = 0 then 0 else 1 : Int32) (fun x257 => (f_X10_tries p251.2 0 x252 x253 x254 x257).bind (fun p258 => (if p251.1 = p258.1 then (jn_L_law_2336_18 xs (p258.2) x1 (fun z0 z1 => lp_L_law_18 xs f z0 z1 kx) (kx)) else (some ((false, p258.2)))))))))))))))) else if (x4 &&& 63) = 23 then (ev_ald (fun k => xs.getD k 0) xs.length (x1 + 1)).bind (fun x234 => (ev_ald (fun k => xs.getD k 0) xs.length (x1 + 2)).bind (fun x235 => (ev_ald (fun k => xs.getD k 0) xs.length (x1 + 3)).bind (fun x236 => (ev_ald (fun k => xs.getD k 0) xs.length (x1 + 4)).bind (fun x237 => (f_X9_learning m2 0 x234 x235 x236 x237).bind (fun p238 => (ev_ald (fun k => xs.getD k 0) xs.length (x1 + 1)).bind (fun x239 => (ev_ald (fun k => xs.getD k 0) xs.length (x1 + 2)).bind (fun x240 => (ev_ald (fun k => xs.getD k 0) xs.length (x1 + 3)).bind (fun x241 => (ev_ald (fun k => xs.getD k 0) xs.length (x1 + 4)).bind (fun x242 => (f_X10_learning p238.2 0 x239 x240 x241 x242).bind (fun p243 => (if p238.1 = p243.1 then (jn_L_law_2336_18 xs (p243.2) x1 (fun z0 z1 => lp_L_law_18 xs f z0 z1 kx) (kx)) else (some ((false, p243.2)))))))))))))) else if (x4 &&& 63) = 24 then (ev_ald (fun k => xs.getD k 0) xs.length (x1 + 1)).bind (fun x223 => (ev_ald (fun k => xs.getD k 0) xs.length (x1 + 2)).bind (fun x224 => (ev_ald (fun k => xs.getD k 0) xs.length (x1 + 3)).bind (fun x225 => (ev_ald (fun k => xs.getD k 0) xs.length (x1 + 4)).bind (fun x226 => (f_X9_steers m2 0 x223 x224 x225 x226).bind (fun p227 => (ev_ald (fun k => xs.getD k 0) xs.length (x1 + 1)).bind (fun x228 => (ev_ald (fun k => xs.getD k 0) xs.length (x1 + 2)).bind (fun x229 => (ev_ald (fun k => xs.getD k 0) xs.length (x1 + 3)).bind (fun x230 => (ev_ald (fun k => xs.getD k 0) xs.length (x1 + 4)).bind (fun x231 => (f_X10_steers p227.2 0 x228 x229 x230 x231).bind (fun p232 => (if p227.1 = p232.1 then (jn_L_law_2336_18 xs (p232.2) x1 (fun z0 z1 => lp_L_law_18 xs f z0 z1 kx) (kx)) else (some ((false, p232.2)))))))))))))) else if (x4 &&& 63) = 25 then (ev_ald (fun k => xs.getD k 0) xs.length (x1 + 1)).bind (fun x212 => (ev_ald (fun k => xs.getD k 0) xs.length (x1 + 2)).bind (fun x213 => (ev_ald (fun k => xs.getD k 0) xs.length (x1 + 3)).bind (fun x214 => (ev_ald (fun k => xs.getD k 0) xs.length (x1 + 4)).bind (fun x215 => (f_X9_change m2 0 x212 x213 x214 x215).bind (fun p216 => (ev_ald (fun k => xs.getD k 0) xs.length (x1 + 1)).bind (fun x217 => (ev_ald (fun k => xs.getD k 0) xs.length (x1 + 2)).bind (fun x218 => (ev_ald (fun k => xs.getD k 0) xs.length (x1 + 3)).bind (fun x219 => (ev_ald (fun k => xs.getD k 0) xs.length (x1 + 4)).bind (fun x220 => (f_X10_change p216.2 0 x217 x218 x219 x220).bind (fun p221 => (if p216.1 = p221.1 then (jn_L_law_2336_18 xs (p221.2) x1 (fun z0 z1 => lp_L_law_18 xs f z0 z1 kx) (kx)) else (some ((false, p221.2)))))))))))))) else if (x4 &&& 63) = 26 then (ev_ald (fun k => xs.getD k 0) xs.length (x1 + 1)).bind (fun x201 => (ev_ald (fun k => xs.getD k 0) xs.length (x1 + 2)).bind (fun x202 => (ev_ald (fun k => xs.getD k 0) xs.length (x1 + 3)).bind (fun x203 => (ev_ald (fun k => xs.getD k 0) xs.length (x1 + 4)).bind (fun x204 => (f_X9_order m2 0 x201 x202 x203 x204).bind (fun p205 => (ev_ald (fun k => xs.getD k 0) xs.length (x1 + 1)).bind (fun x206 => (ev_ald (fun k => xs.getD k 0) xs.length (x1 + 2)).bind (fun x207 => (ev_ald (fun k => xs.getD k 0) xs.length (x1 + 3)).bind (fun x208 => (ev_ald (fun k => xs.getD k 0) xs.length (x1 + 4)).bind (fun x209 => (f_X10_order p205.2 0 x206 x207 x208 x209).bind (fun p210 => (if p205.1 = p210.1 then (jn_L_law_2336_18 xs (p210.2) x1 (fun z0 z1 => lp_L_law_18 xs f z0 z1 kx) (kx)) else (some ((false, p210.2)))))))))))))) else if (x4 &&& 63) = 27 then (ev_ald (fun k => xs.getD k 0) xs.length (x1 + 1)).bind (fun x184 => (ev_ald (fun k => xs.getD k 0) xs.length (x1 + 2)).bind (fun x185 => (ev_ald (fun k => xs.getD k 0) xs.length (x1 + 3)).bind (fun x186 => (ev_ald (fun k => xs.getD k 0) xs.length (x1 + 4)).bind (fun x187 => (ev_ald (fun k => xs.getD k 0) xs.length (x1 + 5)).bind (fun x188 => ev_let (if x188 = 0 then 0 else 1 : Int32) (fun x190 => (f_X9_both m2 0 x184 x185 x186 x187 x190).bind (fun p191 => (ev_ald (fun k => xs.getD k 0) xs.length (x1 + 1)).bind (fun x192 => (ev_ald (fun k => xs.getD k 0) xs.length (x1 + 2)).bind (fun x193 => (ev_ald (fun k => xs.getD k 0) xs.length (x1 + 3)).bind (fun x194 => (ev_ald (fun k => xs.getD k 0) xs.length (x1 + 4)).bind (fun x195 => (ev_ald (fun k => xs.getD k 0) xs.length (x1 + 5)).bind (fun x196 => ev_let (if x196 = 0 then 0 else 1 : Int32) (fun x198 => (f_X10_both p191.2 0 x192 x193 x194 x195 x198).bind (fun p199 => (if p191.1 = p199.1 then (jn_L_law_2336_18 xs (p199.2) x1 (fun z0 z1 => lp_L_law_18 xs f z0 z1 kx) (kx)) else (some ((false, p199.2)))))))))))))))))) else if (x4 &&& 63) = 28 then (ev_ald (fun k => xs.getD k 0) xs.length (x1 + 1)).bind (fun x169 => (ev_ald (fun k => xs.getD k 0) xs.length (x1 + 2)).bind (fun x170 => (ev_ald (fun k => xs.getD k 0) xs.length (x1 + 3)).bind (fun x171 => (ev_ald (fun k => xs.getD k 0) xs.length (x1 + 4)).bind (fun x172 => ev_let (if x172 = 0 then 0 else 1 : Int32) (fun x174 => (f_X9_apart m2 0 x169 x170 x171 x174).bind (fun p175 => (ev_ald (fun k => xs.getD k 0) xs.length (x1 + 1)).bind (fun x176 => (ev_ald (fun k => xs.getD k 0) xs.length (x1 + 2)).bind (fun x177 => (ev_ald (fun k => xs.getD k 0) xs.length (x1 + 3)).bind (fun x178 => (ev_ald (fun k => xs.getD k 0) xs.length (x1 + 4)).bind (fun x179 => ev_let (if x179 = 0 then 0 else 1 : Int32) (fun x181 => (f_X10_apart p175.2 0 x176 x177 x178 x181).bind (fun p182 => (if p175.1 = p182.1 then (jn_L_law_2336_18 xs (p182.2) x1 (fun z0 z1 => lp_L_law_18 xs f z0 z1 kx) (kx)) else (some ((false, p182.2)))))))))))))))) else if (x4 &&& 63) = 29 then (ev_ald (fun k => xs.getD k 0) xs.length (x1 + 1)).bind (fun x162 => (ev_ald (fun k => xs.getD k 0) xs.length (x1 + 2)).bind (fun x163 => (f_X9_whose m2 0 x162 x163).bind (fun p164 => (ev_ald (fun k => xs.getD k 0) xs.length (x1 + 1)).bind (fun x165 => (ev_ald (fun k => xs.getD k 0) xs.length (x1 + 2)).bind (fun x166 => (f_X10_whose p164.2 0 x165 x166).bind (fun p167 => (if p164.1 = p167.1 then (jn_L_law_2336_18 xs (p167.2) x1 (fun z0 z1 => lp_L_law_18 xs f z0 z1 kx) (kx)) else (some ((false, p167.2)))))))))) else if (x4 &&& 63) = 30 then (ev_ald (fun k => xs.getD k 0) xs.length (x1 + 1)).bind (fun x153 => (ev_ald (fun k => xs.getD k 0) xs.length (x1 + 2)).bind (fun x154 => (ev_ald (fun k => xs.getD k 0) xs.length (x1 + 3)).bind (fun x155 => (f_X9_tells m2 0 x153 x154 x155).bind (fun p156 => (ev_ald (fun k => xs.getD k 0) xs.length (x1 + 1)).bind (fun x157 => (ev_ald (fun k => xs.getD k 0) xs.length (x1 + 2)).bind (fun x158 => (ev_ald (fun k => xs.getD k 0) xs.length (x1 + 3)).bind (fun x159 => (f_X10_tells p156.2 0 x157 x158 x159).bind (fun p160 => (if p156.1 = p160.1 then (jn_L_law_2336_18 xs (p160.2) x1 (fun z0 z1 => lp_L_law_18 xs f z0 z1 kx) (kx)) else (some ((false, p160.2)))))))))))) else if (x4 &&& 63) = 31 then (ev_ald (fun k => xs.getD k 0) xs.length (x1 + 1)).bind (fun x134 => (ev_ald (fun k => xs.getD k 0) xs.length (x1 + 2)).bind (fun x135 => (ev_ald (fun k => xs.getD k 0) xs.length (x1 + 3)).bind (fun x136 => (ev_ald (fun k => xs.getD k 0) xs.length (x1 + 4)).bind (fun x137 => (ev_ald (fun k => xs.getD k 0) xs.length (x1 + 5)).bind (fun x138 => (ev_ald (fun k => xs.getD k 0) xs.length (x1 + 6)).bind (fun x139 => ev_let (if x139 = 0 then 0 else 1 : Int32) (fun x141 => (f_X9_slipped m2 0 x134 x135 x136 x137 x138 x141).bind (fun p142 => (ev_ald (fun k => xs.getD k 0) xs.length (x1 + 1)).bind (fun x143 => (ev_ald (fun k => xs.getD k 0) xs.length (x1 + 2)).bind (fun x144 => (ev_ald (fun k => xs.getD k 0) xs.length (x1 + 3)).bind (fun x145 => (ev_ald (fun k => xs.getD k 0) xs.length (x1 + 4)).bind (fun x146 => (ev_ald (fun k => xs.getD k 0) xs.length (x1 + 5)).bind (fun x147 => (ev_ald (fun k => xs.getD k 0) xs.length (x1 + 6)).bind (fun x148 => ev_let (if x148 = 0 then 0 else 1 : Int32) (fun x150 => (f_X10_slipped p142.2 0 x143 x144 x145 x146 x147 x150).bind (fun p151 => (if p142.1 = p151.1 then (jn_L_law_2336_18 xs (p151.2) x1 (fun z0 z1 => lp_L_law_18 xs f z0 z1 kx) (kx)) else (some ((false, p151.2)))))))))))))))))))) else if (x4 &&& 63) = 32 then (ev_ald (fun k => xs.getD k 0) xs.length (x1 + 1)).bind (fun x123 => (ev_ald (fun k => xs.getD k 0) xs.length (x1 + 2)).bind (fun x124 => (ev_ald (fun k => xs.getD k 0) xs.length (x1 + 3)).bind (fun x125 => (ev_ald (fun k => xs.getD k 0) xs.length (x1 + 4)).bind (fun x126 => (f_X9_lead m2 0 x123 x124 x125 x126).bind (fun p127 => (ev_ald (fun k => xs.getD k 0) xs.length (x1 + 1)).bind (fun x128 => (ev_ald (fun k => xs.getD k 0) xs.length (x1 + 2)).bind (fun x129 => (ev_ald (fun k => xs.getD k 0) xs.length (x1 + 3)).bind (fun x130 => (ev_ald (fun k => xs.getD k 0) xs.length (x1 + 4)).bind (fun x131 => (f_X10_lead p127.2 0 x128 x129 x130 x131).bind (fun p132 => (if p127.1 = p132.1 then (jn_L_law_2336_18 xs (p132.2) x1 (fun z0 z1 => lp_L_law_18 xs f z0 z1 kx) (kx)) else (some ((false, p132.2)))))))))))))) else if (x4 &&& 63) = 33 then (ev_ald (fun k => xs.getD k 0) xs.length (x1 + 1)).bind (fun x110 => (ev_ald (fun k => xs.getD k 0) xs.length (x1 + 2)).bind (fun x111 => (ev_ald (fun k => xs.getD k 0) xs.length (x1 + 3)).bind (fun x112 => (ev_ald (fun k => xs.getD k 0) xs.length (x1 + 4)).bind (fun x113 => (ev_ald (fun k => xs.getD k 0) xs.length (x1 + 5)).bind (fun x114 => (f_X9_bound m2 0 x110 x111 x112 x113 x114).bind (fun p115 => (ev_ald (fun k => xs.getD k 0) xs.length (x1 + 1)).bind (fun x116 => (ev_ald (fun k => xs.getD k 0) xs.length (x1 + 2)).bind (fun x117 => (ev_ald (fun k => xs.getD k 0) xs.length (x1 + 3)).bind (fun x118 => (ev_ald (fun k => xs.getD k 0) xs.length (x1 + 4)).bind (fun x119 => (ev_ald (fun k => xs.getD k 0) xs.length (x1 + 5)).bind (fun x120 => (f_X10_bound p115.2 0 x116 x117 x118 x119 x120).bind (fun p121 => (if p115.1 = p121.1 then (jn_L_law_2336_18 xs (p121.2) x1 (fun z0 z1 => lp_L_law_18 xs f z0 z1 kx) (kx)) else (some ((false, p121.2)))))))))))))))) else if (x4 &&& 63) = 34 then (ev_ald (fun k => xs.getD k 0) xs.length (x1 + 1)).bind (fun x99 => (ev_ald (fun k => xs.getD k 0) xs.length (x1 + 2)).bind (fun x100 => (ev_ald (fun k => xs.getD k 0) xs.length (x1 + 3)).bind (fun x101 => (ev_ald (fun k => xs.getD k 0) xs.length (x1 + 4)).bind (fun x102 => (f_X9_first m2 0 x99 x100 x101 x102).bind (fun p103 => (ev_ald (fun k => xs.getD k 0) xs.length (x1 + 1)).bind (fun x104 => (ev_ald (fun k => xs.getD k 0) xs.length (x1 + 2)).bind (fun x105 => (ev_ald (fun k => xs.getD k 0) xs.length (x1 + 3)).bind (fun x106 => (ev_ald (fun k => xs.getD k 0) xs.length (x1 + 4)).bind (fun x107 => (f_X10_first p103.2 0 x104 x105 x106 x107).bind (fun p108 => (if p103.1 = p108.1 then (jn_L_law_2336_18 xs (p108.2) x1 (fun z0 z1 => lp_L_law_18 xs f z0 z1 kx) (kx)) else (some ((false, p108.2)))))))))))))) else if (x4 &&& 63) = 35 then (ev_ald (fun k => xs.getD k 0) xs.length (x1 + 1)).bind (fun x88 => (ev_ald (fun k => xs.getD k 0) xs.length (x1 + 2)).bind (fun x89 => (ev_ald (fun k => xs.getD k 0) xs.length (x1 + 3)).bind (fun x90 => (ev_ald (fun k => xs.getD k 0) xs.length (x1 + 4)).bind (fun x91 => (f_X9_better m2 0 x88 x89 x90 x91).bind (fun p92 => (ev_ald (fun k => xs.getD k 0) xs.length (x1 + 1)).bind (fun x93 => (ev_ald (fun k => xs.getD k 0) xs.length (x1 + 2)).bind (fun x94 => (ev_ald (fun k => xs.getD k 0) xs.length (x1 + 3)).bind (fun x95 => (ev_ald (fun k => xs.getD k 0) xs.length (x1 + 4)).bind (fun x96 => (f_X10_better p92.2 0 x93 x94 x95 x96).bind (fun p97 => (if p92.1 = p97.1 then (jn_L_law_2336_18 xs (p97.2) x1 (fun z0 z1 => lp_L_law_18 xs f z0 z1 kx) (kx)) else (some ((false, p97.2)))))))))))))) else if (x4 &&& 63) = 36 then (ev_ald (fun k => xs.getD k 0) xs.length (x1 + 1)).bind (fun x73 => (ev_ald (fun k => xs.getD k 0) xs.length (x1 + 2)).bind (fun x74 => (ev_ald (fun k => xs.getD k 0) xs.length (x1 + 3)).bind (fun x75 => (ev_ald (fun k => xs.getD k 0) xs.length (x1 + 4)).bind (fun x76 => (ev_ald (fun k => xs.getD k 0) xs.length (x1 + 5)).bind (fun x77 => (ev_ald (fun k => xs.getD k 0) xs.length (x1 + 6)).bind (fun x78 => (f_X9_reads m2 0 x73 x74 x75 x76 x77 x78).bind (fun p79 => (ev_ald (fun k => xs.getD k 0) xs.length (x1 + 1)).bind (fun x80 => (ev_ald (fun k => xs.getD k 0) xs.length (x1 + 2)).bind (fun x81 => (ev_ald (fun k => xs.getD k 0) xs.length (x1 + 3)).bind (fun x82 => (ev_ald (fun k => xs.getD k 0) xs.length (x1 + 4)).bind (fun x83 => (ev_ald (fun k => xs.getD k 0) xs.length (x1 + 5)).bind (fun x84 => (ev_ald (fun k => xs.getD k 0) xs.length (x1 + 6)).bind (fun x85 => (f_X10_reads p79.2 0 x80 x81 x82 x83 x84 x85).bind (fun p86 => (if p79.1 = p86.1 then (jn_L_law_2336_18 xs (p86.2) x1 (fun z0 z1 => lp_L_law_18 xs f z0 z1 kx) (kx)) else (some ((false, p86.2)))))))))))))))))) else if (x4 &&& 63) = 37 then (ev_ald (fun k => xs.getD k 0) xs.length (x1 + 1)).bind (fun x62 => (ev_ald (fun k => xs.getD k 0) xs.length (x1 + 2)).bind (fun x63 => (ev_ald (fun k => xs.getD k 0) xs.length (x1 + 3)).bind (fun x64 => (ev_ald (fun k => xs.getD k 0) xs.length (x1 + 4)).bind (fun x65 => (f_X9_parted m2 0 x62 x63 x64 x65).bind (fun p66 => (ev_ald (fun k => xs.getD k 0) xs.length (x1 + 1)).bind (fun x67 => (ev_ald (fun k => xs.getD k 0) xs.length (x1 + 2)).bind (fun x68 => (ev_ald (fun k => xs.getD k 0) xs.length (x1 + 3)).bind (fun x69 => (ev_ald (fun k => xs.getD k 0) xs.length (x1 + 4)).bind (fun x70 => (f_X10_parted p66.2 0 x67 x68 x69 x70).bind (fun p71 => (if p66.1 = p71.1 then (jn_L_law_2336_18 xs (p71.2) x1 (fun z0 z1 => lp_L_law_18 xs f z0 z1 kx) (kx)) else (some ((false, p71.2)))))))))))))) else if (x4 &&& 63) = 38 then (ev_ald (fun k => xs.getD k 0) xs.length (x1 + 1)).bind (fun x58 => (ev_ald (fun k => xs.getD k 0) xs.length (x1 + 1)).bind (fun x59 => (f_X10_count m2 0 x59).bind (fun p60 => (if (s_X9_count m2 0 x58) = p60.1 then (jn_L_law_2336_18 xs (p60.2) x1 (fun z0 z1 => lp_L_law_18 xs f z0 z1 kx) (kx)) else (some ((false, p60.2))))))) else if (x4 &&& 63) = 39 then (ev_ald (fun k => xs.getD k 0) xs.length (x1 + 1)).bind (fun x53 => (f_X9_image m2 0 x53).bind (fun p54 => (ev_ald (fun k => xs.getD k 0) xs.length (x1 + 1)).bind (fun x55 => (f_X10_image p54.2 0 x55).bind (fun p56 => (if (bi (p54.1)) = (bi (p56.1)) then (jn_L_law_2336_18 xs (p56.2) x1 (fun z0 z1 => lp_L_law_18 xs f z0 z1 kx) (kx)) else (some ((false, p56.2)))))))) else if (x4 &&& 63) = 40 then (ev_ald (fun k => xs.getD k 0) xs.length (x1 + 1)).bind (fun x48 => (f_X9_again m2 0 x48).bind (fun p49 => (ev_ald (fun k => xs.getD k 0) xs.length (x1 + 1)).bind (fun x50 => (f_X10_again p49.2 0 x50).bind (fun p51 => (if (bi (p49.1)) = (bi (p51.1)) then (jn_L_law_2336_18 xs (p51.2) x1 (fun z0 z1 => lp_L_law_18 xs f z0 z1 kx) (kx)) else (some ((false, p51.2)))))))) else (jn_L_law_2336_18 xs m2 x1 (fun z0 z1 => lp_L_law_18 xs f z0 z1 kx) (kx)))))
def f_L_law (xs : List Int32) (mF : ev_m) : Option (Bool × ev_m) :=
  (lp_L_law_18 xs  4000 0 mF (fun m489 => (some ((true, m489)))))
