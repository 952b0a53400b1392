/-! pure: the run, second by second, and what is told of it; S: a ship's row, D: a hand's row, as the reference has them -/
abbrev pu_Q : Type := (Nat → Int32) × (Nat → Int32) × (Nat → Int32) × (Nat → Int32) × Nat × Int32
abbrev pu_A : Type := Nat × Int32 × Int32
def pu_st (D : Nat → Int32) (t : Int32) : Nat → Nat → Bool
  | _, 0 => false
  | i, n + 1 => if t < D (10 + 2 * i) then pu_st D t (i + 1) n else (if D (11 + 2 * i) < t then pu_st D t (i + 1) n else true)
def pu_slow (D : Nat → Int32) (t : Int32) : Int32 := if D 6 = 0 then 0 else (if t / D 6 < 5 then t / D 6 else 5)
def pu_back (S D : Nat → Int32) (t : Int32) : Int32 := if pu_st D t 0 (D 9).toNatClampNeg = true then 0 else S 2 + pu_slow D t
def pu_ix (d b : Int32) : Int32 := if d < b then 0 else d - b
def pu_pt (D : Nat → Int32) (v : Int32) : Int32 := v - (v - v / D 4 * D 4)
def pu_see (S D H : Nat → Int32) (d t : Int32) : Int32 := pu_pt D (H (pu_ix d (pu_back S D t)).toNatClampNeg)
def pu_wa (S D : Nat → Int32) (sees goes sum t : Int32) : Int32 :=
  ev_let (pu_wi (((((-(D 0)) * sees) - (D 1 * goes)) - ((D 2 * sum) / 100)) / 100) (S 3)) (fun a => ev_let (if D 3 < pu_pl sees then a else 0) (fun b => ev_let (if D 8 = 1 then (if pu_sg goes * pu_sg sees < 0 then 0 else b) else b) (fun c => if D 5 < t then c else (-c))))
def pu_dr (x : Int32) : Int32 := (x * 1103515245) + 12345
def pu_rn (x : Int32) : Int32 := ((x.toUInt32 >>> ((16 : Int32).toUInt32 &&& Int32.toUInt32 31)).toInt32) - ((x.toUInt32 >>> ((16 : Int32).toUInt32 &&& Int32.toUInt32 31)).toInt32) / 100 * 100
def pu_ms (S D : Nat → Int32) (q : pu_Q) (a : pu_A) : Int32 := pu_see S D q.1 (nI q.2.2.2.2.1) (nI (a.1 + 1))
def pu_gs (S D : Nat → Int32) (q : pu_Q) (a : pu_A) : Int32 := if a.1 = 0 then 0 else pu_ms S D q a - a.2.2
def pu_mt (S D : Nat → Int32) (q : pu_Q) (a : pu_A) : pu_A := (a.1 + 1, pu_wi (a.2.1 + pu_ms S D q a) 9999, pu_ms S D q a)
def pu_w0 (S D : Nat → Int32) (q : pu_Q) (a : pu_A) : Int32 := pu_wa S D (pu_ms S D q a) (pu_gs S D q a) (pu_mt S D q a).2.1 (nI (a.1 + 1))
def pu_wt (S D : Nat → Int32) (q : pu_Q) (a : pu_A) : Int32 := if 0 < D 7 then (if pu_rn (pu_dr q.2.2.2.2.2) < D 7 then q.2.2.1 q.2.2.2.2.1 else pu_w0 S D q a) else pu_w0 S D q a
def pu_sd (D : Nat → Int32) (x : Int32) : Int32 := if 0 < D 7 then pu_dr x else x
/-- a second: RUDDER, PACE, HEADING -/
def pu_nr (S : Nat → Int32) (q : pu_Q) (want : Int32) : Int32 := q.2.2.1 q.2.2.2.2.1 + pu_wi (want - q.2.2.1 q.2.2.2.2.1) (S 4)
def pu_np (S : Nat → Int32) (q : pu_Q) (want : Int32) : Int32 := pu_wi (((((q.2.1 q.2.2.2.2.1 - ((q.2.1 q.2.2.2.2.1 * S 1) / 100)) + (S 0 * pu_nr S q want)) + S 6) + S (11 + q.2.2.2.2.1 % (S 10).toNatClampNeg)) - ((S 7 * q.1 q.2.2.2.2.1) / 100)) 9999
def pu_nh (S : Nat → Int32) (q : pu_Q) (want : Int32) : Int32 := pu_wi (q.1 q.2.2.2.2.1 + pu_np S q want) 18000
def pu_ps (S : Nat → Int32) (q : pu_Q) (want saw seed : Int32) : pu_Q := (upd q.1 (q.2.2.2.2.1 + 1) (pu_nh S q want), upd q.2.1 (q.2.2.2.2.1 + 1) (pu_np S q want), upd q.2.2.1 (q.2.2.2.2.1 + 1) (pu_nr S q want), upd q.2.2.2.1 (q.2.2.2.2.1 + 1) saw, q.2.2.2.2.1 + 1, seed)
def pu_1 (S D : Nat → Int32) (s : pu_Q × pu_A) : pu_Q × pu_A := (pu_ps S s.1 (pu_wt S D s.1 s.2) (pu_ms S D s.1 s.2) (pu_sd D s.1.2.2.2.2.2), pu_mt S D s.1 s.2)
def pu_go (S D : Nat → Int32) : Nat → pu_Q × pu_A → pu_Q × pu_A
  | 0, s => s
  | n + 1, s => pu_go S D n (pu_1 S D s)
def pu_steer (S D : Nat → Int32) (n : Nat) (q : pu_Q) : pu_Q := (pu_go S D n (q, (0, 0, 0))).1
def pu_free (S : Nat → Int32) : Nat → pu_Q → pu_Q
  | 0, q => q
  | n + 1, q => pu_free S n (pu_ps S q 0 0 q.2.2.2.2.2)
def pu_q0 (S : Nat → Int32) (seed : Int32) : pu_Q := (upd (fun _ => 0) 0 (S 8), upd (fun _ => 0) 0 (S 9), fun _ => 0, fun _ => 0, 0, seed)
/-- two at one wheel -/
def pu_2 (S D E : Nat → Int32) (s : pu_Q × pu_A × pu_A) : pu_Q × pu_A × pu_A :=
  ev_let (pu_wt S D s.1 s.2.1) (fun w1 => ev_let (s.1.1, s.1.2.1, s.1.2.2.1, s.1.2.2.2.1, s.1.2.2.2.2.1, pu_sd D s.1.2.2.2.2.2) (fun q1 => ev_let (pu_wt S E q1 s.2.2) (fun w2 => (pu_ps S q1 ((w1 + w2) / 2) 0 (pu_sd E q1.2.2.2.2.2), pu_mt S D s.1 s.2.1, pu_mt S E q1 s.2.2))))
def pu_go2 (S D E : Nat → Int32) : Nat → pu_Q × pu_A × pu_A → pu_Q × pu_A × pu_A
  | 0, s => s
  | n + 1, s => pu_go2 S D E n (pu_2 S D E s)
/-- what is told of a run -/
def pa_off (H : Nat → Int32) : Nat → Int64
  | 0 => 0
  | n + 1 => pa_off H n + (pu_pl (H (n + 1))).toInt64
def pa_tu (R : Nat → Int32) (n : Nat) : Int32 := pu_pl (R (n + 1) - R n)
def pa_wea (R : Nat → Int32) : Nat → Int32
  | 0 => 0
  | n + 1 => pa_wea R n + pa_tu R n
def pa_los (H : Nat → Int32) : Nat → Int64
  | 0 => 0
  | n + 1 => pa_los H n + ((H (n + 1)).toInt64 * (H (n + 1)).toInt64) / 1000
def pa_wid (H : Nat → Int32) : Nat → Int32
  | 0 => 0
  | n + 1 => if pa_wid H n < pu_pl (H (n + 1)) then pu_pl (H (n + 1)) else pa_wid H n
def pa_dri (H : Nat → Int32) : Nat → Int64
  | 0 => 0
  | n + 1 => pa_dri H n + (H (n + 1)).toInt64
def pa_sig (H : Nat → Int32) : Nat → Int32
  | 0 => pu_sg (H 0)
  | n + 1 => if pu_sg (H (n + 1)) = 0 then pa_sig H n else pu_sg (H (n + 1))
def pa_tim (H : Nat → Int32) : Nat → Nat
  | 0 => 0
  | n + 1 => if pu_sg (H (n + 1)) * pa_sig H n < 0 then pa_tim H n + 1 else pa_tim H n
/-- the last peak so far -/
def pa_top (H : Nat → Int32) : Nat → Int32
  | 0 => 0
  | n + 1 => ev_let (if pu_sg (H (n + 1)) * pa_sig H n < 0 then 0 else pa_top H n) (fun x => if x < pu_pl (H (n + 1)) then pu_pl (H (n + 1)) else x)
def pa_pk (H : Nat → Int32) : Nat → Nat → Int32
  | 0 => fun _ => 0
  | n + 1 => upd (pa_pk H n) (pa_tim H (n + 1)) (pa_top H (n + 1))
def pa_spk (R : Nat → Int32) : Nat → Int32
  | 0 => 0
  | n + 1 => pa_spk R n + (if 0 < pa_tu R n then 1 else 0)
def pa_sti (R : Nat → Int32) : Nat → Int32
  | 0 => 0
  | n + 1 => if 0 < pa_tu R n then 0 else pa_sti R n + 1
def pa_lng (R : Nat → Int32) : Nat → Int32
  | 0 => 0
  | n + 1 => if pa_lng R n < pa_sti R (n + 1) then pa_sti R (n + 1) else pa_lng R n
/-- rows that are alike up to n -/
def pa_al (H H' : Nat → Int32) (n : Nat) : Prop := ∀ k, k ≤ n → H k = H' k
theorem pa_al.pred {H H' : Nat → Int32} {n : Nat} (h : pa_al H H' (n + 1)) : pa_al H H' n := fun k hk => h k (by omega)
theorem pa_al.symm {H H' : Nat → Int32} {n : Nat} (h : pa_al H H' n) : pa_al H' H n := fun k hk => (h k hk).symm
theorem pa_al.upd (H : Nat → Int32) (n : Nat) (x : Int32) : pa_al (upd H (n + 1) x) H n := fun k hk => pk_un (by omega)
theorem pa_off_c {H H' : Nat → Int32} : ∀ {n}, pa_al H H' n → pa_off H n = pa_off H' n
  | 0, _ => rfl
  | n + 1, h => by rw [pa_off, pa_off, pa_off_c h.pred, h _ (Nat.le_refl _)]
theorem pa_tu_c {H H' : Nat → Int32} {n} (h : pa_al H H' (n + 1)) : pa_tu H n = pa_tu H' n := by
  unfold pa_tu
  rw [h _ (Nat.le_refl _), h n (by omega)]
theorem pa_wea_c {H H' : Nat → Int32} : ∀ {n}, pa_al H H' n → pa_wea H n = pa_wea H' n
  | 0, _ => rfl
  | n + 1, h => by rw [pa_wea, pa_wea, pa_wea_c h.pred, pa_tu_c h]
theorem pa_los_c {H H' : Nat → Int32} : ∀ {n}, pa_al H H' n → pa_los H n = pa_los H' n
  | 0, _ => rfl
  | n + 1, h => by rw [pa_los, pa_los, pa_los_c h.pred, h _ (Nat.le_refl _)]
theorem pa_wid_c {H H' : Nat → Int32} : ∀ {n}, pa_al H H' n → pa_wid H n = pa_wid H' n
  | 0, _ => rfl
  | n + 1, h => by rw [pa_wid, pa_wid, pa_wid_c h.pred, h _ (Nat.le_refl _)]
theorem pa_dri_c {H H' : Nat → Int32} : ∀ {n}, pa_al H H' n → pa_dri H n = pa_dri H' n
  | 0, _ => rfl
  | n + 1, h => by rw [pa_dri, pa_dri, pa_dri_c h.pred, h _ (Nat.le_refl _)]
theorem pa_sig_c {H H' : Nat → Int32} : ∀ {n}, pa_al H H' n → pa_sig H n = pa_sig H' n
  | 0, h => by rw [pa_sig, pa_sig, h 0 (Nat.le_refl _)]
  | n + 1, h => by rw [pa_sig, pa_sig, pa_sig_c h.pred, h _ (Nat.le_refl _)]
theorem pa_tim_c {H H' : Nat → Int32} : ∀ {n}, pa_al H H' n → pa_tim H n = pa_tim H' n
  | 0, _ => rfl
  | n + 1, h => by rw [pa_tim, pa_tim, pa_tim_c h.pred, pa_sig_c h.pred, h _ (Nat.le_refl _)]
theorem pa_top_c {H H' : Nat → Int32} : ∀ {n}, pa_al H H' n → pa_top H n = pa_top H' n
  | 0, _ => rfl
  | n + 1, h => by rw [pa_top, pa_top, pa_top_c h.pred, pa_sig_c h.pred, h _ (Nat.le_refl _)]
theorem pa_pk_c {H H' : Nat → Int32} : ∀ {n}, pa_al H H' n → pa_pk H n = pa_pk H' n
  | 0, _ => rfl
  | n + 1, h => by rw [pa_pk, pa_pk, pa_pk_c h.pred, pa_tim_c h, pa_top_c h]
theorem pa_spk_c {H H' : Nat → Int32} : ∀ {n}, pa_al H H' n → pa_spk H n = pa_spk H' n
  | 0, _ => rfl
  | n + 1, h => by rw [pa_spk, pa_spk, pa_spk_c h.pred, pa_tu_c h]
theorem pa_sti_c {H H' : Nat → Int32} : ∀ {n}, pa_al H H' n → pa_sti H n = pa_sti H' n
  | 0, _ => rfl
  | n + 1, h => by rw [pa_sti, pa_sti, pa_sti_c h.pred, pa_tu_c h]
theorem pa_lng_c {H H' : Nat → Int32} : ∀ {n}, pa_al H H' n → pa_lng H n = pa_lng H' n
  | 0, _ => rfl
  | n + 1, h => by rw [pa_lng, pa_lng, pa_lng_c h.pred, pa_sti_c h]
theorem pa_tim_le (H : Nat → Int32) : ∀ n, pa_tim H n ≤ n
  | 0 => Nat.le_refl 0
  | n + 1 => by
    have := pa_tim_le H n
    rw [pa_tim]
    split <;> omega
theorem pa_tim_s (H : Nat → Int32) (n : Nat) : pa_tim H n ≤ pa_tim H (n + 1) ∧ pa_tim H (n + 1) ≤ pa_tim H n + 1 := by
  rw [pa_tim]
  split <;> omega
theorem pa_pk_top (H : Nat → Int32) : ∀ n, pa_pk H n (pa_tim H n) = pa_top H n
  | 0 => rfl
  | n + 1 => by rw [pa_pk, pk_us]
/-- what the rows of a ship and of a hand keep to -/
def pu_okS (S : Nat → Int32) : Prop := (0 ≤ (S 2).toInt ∧ (S 2).toInt ≤ 9) ∧ (0 ≤ (S 3).toInt ∧ (S 3).toInt ≤ 35) ∧ (0 ≤ (S 4).toInt ∧ (S 4).toInt ≤ 35) ∧ (0 ≤ (S 5).toInt ∧ (S 5).toInt ≤ 99) ∧ (-999 ≤ (S 8).toInt ∧ (S 8).toInt ≤ 999) ∧ ∃ c : Nat, 1 ≤ c ∧ c ≤ 12 ∧ S 10 = nI c
def pu_okD (D : Nat → Int32) : Prop := (0 ≤ (D 3).toInt ∧ (D 3).toInt ≤ 999) ∧ (1 ≤ (D 4).toInt ∧ (D 4).toInt ≤ 999) ∧ (0 ≤ (D 6).toInt ∧ (D 6).toInt ≤ 999) ∧ (D 8 = 0 ∨ D 8 = 1) ∧ ∃ c : Nat, c ≤ 4 ∧ D 9 = nI c
