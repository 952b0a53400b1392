/-! lifted methods -/
set_option maxRecDepth 20000 in
set_option maxHeartbeats 4000000 in
theorem e_jn_X10_token_18_0 {G : ev_G} {Q : Option ev_V → ev_M → Prop} {R : Option (ev_m)} (hR : ∀ m0 : ev_m, (some (m0)) = R → Q none (ev_emb m0)) (hN : none ≠ R) {m10 : ev_m} {i6 : Nat} {kb : ev_m → Option (ev_m)} {kx : ev_m → Option (ev_m)}  (h : jn_X10_token_18_0 m10 i6 kb kx = R) (hkb : ∀ (m7' : ev_m), kb m7' = R → ev_E G K_X10_token B_X10_token (0, 0) 0 [some (vr 10 (i6)), none, none] [] (ev_emb m7') Q) (hkx : ∀ (m7' : ev_m), kx m7' = R → ev_E G K_X10_token B_X10_token (0, 0) 31 [some (vr 10 (i6)), none, none] [] (ev_emb m7') Q) : ev_E G K_X10_token B_X10_token (0, 0) 18 [some (vr 10 (i6)), none, none] [] (ev_emb m10) Q := by
  unfold jn_X10_token_18_0 at h
  refine ev_aload_0 (pc := 18) dX10_token_18 ?_
  refine ev_dup_r (pc := 19) dX10_token_19 ?_
  refine gt_X10_97 (pc := 20) rfl dX10_token_20 ?_
  refine ev_iconst (pc := 23) (v := 1) dX10_token_23 rfl ?_
  refine ev_iadd (pc := 24) dX10_token_24 ?_
  obtain ⟨m11, hm11, h⟩ := ev_letE h
  refine pt_X10_97 (pc := 25) rfl dX10_token_25 ?_
  refine ev_mem (pc := 28) hm11 ?_
  refine ev_goto (pc := 28) (tgt := 0) dX10_token_28 (by decide) ?_
  exact hkb _  h
set_option maxRecDepth 20000 in
set_option maxHeartbeats 4000000 in
theorem e_lp_X10_token_0 {G : ev_G} {Q : Option ev_V → ev_M → Prop} {R : Option (ev_m)} (hR : ∀ m0 : ev_m, (some (m0)) = R → Q none (ev_emb m0)) (hN : none ≠ R) {i6 : Nat} : ∀ (f : Nat) (m7 : ev_m) (kx : ev_m → Option (ev_m)) (h : lp_X10_token_0 i6 f m7 kx = R) (hk : ∀ (m7' : ev_m), kx m7' = R → ev_E G K_X10_token B_X10_token (0, 0) 31 [some (vr 10 (i6)), none, none] [] (ev_emb m7') Q), ev_E G K_X10_token B_X10_token (0, 0) 0 [some (vr 10 (i6)), none, none] [] (ev_emb m7) Q := by
  intro f
  induction f with
  | zero => intro m7 kx h hk; rw [lp_X10_token_0] at h; exact absurd h hN
  | succ f ih =>
    intro m7 kx h hk
    rw [lp_X10_token_0] at h
    refine ev_aload_0 (pc := 0) dX10_token_0 ?_
    obtain ⟨x8, hx8, h⟩ := ev_bindE hN h
    refine cl1_X10_103 (pc := 1) rfl dX10_token_1 (by decide) (Nat.le_of_ble_eq_true rfl) (c_X10_see hx8) ?_
    refine ev_bipush (pc := 4) (v := 10) dX10_token_4 (by decide) ?_
    refine ev_icc_eq (pc := 6) (tgt := 18) dX10_token_6 (by decide) (fun c9 => ?_) (fun c9 => ?_)
    · replace h := ev_ifp h c9
      exact e_jn_X10_token_18_0 hR hN h (fun _ h => ih _ kx h hk) hk
    · replace h := ev_ifn h c9
      refine ev_aload_0 (pc := 9) dX10_token_9 ?_
      obtain ⟨x12, hx12, h⟩ := ev_bindE hN h
      refine cl1_X10_103 (pc := 10) rfl dX10_token_10 (by decide) (Nat.le_of_ble_eq_true rfl) (c_X10_see hx12) ?_
      refine ev_bipush (pc := 13) (v := 32) dX10_token_13 (by decide) ?_
      refine ev_icc_ne (pc := 15) (tgt := 31) dX10_token_15 (by decide) (fun c13 => ?_) (fun c13 => ?_)
      · replace h := ev_ifn h c13
        exact hk _  h
      · replace h := ev_ifp h c13
        exact e_jn_X10_token_18_0 hR hN h (fun _ h => ih _ kx h hk) hk
set_option maxRecDepth 20000 in
set_option maxHeartbeats 4000000 in
theorem e_jn_X10_token_205_163 {G : ev_G} {Q : Option ev_V → ev_M → Prop} {R : Option (ev_m)} (hR : ∀ m0 : ev_m, (some (m0)) = R → Q none (ev_emb m0)) (hN : none ≠ R) {m36 : ev_m} {i27 : Nat} {x33 : Int32} {x34 : Int32} {i35 : Nat} {kb : Int32 → ev_m → Option (ev_m)} {kx : Int32 → ev_m → Option (ev_m)}  (h : jn_X10_token_205_163 m36 i27 x33 x34 i35 kb kx = R) (hkb : ∀ (x28' : Int32) (m29' : ev_m), kb x28' m29' = R → ev_E G K_X10_token B_X10_token (0, 0) 163 [some (vr 10 (i27)), none, some (vi (x28'))] [] (ev_emb m29') Q) (hkx : ∀ (x28' : Int32) (m29' : ev_m), kx x28' m29' = R → ev_E G K_X10_token B_X10_token (0, 0) 224 [some (vr 10 (i27)), none, some (vi (x28'))] [] (ev_emb m29') Q) : ev_E G K_X10_token B_X10_token (0, 0) 205 [some (vr 10 (i27)), none, some (vi (x33))] [vi (x34), vr 10 (i35)] (ev_emb m36) Q := by
  unfold jn_X10_token_205_163 at h
  obtain ⟨m37, hm37, h⟩ := ev_letE h
  refine pt_X10_117 (pc := 205) rfl dX10_token_205 ?_
  refine ev_mem (pc := 208) hm37 ?_
  refine ev_aload_0 (pc := 208) dX10_token_208 ?_
  refine ev_dup_r (pc := 209) dX10_token_209 ?_
  refine gt_X10_97 (pc := 210) rfl dX10_token_210 ?_
  refine ev_iconst (pc := 213) (v := 1) dX10_token_213 rfl ?_
  refine ev_iadd (pc := 214) dX10_token_214 ?_
  obtain ⟨m38, hm38, h⟩ := ev_letE h
  refine pt_X10_97 (pc := 215) rfl dX10_token_215 ?_
  refine ev_mem (pc := 218) hm38 ?_
  refine ev_iinc_2 (pc := 218) (y := x33 + 1) dX10_token_218 rfl (by decide) rfl ?_
  refine ev_goto (pc := 221) (tgt := 163) dX10_token_221 (by decide) ?_
  exact hkb _ _  h
set_option maxRecDepth 20000 in
set_option maxHeartbeats 4000000 in
theorem e_lp_X10_token_163 {G : ev_G} {Q : Option ev_V → ev_M → Prop} {R : Option (ev_m)} (hR : ∀ m0 : ev_m, (some (m0)) = R → Q none (ev_emb m0)) (hN : none ≠ R) {i27 : Nat} : ∀ (f : Nat) (x28 : Int32) (m29 : ev_m) (kx : Int32 → ev_m → Option (ev_m)) (h : lp_X10_token_163 i27 f x28 m29 kx = R) (hk : ∀ (x28' : Int32) (m29' : ev_m), kx x28' m29' = R → ev_E G K_X10_token B_X10_token (0, 0) 224 [some (vr 10 (i27)), none, some (vi (x28'))] [] (ev_emb m29') Q), ev_E G K_X10_token B_X10_token (0, 0) 163 [some (vr 10 (i27)), none, some (vi (x28))] [] (ev_emb m29) Q := by
  intro f
  induction f with
  | zero => intro x28 m29 kx h hk; rw [lp_X10_token_163] at h; exact absurd h hN
  | succ f ih =>
    intro x28 m29 kx h hk
    rw [lp_X10_token_163] at h
    refine ev_aload_0 (pc := 163) dX10_token_163 ?_
    obtain ⟨x30, hx30, h⟩ := ev_bindE hN h
    refine cl1_X10_103 (pc := 164) rfl dX10_token_164 (by decide) (Nat.le_of_ble_eq_true rfl) (c_X10_see hx30) ?_
    refine ev_bipush (pc := 167) (v := 48) dX10_token_167 (by decide) ?_
    refine ev_bipush (pc := 169) (v := 57) dX10_token_169 (by decide) ?_
    refine cl1_X10_89 (pc := 171) rfl dX10_token_171 (by decide) (Nat.le_of_ble_eq_true rfl) (c_X10_in m29 x30 48 57) ?_
    refine ev_ifb_eq (pc := 174) (tgt := 224) dX10_token_174 (by decide) (fun c31 => ?_) (fun c31 => ?_)
    · replace h := ev_ifn h c31
      exact hk _ _  h
    · replace h := ev_ifp h c31
      refine ev_aload_0 (pc := 177) dX10_token_177 ?_
      refine ev_iload_2 (pc := 178) dX10_token_178 ?_
      refine ev_iconst (pc := 179) (v := 4) dX10_token_179 rfl ?_
      refine ev_icc_ge (pc := 180) (tgt := 201) dX10_token_180 (by decide) (fun c32 => ?_) (fun c32 => ?_)
      · replace h := ev_ifn h c32
        refine ev_aload_0 (pc := 201) dX10_token_201 ?_
        refine gt_X10_117 (pc := 202) rfl dX10_token_202 ?_
        exact e_jn_X10_token_205_163 hR hN h (fun _ _ h => ih _ _ kx h hk) hk
      · replace h := ev_ifp h c32
        refine ev_bipush (pc := 183) (v := 10) dX10_token_183 (by decide) ?_
        refine ev_aload_0 (pc := 185) dX10_token_185 ?_
        refine gt_X10_117 (pc := 186) rfl dX10_token_186 ?_
        refine ev_imul (pc := 189) dX10_token_189 ?_
        refine ev_aload_0 (pc := 190) dX10_token_190 ?_
        obtain ⟨x39, hx39, h⟩ := ev_bindE hN h
        refine cl1_X10_103 (pc := 191) rfl dX10_token_191 (by decide) (Nat.le_of_ble_eq_true rfl) (c_X10_see hx39) ?_
        refine ev_iadd (pc := 194) dX10_token_194 ?_
        refine ev_bipush (pc := 195) (v := 48) dX10_token_195 (by decide) ?_
        refine ev_isub (pc := 197) dX10_token_197 ?_
        refine ev_goto (pc := 198) (tgt := 205) dX10_token_198 (by decide) ?_
        exact e_jn_X10_token_205_163 hR hN h (fun _ _ h => ih _ _ kx h hk) hk
set_option maxRecDepth 20000 in
set_option maxHeartbeats 4000000 in
theorem e_lp_X10_token_74 {G : ev_G} {Q : Option ev_V → ev_M → Prop} {R : Option (ev_m)} (hR : ∀ m0 : ev_m, (some (m0)) = R → Q none (ev_emb m0)) (hN : none ≠ R) {i45 : Nat} : ∀ (f : Nat) (x46 : Int32) (m47 : ev_m) (kx : Int32 → ev_m → Option (ev_m)) (h : lp_X10_token_74 i45 f x46 m47 kx = R) (hk : ∀ (x46' : Int32) (m47' : ev_m), kx x46' m47' = R → ev_E G K_X10_token B_X10_token (0, 0) 121 [some (vr 10 (i45)), none, some (vi (x46'))] [] (ev_emb m47') Q), ev_E G K_X10_token B_X10_token (0, 0) 74 [some (vr 10 (i45)), none, some (vi (x46))] [] (ev_emb m47) Q := by
  intro f
  induction f with
  | zero => intro x46 m47 kx h hk; rw [lp_X10_token_74] at h; exact absurd h hN
  | succ f ih =>
    intro x46 m47 kx h hk
    rw [lp_X10_token_74] at h
    refine ev_aload_0 (pc := 74) dX10_token_74 ?_
    obtain ⟨x48, hx48, h⟩ := ev_bindE hN h
    refine cl1_X10_103 (pc := 75) rfl dX10_token_75 (by decide) (Nat.le_of_ble_eq_true rfl) (c_X10_see hx48) ?_
    refine ev_bipush (pc := 78) (v := 97) dX10_token_78 (by decide) ?_
    refine ev_bipush (pc := 80) (v := 122) dX10_token_80 (by decide) ?_
    refine cl1_X10_89 (pc := 82) rfl dX10_token_82 (by decide) (Nat.le_of_ble_eq_true rfl) (c_X10_in m47 x48 97 122) ?_
    refine ev_ifb_eq (pc := 85) (tgt := 121) dX10_token_85 (by decide) (fun c49 => ?_) (fun c49 => ?_)
    · replace h := ev_ifn h c49
      exact hk _ _  h
    · replace h := ev_ifp h c49
      refine ev_aload_0 (pc := 88) dX10_token_88 ?_
      refine ev_aload_0 (pc := 89) dX10_token_89 ?_
      refine gt_X10_110 (pc := 90) rfl dX10_token_90 ?_
      refine ev_bipush (pc := 93) (v := 8) dX10_token_93 (by decide) ?_
      refine ev_lshl (pc := 95) dX10_token_95 ?_
      refine ev_aload_0 (pc := 96) dX10_token_96 ?_
      obtain ⟨x50, hx50, h⟩ := ev_bindE hN h
      refine cl1_X10_103 (pc := 97) rfl dX10_token_97 (by decide) (Nat.le_of_ble_eq_true rfl) (c_X10_see hx50) ?_
      refine ev_i2l (pc := 100) dX10_token_100 ?_
      refine ev_lor (pc := 101) dX10_token_101 ?_
      obtain ⟨m51, hm51, h⟩ := ev_letE h
      refine pt_X10_110 (pc := 102) rfl dX10_token_102 ?_
      refine ev_mem (pc := 105) hm51 ?_
      refine ev_aload_0 (pc := 105) dX10_token_105 ?_
      refine ev_dup_r (pc := 106) dX10_token_106 ?_
      refine gt_X10_97 (pc := 107) rfl dX10_token_107 ?_
      refine ev_iconst (pc := 110) (v := 1) dX10_token_110 rfl ?_
      refine ev_iadd (pc := 111) dX10_token_111 ?_
      obtain ⟨m52, hm52, h⟩ := ev_letE h
      refine pt_X10_97 (pc := 112) rfl dX10_token_112 ?_
      refine ev_mem (pc := 115) hm52 ?_
      refine ev_iinc_2 (pc := 115) (y := x46 + 1) dX10_token_115 rfl (by decide) rfl ?_
      refine ev_goto (pc := 118) (tgt := 74) dX10_token_118 (by decide) ?_
      exact ih _ _ kx h hk
set_option maxRecDepth 20000 in
set_option maxHeartbeats 4000000 in
theorem e_jn_X10_token_18 {G : ev_G} {Q : Option ev_V → ev_M → Prop} {R : Option (ev_m)} (hR : ∀ m0 : ev_m, (some (m0)) = R → Q none (ev_emb m0)) (hN : none ≠ R) {m4 : ev_m} {i3 : Nat} (h : jn_X10_token_18 m4 i3 = R) : ev_E G K_X10_token B_X10_token (0, 0) 18 [some (vr 10 (i3)), none, none] [] (ev_emb m4) Q := by
  unfold jn_X10_token_18 at h
  refine ev_aload_0 (pc := 18) dX10_token_18 ?_
  refine ev_dup_r (pc := 19) dX10_token_19 ?_
  refine gt_X10_97 (pc := 20) rfl dX10_token_20 ?_
  refine ev_iconst (pc := 23) (v := 1) dX10_token_23 rfl ?_
  refine ev_iadd (pc := 24) dX10_token_24 ?_
  obtain ⟨m5, hm5, h⟩ := ev_letE h
  refine pt_X10_97 (pc := 25) rfl dX10_token_25 ?_
  refine ev_mem (pc := 28) hm5 ?_
  refine ev_goto (pc := 28) (tgt := 0) dX10_token_28 (by decide) ?_
  refine e_lp_X10_token_0 hR hN 4000 _ _ h (fun m14 h => ?_)
  refine ev_aload_0 (pc := 31) dX10_token_31 ?_
  refine ev_aload_0 (pc := 32) dX10_token_32 ?_
  refine gt_X10_97 (pc := 33) rfl dX10_token_33 ?_
  obtain ⟨m15, hm15, h⟩ := ev_letE h
  refine pt_X10_107 (pc := 36) rfl dX10_token_36 ?_
  refine ev_mem (pc := 39) hm15 ?_
  refine ev_aload_0 (pc := 39) dX10_token_39 ?_
  obtain ⟨x16, hx16, h⟩ := ev_bindE hN h
  refine cl1_X10_103 (pc := 40) rfl dX10_token_40 (by decide) (Nat.le_of_ble_eq_true rfl) (c_X10_see hx16) ?_
  refine ev_istore_1 (pc := 43) dX10_token_43 (by decide) rfl ?_
  refine ev_aload_0 (pc := 44) dX10_token_44 ?_
  refine ev_lconst (pc := 45) (v := 0) dX10_token_45 rfl ?_
  obtain ⟨m17, hm17, h⟩ := ev_letE h
  refine pt_X10_110 (pc := 46) rfl dX10_token_46 ?_
  refine ev_mem (pc := 49) hm17 ?_
  refine ev_iconst (pc := 49) (v := 0) dX10_token_49 rfl ?_
  refine ev_istore_2 (pc := 50) dX10_token_50 (by decide) rfl ?_
  refine ev_iload_1 (pc := 51) dX10_token_51 ?_
  refine ev_ifc_ge (pc := 52) (tgt := 63) dX10_token_52 (by decide) (fun c18 => ?_) (fun c18 => ?_)
  · replace h := ev_ifn h c18
    refine ev_iload_1 (pc := 63) dX10_token_63 ?_
    refine ev_bipush (pc := 64) (v := 97) dX10_token_64 (by decide) ?_
    refine ev_bipush (pc := 66) (v := 122) dX10_token_66 (by decide) ?_
    refine cl1_X10_89 (pc := 68) rfl dX10_token_68 (by decide) (Nat.le_of_ble_eq_true rfl) (c_X10_in m17 x16 97 122) ?_
    refine ev_ifb_eq (pc := 71) (tgt := 147) dX10_token_71 (by decide) (fun c19 => ?_) (fun c19 => ?_)
    · replace h := ev_ifn h c19
      refine ev_iload_1 (pc := 147) dX10_token_147 ?_
      refine ev_bipush (pc := 148) (v := 48) dX10_token_148 (by decide) ?_
      refine ev_bipush (pc := 150) (v := 57) dX10_token_150 (by decide) ?_
      refine cl1_X10_89 (pc := 152) rfl dX10_token_152 (by decide) (Nat.le_of_ble_eq_true rfl) (c_X10_in m17 x16 48 57) ?_
      refine ev_ifb_eq (pc := 155) (tgt := 241) dX10_token_155 (by decide) (fun c20 => ?_) (fun c20 => ?_)
      · replace h := ev_ifn h c20
        refine ev_aload_0 (pc := 241) dX10_token_241 ?_
        refine ev_dup_r (pc := 242) dX10_token_242 ?_
        refine gt_X10_97 (pc := 243) rfl dX10_token_243 ?_
        refine ev_iconst (pc := 246) (v := 1) dX10_token_246 rfl ?_
        refine ev_iadd (pc := 247) dX10_token_247 ?_
        obtain ⟨m21, hm21, h⟩ := ev_letE h
        refine pt_X10_97 (pc := 248) rfl dX10_token_248 ?_
        refine ev_mem (pc := 251) hm21 ?_
        refine ev_aload_0 (pc := 251) dX10_token_251 ?_
        refine ev_iload_1 (pc := 252) dX10_token_252 ?_
        refine ev_bipush (pc := 253) (v := 59) dX10_token_253 (by decide) ?_
        obtain ⟨x24, hx24, h⟩ := ev_letE h
        have hJ1 : ev_E G K_X10_token B_X10_token (0, 0) 273 [some (vr 10 (i3)), some (vi (x16)), some (vi (0))] [vi (x24), vr 10 (i3)] (ev_emb m21) Q := by
          obtain ⟨m25, hm25, h⟩ := ev_letE h
          refine pt_X10_114 (pc := 273) rfl dX10_token_273 ?_
          refine ev_mem (pc := 276) hm25 ?_
          exact ev_vret (pc := 276) dX10_token_276 rfl (hR _ h)
        refine ev_icc_ne (pc := 255) (tgt := 262) dX10_token_255 (by decide) (fun c22 => ?_) (fun c22 => ?_)
        · refine ev_iload_1 (pc := 262) dX10_token_262 ?_
          refine ev_bipush (pc := 263) (v := 45) dX10_token_263 (by decide) ?_
          refine ev_icc_ne (pc := 265) (tgt := 272) dX10_token_265 (by decide) (fun c23 => ?_) (fun c23 => ?_)
          · refine ev_iconst (pc := 272) (v := 1) dX10_token_272 rfl ?_
            replace hx24 := ((hx24.trans (if_neg c22)).trans (if_neg c23))
            subst hx24
            exact hJ1
          · refine ev_iconst (pc := 268) (v := 5) dX10_token_268 rfl ?_
            refine ev_goto (pc := 269) (tgt := 273) dX10_token_269 (by decide) ?_
            replace hx24 := ((hx24.trans (if_neg c22)).trans (if_pos c23))
            subst hx24
            exact hJ1
        · refine ev_iconst (pc := 258) (v := 4) dX10_token_258 rfl ?_
          refine ev_goto (pc := 259) (tgt := 273) dX10_token_259 (by decide) ?_
          replace hx24 := (hx24.trans (if_pos c22))
          subst hx24
          exact hJ1
      · replace h := ev_ifp h c20
        refine ev_aload_0 (pc := 158) dX10_token_158 ?_
        refine ev_iconst (pc := 159) (v := 0) dX10_token_159 rfl ?_
        obtain ⟨m26, hm26, h⟩ := ev_letE h
        refine pt_X10_117 (pc := 160) rfl dX10_token_160 ?_
        refine ev_mem (pc := 163) hm26 ?_
        refine ev_E.forget (L' := [some (vr 10 (i3)), none, some (vi (0))]) ⟨rfl, ⟨rfl, trivial⟩⟩ ?_
        refine e_lp_X10_token_163 hR hN 4000 _ _ _ h (fun x40 m41 h => ?_)
        refine ev_aload_0 (pc := 224) dX10_token_224 ?_
        refine ev_iload_2 (pc := 225) dX10_token_225 ?_
        refine ev_iconst (pc := 226) (v := 4) dX10_token_226 rfl ?_
        obtain ⟨x43, hx43, h⟩ := ev_letE h
        have hJ2 : ev_E G K_X10_token B_X10_token (0, 0) 235 [some (vr 10 (i3)), none, some (vi (x40))] [vi (x43), vr 10 (i3)] (ev_emb m41) Q := by
          obtain ⟨m44, hm44, h⟩ := ev_letE h
          refine pt_X10_114 (pc := 235) rfl dX10_token_235 ?_
          refine ev_mem (pc := 238) hm44 ?_
          refine ev_goto (pc := 238) (tgt := 276) dX10_token_238 (by decide) ?_
          exact ev_vret (pc := 276) dX10_token_276 rfl (hR _ h)
        refine ev_icc_le (pc := 227) (tgt := 234) dX10_token_227 (by decide) (fun c42 => ?_) (fun c42 => ?_)
        · refine ev_iconst (pc := 234) (v := 3) dX10_token_234 rfl ?_
          replace hx43 := (hx43.trans (if_neg c42))
          subst hx43
          exact hJ2
        · refine ev_iconst (pc := 230) (v := 1) dX10_token_230 rfl ?_
          refine ev_goto (pc := 231) (tgt := 235) dX10_token_231 (by decide) ?_
          replace hx43 := (hx43.trans (if_pos c42))
          subst hx43
          exact hJ2
    · replace h := ev_ifp h c19
      refine ev_E.forget (L' := [some (vr 10 (i3)), none, some (vi (0))]) ⟨rfl, ⟨rfl, trivial⟩⟩ ?_
      refine e_lp_X10_token_74 hR hN 4000 _ _ _ h (fun x53 m54 h => ?_)
      refine ev_aload_0 (pc := 121) dX10_token_121 ?_
      refine ev_iload_2 (pc := 122) dX10_token_122 ?_
      refine ev_bipush (pc := 123) (v := 8) dX10_token_123 (by decide) ?_
      obtain ⟨y56, hy56, h⟩ := ev_letE h
      have hJ3 : ev_E G K_X10_token B_X10_token (0, 0) 136 [some (vr 10 (i3)), none, some (vi (x53))] [vl (y56), vr 10 (i3)] (ev_emb m54) Q := by
        obtain ⟨m57, hm57, h⟩ := ev_letE h
        refine pt_X10_110 (pc := 136) rfl dX10_token_136 ?_
        refine ev_mem (pc := 139) hm57 ?_
        refine ev_aload_0 (pc := 139) dX10_token_139 ?_
        refine ev_iconst (pc := 140) (v := 2) dX10_token_140 rfl ?_
        obtain ⟨m58, hm58, h⟩ := ev_letE h
        refine pt_X10_114 (pc := 141) rfl dX10_token_141 ?_
        refine ev_mem (pc := 144) hm58 ?_
        refine ev_goto (pc := 144) (tgt := 276) dX10_token_144 (by decide) ?_
        exact ev_vret (pc := 276) dX10_token_276 rfl (hR _ h)
      refine ev_icc_le (pc := 125) (tgt := 132) dX10_token_125 (by decide) (fun c55 => ?_) (fun c55 => ?_)
      · refine ev_aload_0 (pc := 132) dX10_token_132 ?_
        refine gt_X10_110 (pc := 133) rfl dX10_token_133 ?_
        replace hy56 := (hy56.trans (if_neg c55))
        subst hy56
        exact hJ3
      · refine ev_lconst (pc := 128) (v := 0) dX10_token_128 rfl ?_
        refine ev_goto (pc := 129) (tgt := 136) dX10_token_129 (by decide) ?_
        replace hy56 := (hy56.trans (if_pos c55))
        subst hy56
        exact hJ3
  · replace h := ev_ifp h c18
    refine ev_aload_0 (pc := 55) dX10_token_55 ?_
    refine ev_iconst (pc := 56) (v := 0) dX10_token_56 rfl ?_
    obtain ⟨m59, hm59, h⟩ := ev_letE h
    refine pt_X10_114 (pc := 57) rfl dX10_token_57 ?_
    refine ev_mem (pc := 60) hm59 ?_
    refine ev_goto (pc := 60) (tgt := 276) dX10_token_60 (by decide) ?_
    exact ev_vret (pc := 276) dX10_token_276 rfl (hR _ h)
set_option maxRecDepth 20000 in
set_option maxHeartbeats 4000000 in
theorem e_X10_token {G : ev_G} {Q : Option ev_V → ev_M → Prop} {R : Option (ev_m)} {mF : ev_m} (hR : ∀ m0 : ev_m, (some (m0)) = R → Q none (ev_emb m0)) (hN : none ≠ R) {i0 : Nat} (h : f_X10_token mF i0 = R) : ev_E G K_X10_token B_X10_token (0, 0) 0 [some (vr 10 (i0)), none, none] [] (ev_emb mF) Q := by
  unfold f_X10_token at h
  refine ev_aload_0 (pc := 0) dX10_token_0 ?_
  obtain ⟨x1, hx1, h⟩ := ev_bindE hN h
  refine cl1_X10_103 (pc := 1) rfl dX10_token_1 (by decide) (Nat.le_of_ble_eq_true rfl) (c_X10_see hx1) ?_
  refine ev_bipush (pc := 4) (v := 10) dX10_token_4 (by decide) ?_
  refine ev_icc_eq (pc := 6) (tgt := 18) dX10_token_6 (by decide) (fun c2 => ?_) (fun c2 => ?_)
  · replace h := ev_ifp h c2
    exact e_jn_X10_token_18 hR hN h
  · replace h := ev_ifn h c2
    refine ev_aload_0 (pc := 9) dX10_token_9 ?_
    obtain ⟨x60, hx60, h⟩ := ev_bindE hN h
    refine cl1_X10_103 (pc := 10) rfl dX10_token_10 (by decide) (Nat.le_of_ble_eq_true rfl) (c_X10_see hx60) ?_
    refine ev_bipush (pc := 13) (v := 32) dX10_token_13 (by decide) ?_
    refine ev_icc_ne (pc := 15) (tgt := 31) dX10_token_15 (by decide) (fun c61 => ?_) (fun c61 => ?_)
    · replace h := ev_ifn h c61
      refine ev_aload_0 (pc := 31) dX10_token_31 ?_
      refine ev_aload_0 (pc := 32) dX10_token_32 ?_
      refine gt_X10_97 (pc := 33) rfl dX10_token_33 ?_
      obtain ⟨m62, hm62, h⟩ := ev_letE h
      refine pt_X10_107 (pc := 36) rfl dX10_token_36 ?_
      refine ev_mem (pc := 39) hm62 ?_
      refine ev_aload_0 (pc := 39) dX10_token_39 ?_
      obtain ⟨x63, hx63, h⟩ := ev_bindE hN h
      refine cl1_X10_103 (pc := 40) rfl dX10_token_40 (by decide) (Nat.le_of_ble_eq_true rfl) (c_X10_see hx63) ?_
      refine ev_istore_1 (pc := 43) dX10_token_43 (by decide) rfl ?_
      refine ev_aload_0 (pc := 44) dX10_token_44 ?_
      refine ev_lconst (pc := 45) (v := 0) dX10_token_45 rfl ?_
      obtain ⟨m64, hm64, h⟩ := ev_letE h
      refine pt_X10_110 (pc := 46) rfl dX10_token_46 ?_
      refine ev_mem (pc := 49) hm64 ?_
      refine ev_iconst (pc := 49) (v := 0) dX10_token_49 rfl ?_
      refine ev_istore_2 (pc := 50) dX10_token_50 (by decide) rfl ?_
      refine ev_iload_1 (pc := 51) dX10_token_51 ?_
      refine ev_ifc_ge (pc := 52) (tgt := 63) dX10_token_52 (by decide) (fun c65 => ?_) (fun c65 => ?_)
      · replace h := ev_ifn h c65
        refine ev_iload_1 (pc := 63) dX10_token_63 ?_
        refine ev_bipush (pc := 64) (v := 97) dX10_token_64 (by decide) ?_
        refine ev_bipush (pc := 66) (v := 122) dX10_token_66 (by decide) ?_
        refine cl1_X10_89 (pc := 68) rfl dX10_token_68 (by decide) (Nat.le_of_ble_eq_true rfl) (c_X10_in m64 x63 97 122) ?_
        refine ev_ifb_eq (pc := 71) (tgt := 147) dX10_token_71 (by decide) (fun c66 => ?_) (fun c66 => ?_)
        · replace h := ev_ifn h c66
          refine ev_iload_1 (pc := 147) dX10_token_147 ?_
          refine ev_bipush (pc := 148) (v := 48) dX10_token_148 (by decide) ?_
          refine ev_bipush (pc := 150) (v := 57) dX10_token_150 (by decide) ?_
          refine cl1_X10_89 (pc := 152) rfl dX10_token_152 (by decide) (Nat.le_of_ble_eq_true rfl) (c_X10_in m64 x63 48 57) ?_
          refine ev_ifb_eq (pc := 155) (tgt := 241) dX10_token_155 (by decide) (fun c67 => ?_) (fun c67 => ?_)
          · replace h := ev_ifn h c67
            refine ev_aload_0 (pc := 241) dX10_token_241 ?_
            refine ev_dup_r (pc := 242) dX10_token_242 ?_
            refine gt_X10_97 (pc := 243) rfl dX10_token_243 ?_
            refine ev_iconst (pc := 246) (v := 1) dX10_token_246 rfl ?_
            refine ev_iadd (pc := 247) dX10_token_247 ?_
            obtain ⟨m68, hm68, h⟩ := ev_letE h
            refine pt_X10_97 (pc := 248) rfl dX10_token_248 ?_
            refine ev_mem (pc := 251) hm68 ?_
            refine ev_aload_0 (pc := 251) dX10_token_251 ?_
            refine ev_iload_1 (pc := 252) dX10_token_252 ?_
            refine ev_bipush (pc := 253) (v := 59) dX10_token_253 (by decide) ?_
            obtain ⟨x71, hx71, h⟩ := ev_letE h
            have hJ4 : ev_E G K_X10_token B_X10_token (0, 0) 273 [some (vr 10 (i0)), some (vi (x63)), some (vi (0))] [vi (x71), vr 10 (i0)] (ev_emb m68) Q := by
              obtain ⟨m72, hm72, h⟩ := ev_letE h
              refine pt_X10_114 (pc := 273) rfl dX10_token_273 ?_
              refine ev_mem (pc := 276) hm72 ?_
              exact ev_vret (pc := 276) dX10_token_276 rfl (hR _ h)
            refine ev_icc_ne (pc := 255) (tgt := 262) dX10_token_255 (by decide) (fun c69 => ?_) (fun c69 => ?_)
            · refine ev_iload_1 (pc := 262) dX10_token_262 ?_
              refine ev_bipush (pc := 263) (v := 45) dX10_token_263 (by decide) ?_
              refine ev_icc_ne (pc := 265) (tgt := 272) dX10_token_265 (by decide) (fun c70 => ?_) (fun c70 => ?_)
              · refine ev_iconst (pc := 272) (v := 1) dX10_token_272 rfl ?_
                replace hx71 := ((hx71.trans (if_neg c69)).trans (if_neg c70))
                subst hx71
                exact hJ4
              · refine ev_iconst (pc := 268) (v := 5) dX10_token_268 rfl ?_
                refine ev_goto (pc := 269) (tgt := 273) dX10_token_269 (by decide) ?_
                replace hx71 := ((hx71.trans (if_neg c69)).trans (if_pos c70))
                subst hx71
                exact hJ4
            · refine ev_iconst (pc := 258) (v := 4) dX10_token_258 rfl ?_
              refine ev_goto (pc := 259) (tgt := 273) dX10_token_259 (by decide) ?_
              replace hx71 := (hx71.trans (if_pos c69))
              subst hx71
              exact hJ4
          · replace h := ev_ifp h c67
            refine ev_aload_0 (pc := 158) dX10_token_158 ?_
            refine ev_iconst (pc := 159) (v := 0) dX10_token_159 rfl ?_
            obtain ⟨m73, hm73, h⟩ := ev_letE h
            refine pt_X10_117 (pc := 160) rfl dX10_token_160 ?_
            refine ev_mem (pc := 163) hm73 ?_
            refine ev_E.forget (L' := [some (vr 10 (i0)), none, some (vi (0))]) ⟨rfl, ⟨rfl, trivial⟩⟩ ?_
            refine e_lp_X10_token_163 hR hN 4000 _ _ _ h (fun x77 m78 h => ?_)
            refine ev_aload_0 (pc := 224) dX10_token_224 ?_
            refine ev_iload_2 (pc := 225) dX10_token_225 ?_
            refine ev_iconst (pc := 226) (v := 4) dX10_token_226 rfl ?_
            obtain ⟨x80, hx80, h⟩ := ev_letE h
            have hJ5 : ev_E G K_X10_token B_X10_token (0, 0) 235 [some (vr 10 (i0)), none, some (vi (x77))] [vi (x80), vr 10 (i0)] (ev_emb m78) Q := by
              obtain ⟨m81, hm81, h⟩ := ev_letE h
              refine pt_X10_114 (pc := 235) rfl dX10_token_235 ?_
              refine ev_mem (pc := 238) hm81 ?_
              refine ev_goto (pc := 238) (tgt := 276) dX10_token_238 (by decide) ?_
              exact ev_vret (pc := 276) dX10_token_276 rfl (hR _ h)
            refine ev_icc_le (pc := 227) (tgt := 234) dX10_token_227 (by decide) (fun c79 => ?_) (fun c79 => ?_)
            · refine ev_iconst (pc := 234) (v := 3) dX10_token_234 rfl ?_
              replace hx80 := (hx80.trans (if_neg c79))
              subst hx80
              exact hJ5
            · refine ev_iconst (pc := 230) (v := 1) dX10_token_230 rfl ?_
              refine ev_goto (pc := 231) (tgt := 235) dX10_token_231 (by decide) ?_
              replace hx80 := (hx80.trans (if_pos c79))
              subst hx80
              exact hJ5
        · replace h := ev_ifp h c66
          refine ev_E.forget (L' := [some (vr 10 (i0)), none, some (vi (0))]) ⟨rfl, ⟨rfl, trivial⟩⟩ ?_
          refine e_lp_X10_token_74 hR hN 4000 _ _ _ h (fun x85 m86 h => ?_)
          refine ev_aload_0 (pc := 121) dX10_token_121 ?_
          refine ev_iload_2 (pc := 122) dX10_token_122 ?_
          refine ev_bipush (pc := 123) (v := 8) dX10_token_123 (by decide) ?_
          obtain ⟨y88, hy88, h⟩ := ev_letE h
          have hJ6 : ev_E G K_X10_token B_X10_token (0, 0) 136 [some (vr 10 (i0)), none, some (vi (x85))] [vl (y88), vr 10 (i0)] (ev_emb m86) Q := by
            obtain ⟨m89, hm89, h⟩ := ev_letE h
            refine pt_X10_110 (pc := 136) rfl dX10_token_136 ?_
            refine ev_mem (pc := 139) hm89 ?_
            refine ev_aload_0 (pc := 139) dX10_token_139 ?_
            refine ev_iconst (pc := 140) (v := 2) dX10_token_140 rfl ?_
            obtain ⟨m90, hm90, h⟩ := ev_letE h
            refine pt_X10_114 (pc := 141) rfl dX10_token_141 ?_
            refine ev_mem (pc := 144) hm90 ?_
            refine ev_goto (pc := 144) (tgt := 276) dX10_token_144 (by decide) ?_
            exact ev_vret (pc := 276) dX10_token_276 rfl (hR _ h)
          refine ev_icc_le (pc := 125) (tgt := 132) dX10_token_125 (by decide) (fun c87 => ?_) (fun c87 => ?_)
          · refine ev_aload_0 (pc := 132) dX10_token_132 ?_
            refine gt_X10_110 (pc := 133) rfl dX10_token_133 ?_
            replace hy88 := (hy88.trans (if_neg c87))
            subst hy88
            exact hJ6
          · refine ev_lconst (pc := 128) (v := 0) dX10_token_128 rfl ?_
            refine ev_goto (pc := 129) (tgt := 136) dX10_token_129 (by decide) ?_
            replace hy88 := (hy88.trans (if_pos c87))
            subst hy88
            exact hJ6
      · replace h := ev_ifp h c65
        refine ev_aload_0 (pc := 55) dX10_token_55 ?_
        refine ev_iconst (pc := 56) (v := 0) dX10_token_56 rfl ?_
        obtain ⟨m91, hm91, h⟩ := ev_letE h
        refine pt_X10_114 (pc := 57) rfl dX10_token_57 ?_
        refine ev_mem (pc := 60) hm91 ?_
        refine ev_goto (pc := 60) (tgt := 276) dX10_token_60 (by decide) ?_
        exact ev_vret (pc := 276) dX10_token_276 rfl (hR _ h)
    · replace h := ev_ifp h c61
      exact e_jn_X10_token_18 hR hN h
theorem c_X10_token {G : ev_G} {mF : ev_m} {i0 : Nat} {r : ev_m} (h : f_X10_token mF i0 = some r) : ev_CF G K_X10_token B_X10_token [vr 10 (i0)] mF none r :=
  ev_Ct_of rfl rfl (Nat.le_of_ble_eq_true rfl) (e_X10_token (R := some r) (fun m0 q => by cases q; exact ⟨rfl, rfl⟩) (fun q => by cases q) h)
set_option maxRecDepth 20000 in
set_option maxHeartbeats 4000000 in
theorem e_X10_stops {G : ev_G} {Q : Option ev_V → ev_M → Prop} {R : Bool × ev_m} {mF : ev_m} (hR : ∀ (x0 : Bool) (m0 : ev_m), (x0, m0) = R → Q (some (vi (bi x0))) (ev_emb m0)) {i0 : Nat} (h : s_X10_stops mF i0 = R) : ev_E G K_X10_stops B_X10_stops (0, 0) 0 [some (vr 10 (i0))] [] (ev_emb mF) Q := by
  unfold s_X10_stops at h
  refine ev_aload_0 (pc := 0) dX10_stops_0 ?_
  refine ev_aload_0 (pc := 1) dX10_stops_1 ?_
  refine gt_X10_107 (pc := 2) rfl dX10_stops_2 ?_
  obtain ⟨m1, hm1, h⟩ := ev_letE h
  refine pt_X10_120 (pc := 5) rfl dX10_stops_5 ?_
  refine ev_mem (pc := 8) hm1 ?_
  refine ev_iconst (pc := 8) (v := 0) dX10_stops_8 rfl ?_
  exact ev_iret (pc := 9) dX10_stops_9 rfl rfl (hR _ _ h)
theorem c_X10_stops {G : ev_G} (mF : ev_m) (i0 : Nat) : ev_CF G K_X10_stops B_X10_stops [vr 10 (i0)] mF (some (vi (bi ((s_X10_stops mF i0).1)))) (s_X10_stops mF i0).2 :=
  ev_Ct_of rfl rfl (Nat.le_of_ble_eq_true rfl) (e_X10_stops (R := s_X10_stops mF i0) (fun x0 m0 q => ⟨by rw [← q], by rw [← q]⟩) rfl)
set_option maxRecDepth 20000 in
set_option maxHeartbeats 4000000 in
theorem e_jn_X10_later_31 {G : ev_G} {Q : Option ev_V → ev_M → Prop} {R : ev_m} (hR : ∀ m0 : ev_m, m0 = R → Q none (ev_emb m0)) {m5 : ev_m} {i2 : Nat} {x3 : Int32} {x4 : Int32} (h : jn_X10_later_31 m5 i2 x3 x4 = R) : ev_E G K_X10_later B_X10_later (0, 0) 31 [some (vr 10 (i2)), some (vi (x3)), some (vi (x4))] [] (ev_emb m5) Q := by
  unfold jn_X10_later_31 at h
  refine ev_aload_0 (pc := 31) dX10_later_31 ?_
  refine ev_iload_1 (pc := 32) dX10_later_32 ?_
  obtain ⟨m6, hm6, h⟩ := ev_letE h
  refine pt_X10_123 (pc := 33) rfl dX10_later_33 ?_
  refine ev_mem (pc := 36) hm6 ?_
  refine ev_aload_0 (pc := 36) dX10_later_36 ?_
  refine ev_iload_2 (pc := 37) dX10_later_37 ?_
  obtain ⟨m7, hm7, h⟩ := ev_letE h
  refine pt_X10_126 (pc := 38) rfl dX10_later_38 ?_
  refine ev_mem (pc := 41) hm7 ?_
  exact ev_vret (pc := 41) dX10_later_41 rfl (hR _ h)
set_option maxRecDepth 20000 in
set_option maxHeartbeats 4000000 in
theorem e_X10_later {G : ev_G} {Q : Option ev_V → ev_M → Prop} {R : ev_m} {mF : ev_m} (hR : ∀ m0 : ev_m, m0 = R → Q none (ev_emb m0)) {i0 : Nat} {x1_ : Int32} {x2_ : Int32} (h : s_X10_later mF i0 x1_ x2_ = R) : ev_E G K_X10_later B_X10_later (0, 0) 0 [some (vr 10 (i0)), some (vi (x1_)), some (vi (x2_))] [] (ev_emb mF) Q := by
  unfold s_X10_later at h
  refine ev_aload_0 (pc := 0) dX10_later_0 ?_
  refine gt_X10_123 (pc := 1) rfl dX10_later_1 ?_
  refine ev_ifc_eq (pc := 4) (tgt := 31) dX10_later_4 (by decide) (fun c1 => ?_) (fun c1 => ?_)
  · replace h := ev_ifp h c1
    exact e_jn_X10_later_31 hR h
  · replace h := ev_ifn h c1
    refine ev_iload_2 (pc := 7) dX10_later_7 ?_
    refine ev_aload_0 (pc := 8) dX10_later_8 ?_
    refine gt_X10_126 (pc := 9) rfl dX10_later_9 ?_
    refine ev_icc_lt (pc := 12) (tgt := 31) dX10_later_12 (by decide) (fun c8 => ?_) (fun c8 => ?_)
    · replace h := ev_ifp h c8
      exact e_jn_X10_later_31 hR h
    · replace h := ev_ifn h c8
      refine ev_iload_2 (pc := 15) dX10_later_15 ?_
      refine ev_aload_0 (pc := 16) dX10_later_16 ?_
      refine gt_X10_126 (pc := 17) rfl dX10_later_17 ?_
      refine ev_icc_ne (pc := 20) (tgt := 41) dX10_later_20 (by decide) (fun c9 => ?_) (fun c9 => ?_)
      · replace h := ev_ifn h c9
        exact ev_vret (pc := 41) dX10_later_41 rfl (hR _ h)
      · replace h := ev_ifp h c9
        refine ev_iload_1 (pc := 23) dX10_later_23 ?_
        refine ev_aload_0 (pc := 24) dX10_later_24 ?_
        refine gt_X10_123 (pc := 25) rfl dX10_later_25 ?_
        refine ev_icc_ge (pc := 28) (tgt := 41) dX10_later_28 (by decide) (fun c10 => ?_) (fun c10 => ?_)
        · replace h := ev_ifn h c10
          exact ev_vret (pc := 41) dX10_later_41 rfl (hR _ h)
        · replace h := ev_ifp h c10
          exact e_jn_X10_later_31 hR h
theorem c_X10_later {G : ev_G} (mF : ev_m) (i0 : Nat) (x1_ : Int32) (x2_ : Int32) : ev_CF G K_X10_later B_X10_later [vr 10 (i0), vi (x1_), vi (x2_)] mF none (s_X10_later mF i0 x1_ x2_) :=
  ev_Ct_of rfl rfl (Nat.le_of_ble_eq_true rfl) (e_X10_later (R := s_X10_later mF i0 x1_ x2_) (fun m0 q => ⟨rfl, by rw [← q]⟩) rfl)
set_option maxRecDepth 20000 in
set_option maxHeartbeats 4000000 in
theorem e_jn_X10_number_42 {G : ev_G} {Q : Option ev_V → ev_M → Prop} {R : Option (Bool × ev_m)} (hR : ∀ (x0 : Bool) (m0 : ev_m), (some ((x0, m0))) = R → Q (some (vi (bi x0))) (ev_emb m0)) (hN : none ≠ R) {m5 : ev_m} {i4 : Nat} (h : jn_X10_number_42 m5 i4 = R) : ev_E G K_X10_number B_X10_number (0, 0) 42 [some (vr 10 (i4)), none, none] [] (ev_emb m5) Q := by
  unfold jn_X10_number_42 at h
  refine ev_aload_0 (pc := 42) dX10_number_42 ?_
  obtain ⟨m6, hm6, h⟩ := ev_bindE hN h
  refine cl0_X10_140 (pc := 43) rfl dX10_number_43 (by decide) (Nat.le_of_ble_eq_true rfl) (c_X10_token hm6) ?_
  refine ev_iconst (pc := 46) (v := 1) dX10_number_46 rfl ?_
  exact ev_iret (pc := 47) dX10_number_47 rfl rfl (hR _ _ h)
set_option maxRecDepth 20000 in
set_option maxHeartbeats 4000000 in
theorem e_X10_number {G : ev_G} {Q : Option ev_V → ev_M → Prop} {R : Option (Bool × ev_m)} {mF : ev_m} (hR : ∀ (x0 : Bool) (m0 : ev_m), (some ((x0, m0))) = R → Q (some (vi (bi x0))) (ev_emb m0)) (hN : none ≠ R) {i0 : Nat} {x1_ : Int32} {x2_ : Int32} (h : f_X10_number mF i0 x1_ x2_ = R) : ev_E G K_X10_number B_X10_number (0, 0) 0 [some (vr 10 (i0)), some (vi (x1_)), some (vi (x2_))] [] (ev_emb mF) Q := by
  unfold f_X10_number at h
  refine ev_aload_0 (pc := 0) dX10_number_0 ?_
  refine gt_X10_114 (pc := 1) rfl dX10_number_1 ?_
  refine ev_iconst (pc := 4) (v := 3) dX10_number_4 rfl ?_
  refine ev_icc_eq (pc := 5) (tgt := 13) dX10_number_5 (by decide) (fun c1 => ?_) (fun c1 => ?_)
  · replace h := ev_ifp h c1
    refine ev_aload_0 (pc := 13) dX10_number_13 ?_
    refine ev_aload_0 (pc := 14) dX10_number_14 ?_
    refine gt_X10_117 (pc := 15) rfl dX10_number_15 ?_
    obtain ⟨m2, hm2, h⟩ := ev_letE h
    refine pt_X10_133 (pc := 18) rfl dX10_number_18 ?_
    refine ev_mem (pc := 21) hm2 ?_
    refine ev_aload_0 (pc := 21) dX10_number_21 ?_
    refine gt_X10_117 (pc := 22) rfl dX10_number_22 ?_
    refine ev_iload_1 (pc := 25) dX10_number_25 ?_
    refine ev_iload_2 (pc := 26) dX10_number_26 ?_
    refine cl1_X10_89 (pc := 27) rfl dX10_number_27 (by decide) (Nat.le_of_ble_eq_true rfl) (c_X10_in m2 (m2.1 10 i0 14) x1_ x2_) ?_
    refine ev_ifb_ne (pc := 30) (tgt := 42) dX10_number_30 (by decide) (fun c3 => ?_) (fun c3 => ?_)
    · replace h := ev_ifp h c3
      refine ev_E.forget (L' := [some (vr 10 (i0)), none, none]) ⟨rfl, trivial⟩ ?_
      exact e_jn_X10_number_42 hR hN h
    · replace h := ev_ifn h c3
      refine ev_aload_0 (pc := 33) dX10_number_33 ?_
      refine ev_iconst (pc := 34) (v := 2) dX10_number_34 rfl ?_
      refine ev_aload_0 (pc := 35) dX10_number_35 ?_
      refine gt_X10_107 (pc := 36) rfl dX10_number_36 ?_
      obtain ⟨m7, hm7, h⟩ := ev_letE h
      refine cl0_X10_136 (pc := 39) (fr := 0) (lo := 0) (m' := m7) rfl dX10_number_39 (by decide) (Nat.le_of_ble_eq_true rfl) (by rw [hm7]; exact c_X10_later m2 i0 2 (m2.1 10 i0 12)) ?_
      refine ev_E.forget (L' := [some (vr 10 (i0)), none, none]) ⟨rfl, trivial⟩ ?_
      exact e_jn_X10_number_42 hR hN h
  · replace h := ev_ifn h c1
    refine ev_aload_0 (pc := 8) dX10_number_8 ?_
    obtain ⟨p8, hp8, h⟩ := ev_letE h
    refine cl1_X10_129 (pc := 9) (fr := 0) (lo := 0) (m' := p8.2) (v := vi (bi (p8.1))) rfl dX10_number_9 (by decide) (Nat.le_of_ble_eq_true rfl) (by rw [hp8]; exact c_X10_stops mF i0) ?_
    exact ev_iret (pc := 12) dX10_number_12 rfl (ev_nb _) (hR _ _ h)
theorem c_X10_number {G : ev_G} {mF : ev_m} {i0 : Nat} {x1_ : Int32} {x2_ : Int32} {r : Bool × ev_m} (h : f_X10_number mF i0 x1_ x2_ = some r) : ev_CF G K_X10_number B_X10_number [vr 10 (i0), vi (x1_), vi (x2_)] mF (some (vi (bi (r.1)))) r.2 :=
  ev_Ct_of rfl rfl (Nat.le_of_ble_eq_true rfl) (e_X10_number (R := some r) (fun x0 m0 q => by cases q; exact ⟨rfl, rfl⟩) (fun q => by cases q) h)
set_option maxRecDepth 20000 in
set_option maxHeartbeats 4000000 in
theorem e_jn_X10_signed_22 {G : ev_G} {Q : Option ev_V → ev_M → Prop} {R : Option (Bool × ev_m)} (hR : ∀ (x0 : Bool) (m0 : ev_m), (some ((x0, m0))) = R → Q (some (vi (bi x0))) (ev_emb m0)) (hN : none ≠ R) {m7 : ev_m} {i4 : Nat} {x5 : Int32} {x6 : Int32} (h : jn_X10_signed_22 m7 i4 x5 x6 = R) : ev_E G K_X10_signed B_X10_signed (0, 0) 22 [some (vr 10 (i4)), some (vi (x5)), some (vi (x6)), none] [] (ev_emb m7) Q := by
  unfold jn_X10_signed_22 at h
  refine ev_aload_0 (pc := 22) dX10_signed_22 ?_
  refine ev_iconst (pc := 23) (v := 0) dX10_signed_23 rfl ?_
  refine ev_iload_1 (pc := 24) dX10_signed_24 ?_
  obtain ⟨p8, hp8, h⟩ := ev_bindE hN h
  refine cl1_X10_143 (pc := 25) rfl dX10_signed_25 (by decide) (Nat.le_of_ble_eq_true rfl) (c_X10_number hp8) ?_
  obtain ⟨x9, hx9, h⟩ := ev_letE h
  refine ev_topb (pc := 28) hx9 ?_
  refine ev_istore_3 (pc := 28) dX10_signed_28 (by decide) rfl ?_
  refine ev_aload_0 (pc := 29) dX10_signed_29 ?_
  refine ev_iload_2 (pc := 30) dX10_signed_30 ?_
  obtain ⟨x11, hx11, h⟩ := ev_letE h
  have hJ1 : ev_E G K_X10_signed B_X10_signed (0, 0) 46 [some (vr 10 (i4)), some (vi (x5)), some (vi (x6)), some (vi (bi (x9)))] [vi (x11), vr 10 (i4)] (ev_emb p8.2) Q := by
    obtain ⟨m12, hm12, h⟩ := ev_letE h
    refine pt_X10_133 (pc := 46) rfl dX10_signed_46 ?_
    refine ev_mem (pc := 49) hm12 ?_
    refine ev_iload_3 (pc := 49) dX10_signed_49 ?_
    exact ev_iret (pc := 50) dX10_signed_50 rfl (ev_nb _) (hR _ _ h)
  refine ev_ifc_eq (pc := 31) (tgt := 42) dX10_signed_31 (by decide) (fun c10 => ?_) (fun c10 => ?_)
  · refine ev_aload_0 (pc := 42) dX10_signed_42 ?_
    refine gt_X10_133 (pc := 43) rfl dX10_signed_43 ?_
    replace hx11 := (hx11.trans (if_pos c10))
    subst hx11
    exact hJ1
  · refine ev_aload_0 (pc := 34) dX10_signed_34 ?_
    refine gt_X10_133 (pc := 35) rfl dX10_signed_35 ?_
    refine ev_ineg (pc := 38) dX10_signed_38 ?_
    refine ev_goto (pc := 39) (tgt := 46) dX10_signed_39 (by decide) ?_
    replace hx11 := (hx11.trans (if_neg c10))
    subst hx11
    exact hJ1
set_option maxRecDepth 20000 in
set_option maxHeartbeats 4000000 in
theorem e_X10_signed {G : ev_G} {Q : Option ev_V → ev_M → Prop} {R : Option (Bool × ev_m)} {mF : ev_m} (hR : ∀ (x0 : Bool) (m0 : ev_m), (some ((x0, m0))) = R → Q (some (vi (bi x0))) (ev_emb m0)) (hN : none ≠ R) {i0 : Nat} {x1_ : Int32} (h : f_X10_signed mF i0 x1_ = R) : ev_E G K_X10_signed B_X10_signed (0, 0) 0 [some (vr 10 (i0)), some (vi (x1_)), none, none] [] (ev_emb mF) Q := by
  unfold f_X10_signed at h
  refine ev_aload_0 (pc := 0) dX10_signed_0 ?_
  refine gt_X10_114 (pc := 1) rfl dX10_signed_1 ?_
  refine ev_iconst (pc := 4) (v := 5) dX10_signed_4 rfl ?_
  obtain ⟨x2, hx2, h⟩ := ev_letE h
  have hJ2 : ev_E G K_X10_signed B_X10_signed (0, 0) 13 [some (vr 10 (i0)), some (vi (x1_)), none, none] [vi (x2)] (ev_emb mF) Q := by
    refine ev_istore_2 (pc := 13) dX10_signed_13 (by decide) rfl ?_
    refine ev_iload_2 (pc := 14) dX10_signed_14 ?_
    refine ev_ifc_eq (pc := 15) (tgt := 22) dX10_signed_15 (by decide) (fun c3 => ?_) (fun c3 => ?_)
    · replace h := ev_ifp h c3
      exact e_jn_X10_signed_22 hR hN h
    · replace h := ev_ifn h c3
      refine ev_aload_0 (pc := 18) dX10_signed_18 ?_
      obtain ⟨m13, hm13, h⟩ := ev_bindE hN h
      refine cl0_X10_140 (pc := 19) rfl dX10_signed_19 (by decide) (Nat.le_of_ble_eq_true rfl) (c_X10_token hm13) ?_
      exact e_jn_X10_signed_22 hR hN h
  refine ev_icc_ne (pc := 5) (tgt := 12) dX10_signed_5 (by decide) (fun c1 => ?_) (fun c1 => ?_)
  · refine ev_iconst (pc := 12) (v := 0) dX10_signed_12 rfl ?_
    replace hx2 := (hx2.trans (if_neg c1))
    subst hx2
    exact hJ2
  · refine ev_iconst (pc := 8) (v := 1) dX10_signed_8 rfl ?_
    refine ev_goto (pc := 9) (tgt := 13) dX10_signed_9 (by decide) ?_
    replace hx2 := (hx2.trans (if_pos c1))
    subst hx2
    exact hJ2
theorem c_X10_signed {G : ev_G} {mF : ev_m} {i0 : Nat} {x1_ : Int32} {r : Bool × ev_m} (h : f_X10_signed mF i0 x1_ = some r) : ev_CF G K_X10_signed B_X10_signed [vr 10 (i0), vi (x1_)] mF (some (vi (bi (r.1)))) r.2 :=
  ev_Ct_of rfl rfl (Nat.le_of_ble_eq_true rfl) (e_X10_signed (R := some r) (fun x0 m0 q => by cases q; exact ⟨rfl, rfl⟩) (fun q => by cases q) h)
set_option maxRecDepth 20000 in
set_option maxHeartbeats 4000000 in
theorem e_jn_X10_into_31 {G : ev_G} {Q : Option ev_V → ev_M → Prop} {R : Option (Bool × ev_m)} (hR : ∀ (x0 : Bool) (m0 : ev_m), (some ((x0, m0))) = R → Q (some (vi (bi x0))) (ev_emb m0)) (hN : none ≠ R) {m8 : ev_m} {x5 : Bool} {x6 : Int32} {x7 : Int32} (h : jn_X10_into_31 m8 x5 x6 x7 = R) : ev_E G K_X10_into B_X10_into (0, 0) 31 [none, none, none, none, some (vi (bi (x5)))] [vi (x6), vi (x7), vr 39 (0)] (ev_emb m8) Q := by
  unfold jn_X10_into_31 at h
  obtain ⟨m9, hm9, h⟩ := ev_bindE hN h
  refine ev_iast1 (pc := 31) rfl (by decide) (by decide) rfl hm9 dX10_into_31 ?_
  refine ev_iload_4 (pc := 32) dX10_into_32 ?_
  exact ev_iret (pc := 34) dX10_into_34 rfl (ev_nb _) (hR _ _ h)
set_option maxRecDepth 20000 in
set_option maxHeartbeats 4000000 in
theorem e_X10_into {G : ev_G} {Q : Option ev_V → ev_M → Prop} {R : Option (Bool × ev_m)} {mF : ev_m} (hR : ∀ (x0 : Bool) (m0 : ev_m), (some ((x0, m0))) = R → Q (some (vi (bi x0))) (ev_emb m0)) (hN : none ≠ R) {i0 : Nat} {x1_ : Int32} {x2_ : Int32} {x3_ : Int32} (h : f_X10_into mF i0 x1_ x2_ x3_ = R) : ev_E G K_X10_into B_X10_into (0, 0) 0 [some (vr 10 (i0)), some (vi (x1_)), some (vi (x2_)), some (vi (x3_)), none] [] (ev_emb mF) Q := by
  unfold f_X10_into at h
  refine ev_aload_0 (pc := 0) dX10_into_0 ?_
  refine ev_iload_2 (pc := 1) dX10_into_1 ?_
  refine ev_iload_3 (pc := 2) dX10_into_2 ?_
  obtain ⟨p1, hp1, h⟩ := ev_bindE hN h
  refine cl1_X10_143 (pc := 3) rfl dX10_into_3 (by decide) (Nat.le_of_ble_eq_true rfl) (c_X10_number hp1) ?_
  obtain ⟨x2, hx2, h⟩ := ev_letE h
  refine ev_topb (pc := 6) hx2 ?_
  refine ev_istore_4 (pc := 6) dX10_into_6 (by decide) rfl ?_
  refine ev_aload_0 (pc := 8) dX10_into_8 ?_
  refine gt_X10_38 (pc := 9) rfl dX10_into_9 ?_
  refine ev_iload_1 (pc := 12) dX10_into_12 ?_
  refine ev_iload_4 (pc := 13) dX10_into_13 ?_
  refine ev_ifb_eq (pc := 15) (tgt := 25) dX10_into_15 (by decide) (fun c3 => ?_) (fun c3 => ?_)
  · replace h := ev_ifn h c3
    refine ev_aload_0 (pc := 25) dX10_into_25 ?_
    refine gt_X10_38 (pc := 26) rfl dX10_into_26 ?_
    refine ev_iload_1 (pc := 29) dX10_into_29 ?_
    obtain ⟨x4, hx4, h⟩ := ev_bindE hN h
    refine ev_iald1 (pc := 30) rfl (by decide) rfl hx4 dX10_into_30 ?_
    refine ev_E.forget (L' := [none, none, none, none, some (vi (bi (x2)))]) ⟨rfl, trivial⟩ ?_
    exact e_jn_X10_into_31 hR hN h
  · replace h := ev_ifp h c3
    refine ev_aload_0 (pc := 18) dX10_into_18 ?_
    refine gt_X10_133 (pc := 19) rfl dX10_into_19 ?_
    refine ev_goto (pc := 22) (tgt := 31) dX10_into_22 (by decide) ?_
    refine ev_E.forget (L' := [none, none, none, none, some (vi (bi (x2)))]) ⟨rfl, trivial⟩ ?_
    exact e_jn_X10_into_31 hR hN h
theorem c_X10_into {G : ev_G} {mF : ev_m} {i0 : Nat} {x1_ : Int32} {x2_ : Int32} {x3_ : Int32} {r : Bool × ev_m} (h : f_X10_into mF i0 x1_ x2_ x3_ = some r) : ev_CF G K_X10_into B_X10_into [vr 10 (i0), vi (x1_), vi (x2_), vi (x3_)] mF (some (vi (bi (r.1)))) r.2 :=
  ev_Ct_of rfl rfl (Nat.le_of_ble_eq_true rfl) (e_X10_into (R := some r) (fun x0 m0 q => by cases q; exact ⟨rfl, rfl⟩) (fun q => by cases q) h)
set_option maxRecDepth 20000 in
set_option maxHeartbeats 4000000 in
theorem e_jn_X10_signedInto_28 {G : ev_G} {Q : Option ev_V → ev_M → Prop} {R : Option (Bool × ev_m)} (hR : ∀ (x0 : Bool) (m0 : ev_m), (some ((x0, m0))) = R → Q (some (vi (bi x0))) (ev_emb m0)) (hN : none ≠ R) {m8 : ev_m} {x5 : Bool} {x6 : Int32} {x7 : Int32} (h : jn_X10_signedInto_28 m8 x5 x6 x7 = R) : ev_E G K_X10_signedInto B_X10_signedInto (0, 0) 28 [none, none, none, some (vi (bi (x5)))] [vi (x6), vi (x7), vr 39 (0)] (ev_emb m8) Q := by
  unfold jn_X10_signedInto_28 at h
  obtain ⟨m9, hm9, h⟩ := ev_bindE hN h
  refine ev_iast1 (pc := 28) rfl (by decide) (by decide) rfl hm9 dX10_signedInto_28 ?_
  refine ev_iload_3 (pc := 29) dX10_signedInto_29 ?_
  exact ev_iret (pc := 30) dX10_signedInto_30 rfl (ev_nb _) (hR _ _ h)
set_option maxRecDepth 20000 in
set_option maxHeartbeats 4000000 in
theorem e_X10_signedInto {G : ev_G} {Q : Option ev_V → ev_M → Prop} {R : Option (Bool × ev_m)} {mF : ev_m} (hR : ∀ (x0 : Bool) (m0 : ev_m), (some ((x0, m0))) = R → Q (some (vi (bi x0))) (ev_emb m0)) (hN : none ≠ R) {i0 : Nat} {x1_ : Int32} {x2_ : Int32} (h : f_X10_signedInto mF i0 x1_ x2_ = R) : ev_E G K_X10_signedInto B_X10_signedInto (0, 0) 0 [some (vr 10 (i0)), some (vi (x1_)), some (vi (x2_)), none] [] (ev_emb mF) Q := by
  unfold f_X10_signedInto at h
  refine ev_aload_0 (pc := 0) dX10_signedInto_0 ?_
  refine ev_iload_2 (pc := 1) dX10_signedInto_1 ?_
  obtain ⟨p1, hp1, h⟩ := ev_bindE hN h
  refine cl1_X10_147 (pc := 2) rfl dX10_signedInto_2 (by decide) (Nat.le_of_ble_eq_true rfl) (c_X10_signed hp1) ?_
  obtain ⟨x2, hx2, h⟩ := ev_letE h
  refine ev_topb (pc := 5) hx2 ?_
  refine ev_istore_3 (pc := 5) dX10_signedInto_5 (by decide) rfl ?_
  refine ev_aload_0 (pc := 6) dX10_signedInto_6 ?_
  refine gt_X10_38 (pc := 7) rfl dX10_signedInto_7 ?_
  refine ev_iload_1 (pc := 10) dX10_signedInto_10 ?_
  refine ev_iload_3 (pc := 11) dX10_signedInto_11 ?_
  refine ev_ifb_eq (pc := 12) (tgt := 22) dX10_signedInto_12 (by decide) (fun c3 => ?_) (fun c3 => ?_)
  · replace h := ev_ifn h c3
    refine ev_aload_0 (pc := 22) dX10_signedInto_22 ?_
    refine gt_X10_38 (pc := 23) rfl dX10_signedInto_23 ?_
    refine ev_iload_1 (pc := 26) dX10_signedInto_26 ?_
    obtain ⟨x4, hx4, h⟩ := ev_bindE hN h
    refine ev_iald1 (pc := 27) rfl (by decide) rfl hx4 dX10_signedInto_27 ?_
    refine ev_E.forget (L' := [none, none, none, some (vi (bi (x2)))]) ⟨rfl, trivial⟩ ?_
    exact e_jn_X10_signedInto_28 hR hN h
  · replace h := ev_ifp h c3
    refine ev_aload_0 (pc := 15) dX10_signedInto_15 ?_
    refine gt_X10_133 (pc := 16) rfl dX10_signedInto_16 ?_
    refine ev_goto (pc := 19) (tgt := 28) dX10_signedInto_19 (by decide) ?_
    refine ev_E.forget (L' := [none, none, none, some (vi (bi (x2)))]) ⟨rfl, trivial⟩ ?_
    exact e_jn_X10_signedInto_28 hR hN h
theorem c_X10_signedInto {G : ev_G} {mF : ev_m} {i0 : Nat} {x1_ : Int32} {x2_ : Int32} {r : Bool × ev_m} (h : f_X10_signedInto mF i0 x1_ x2_ = some r) : ev_CF G K_X10_signedInto B_X10_signedInto [vr 10 (i0), vi (x1_), vi (x2_)] mF (some (vi (bi (r.1)))) r.2 :=
  ev_Ct_of rfl rfl (Nat.le_of_ble_eq_true rfl) (e_X10_signedInto (R := some r) (fun x0 m0 q => by cases q; exact ⟨rfl, rfl⟩) (fun q => by cases q) h)
set_option maxRecDepth 20000 in
set_option maxHeartbeats 4000000 in
theorem e_jn_X10_list_83_0 {G : ev_G} {Q : Option ev_V → ev_M → Prop} {R : Option (Bool × ev_m)} (hR : ∀ (x0 : Bool) (m0 : ev_m), (some ((x0, m0))) = R → Q (some (vi (bi x0))) (ev_emb m0)) (hN : none ≠ R) {m33 : ev_m} {i20 : Nat} {x21 : Int32} {x22 : Int32} {x23 : Int32} {x24 : Int32} {kb : ev_m → Option (Bool × ev_m)} {kx : ev_m → Option (Bool × ev_m)}  (h : jn_X10_list_83_0 m33 i20 x21 x22 x23 x24 kb kx = R) (hkb : ∀ (m25' : ev_m), kb m25' = R → ev_E G K_X10_list B_X10_list (0, 0) 0 [some (vr 10 (i20)), some (vi (x21)), some (vi (x22)), some (vi (x23)), some (vi (x24))] [] (ev_emb m25') Q) (hkx : ∀ (m25' : ev_m), kx m25' = R → ev_E G K_X10_list B_X10_list (0, 0) 99 [none, none, none, none, none] [] (ev_emb m25') Q) : ev_E G K_X10_list B_X10_list (0, 0) 83 [some (vr 10 (i20)), some (vi (x21)), some (vi (x22)), some (vi (x23)), some (vi (x24))] [] (ev_emb m33) Q := by
  unfold jn_X10_list_83_0 at h
  refine ev_aload_0 (pc := 83) dX10_list_83 ?_
  refine gt_X10_114 (pc := 84) rfl dX10_list_84 ?_
  refine ev_iconst (pc := 87) (v := 3) dX10_list_87 rfl ?_
  refine ev_icc_eq (pc := 88) (tgt := 0) dX10_list_88 (by decide) (fun c34 => ?_) (fun c34 => ?_)
  · replace h := ev_ifp h c34
    exact hkb _  h
  · replace h := ev_ifn h c34
    refine ev_aload_0 (pc := 91) dX10_list_91 ?_
    refine gt_X10_114 (pc := 92) rfl dX10_list_92 ?_
    refine ev_iconst (pc := 95) (v := 5) dX10_list_95 rfl ?_
    refine ev_icc_eq (pc := 96) (tgt := 0) dX10_list_96 (by decide) (fun c35 => ?_) (fun c35 => ?_)
    · replace h := ev_ifp h c35
      exact hkb _  h
    · replace h := ev_ifn h c35
      refine ev_E.forget (L' := [none, none, none, none, none]) trivial ?_
      exact hkx _  h
set_option maxRecDepth 20000 in
set_option maxHeartbeats 4000000 in
theorem e_jn_X10_list_35_0 {G : ev_G} {Q : Option ev_V → ev_M → Prop} {R : Option (Bool × ev_m)} (hR : ∀ (x0 : Bool) (m0 : ev_m), (some ((x0, m0))) = R → Q (some (vi (bi x0))) (ev_emb m0)) (hN : none ≠ R) {m28 : ev_m} {i20 : Nat} {x21 : Int32} {x22 : Int32} {x23 : Int32} {x24 : Int32} {kb : ev_m → Option (Bool × ev_m)} {kx : ev_m → Option (Bool × ev_m)}  (h : jn_X10_list_35_0 m28 i20 x21 x22 x23 x24 kb kx = R) (hkb : ∀ (m25' : ev_m), kb m25' = R → ev_E G K_X10_list B_X10_list (0, 0) 0 [some (vr 10 (i20)), some (vi (x21)), some (vi (x22)), some (vi (x23)), some (vi (x24))] [] (ev_emb m25') Q) (hkx : ∀ (m25' : ev_m), kx m25' = R → ev_E G K_X10_list B_X10_list (0, 0) 99 [none, none, none, none, none] [] (ev_emb m25') Q) : ev_E G K_X10_list B_X10_list (0, 0) 35 [some (vr 10 (i20)), some (vi (x21)), some (vi (x22)), some (vi (x23)), some (vi (x24))] [] (ev_emb m28) Q := by
  unfold jn_X10_list_35_0 at h
  refine ev_aload_0 (pc := 35) dX10_list_35 ?_
  refine ev_iload_4 (pc := 36) dX10_list_36 ?_
  obtain ⟨p29, hp29, h⟩ := ev_bindE hN h
  refine cl1_X10_147 (pc := 38) rfl dX10_list_38 (by decide) (Nat.le_of_ble_eq_true rfl) (c_X10_signed hp29) ?_
  refine ev_ifb_ne (pc := 41) (tgt := 46) dX10_list_41 (by decide) (fun c30 => ?_) (fun c30 => ?_)
  · replace h := ev_ifp h c30
    refine ev_aload_0 (pc := 46) dX10_list_46 ?_
    refine gt_X10_38 (pc := 47) rfl dX10_list_47 ?_
    refine ev_iload_1 (pc := 50) dX10_list_50 ?_
    obtain ⟨x31, hx31, h⟩ := ev_bindE hN h
    refine ev_iald1 (pc := 51) rfl (by decide) rfl hx31 dX10_list_51 ?_
    refine ev_iload_3 (pc := 52) dX10_list_52 ?_
    refine ev_icc_ge (pc := 53) (tgt := 83) dX10_list_53 (by decide) (fun c32 => ?_) (fun c32 => ?_)
    · replace h := ev_ifn h c32
      exact e_jn_X10_list_83_0 hR hN h hkb hkx
    · replace h := ev_ifp h c32
      refine ev_aload_0 (pc := 56) dX10_list_56 ?_
      refine gt_X10_38 (pc := 57) rfl dX10_list_57 ?_
      refine ev_iload_2 (pc := 60) dX10_list_60 ?_
      refine ev_aload_0 (pc := 61) dX10_list_61 ?_
      refine gt_X10_38 (pc := 62) rfl dX10_list_62 ?_
      refine ev_iload_1 (pc := 65) dX10_list_65 ?_
      obtain ⟨x36, hx36, h⟩ := ev_bindE hN h
      refine ev_iald1 (pc := 66) rfl (by decide) rfl hx36 dX10_list_66 ?_
      refine ev_iadd (pc := 67) dX10_list_67 ?_
      refine ev_aload_0 (pc := 68) dX10_list_68 ?_
      refine gt_X10_133 (pc := 69) rfl dX10_list_69 ?_
      obtain ⟨m37, hm37, h⟩ := ev_bindE hN h
      refine ev_iast1 (pc := 72) rfl (by decide) (by decide) rfl hm37 dX10_list_72 ?_
      refine ev_aload_0 (pc := 73) dX10_list_73 ?_
      refine gt_X10_38 (pc := 74) rfl dX10_list_74 ?_
      refine ev_iload_1 (pc := 77) dX10_list_77 ?_
      refine ev_dup2_ri (pc := 78) dX10_list_78 ?_
      obtain ⟨x38, hx38, h⟩ := ev_bindE hN h
      refine ev_iald1 (pc := 79) rfl (by decide) rfl hx38 dX10_list_79 ?_
      refine ev_iconst (pc := 80) (v := 1) dX10_list_80 rfl ?_
      refine ev_iadd (pc := 81) dX10_list_81 ?_
      obtain ⟨m39, hm39, h⟩ := ev_bindE hN h
      refine ev_iast1 (pc := 82) rfl (by decide) (by decide) rfl hm39 dX10_list_82 ?_
      exact e_jn_X10_list_83_0 hR hN h hkb hkx
  · replace h := ev_ifn h c30
    refine ev_iconst (pc := 44) (v := 0) dX10_list_44 rfl ?_
    exact ev_iret (pc := 45) dX10_list_45 rfl rfl (hR _ _ h)
set_option maxRecDepth 20000 in
set_option maxHeartbeats 4000000 in
theorem e_jn_X10_list_26_0 {G : ev_G} {Q : Option ev_V → ev_M → Prop} {R : Option (Bool × ev_m)} (hR : ∀ (x0 : Bool) (m0 : ev_m), (some ((x0, m0))) = R → Q (some (vi (bi x0))) (ev_emb m0)) (hN : none ≠ R) {m41 : ev_m} {i20 : Nat} {x21 : Int32} {x22 : Int32} {x23 : Int32} {x24 : Int32} {kb : ev_m → Option (Bool × ev_m)} {kx : ev_m → Option (Bool × ev_m)}  (h : jn_X10_list_26_0 m41 i20 x21 x22 x23 x24 kb kx = R) (hkb : ∀ (m25' : ev_m), kb m25' = R → ev_E G K_X10_list B_X10_list (0, 0) 0 [some (vr 10 (i20)), some (vi (x21)), some (vi (x22)), some (vi (x23)), some (vi (x24))] [] (ev_emb m25') Q) (hkx : ∀ (m25' : ev_m), kx m25' = R → ev_E G K_X10_list B_X10_list (0, 0) 99 [none, none, none, none, none] [] (ev_emb m25') Q) : ev_E G K_X10_list B_X10_list (0, 0) 26 [some (vr 10 (i20)), some (vi (x21)), some (vi (x22)), some (vi (x23)), some (vi (x24))] [] (ev_emb m41) Q := by
  unfold jn_X10_list_26_0 at h
  refine ev_aload_0 (pc := 26) dX10_list_26 ?_
  refine ev_iconst (pc := 27) (v := 3) dX10_list_27 rfl ?_
  refine ev_aload_0 (pc := 28) dX10_list_28 ?_
  refine gt_X10_107 (pc := 29) rfl dX10_list_29 ?_
  obtain ⟨m42, hm42, h⟩ := ev_letE h
  refine cl0_X10_136 (pc := 32) (fr := 0) (lo := 0) (m' := m42) rfl dX10_list_32 (by decide) (Nat.le_of_ble_eq_true rfl) (by rw [hm42]; exact c_X10_later m41 i20 3 (m41.1 10 i20 12)) ?_
  exact e_jn_X10_list_35_0 hR hN h hkb hkx
set_option maxRecDepth 20000 in
set_option maxHeartbeats 4000000 in
theorem e_lp_X10_list_0 {G : ev_G} {Q : Option ev_V → ev_M → Prop} {R : Option (Bool × ev_m)} (hR : ∀ (x0 : Bool) (m0 : ev_m), (some ((x0, m0))) = R → Q (some (vi (bi x0))) (ev_emb m0)) (hN : none ≠ R) {i20 : Nat} {x21 : Int32} {x22 : Int32} {x23 : Int32} {x24 : Int32} : ∀ (f : Nat) (m25 : ev_m) (kx : ev_m → Option (Bool × ev_m)) (h : lp_X10_list_0 i20 x21 x22 x23 x24 f m25 kx = R) (hk : ∀ (m25' : ev_m), kx m25' = R → ev_E G K_X10_list B_X10_list (0, 0) 99 [none, none, none, none, none] [] (ev_emb m25') Q), ev_E G K_X10_list B_X10_list (0, 0) 0 [some (vr 10 (i20)), some (vi (x21)), some (vi (x22)), some (vi (x23)), some (vi (x24))] [] (ev_emb m25) Q := by
  intro f
  induction f with
  | zero => intro m25 kx h hk; rw [lp_X10_list_0] at h; exact absurd h hN
  | succ f ih =>
    intro m25 kx h hk
    rw [lp_X10_list_0] at h
    refine ev_aload_0 (pc := 0) dX10_list_0 ?_
    refine gt_X10_38 (pc := 1) rfl dX10_list_1 ?_
    refine ev_iload_1 (pc := 4) dX10_list_4 ?_
    obtain ⟨x26, hx26, h⟩ := ev_bindE hN h
    refine ev_iald1 (pc := 5) rfl (by decide) rfl hx26 dX10_list_5 ?_
    refine ev_iload_3 (pc := 6) dX10_list_6 ?_
    refine ev_icc_ne (pc := 7) (tgt := 35) dX10_list_7 (by decide) (fun c27 => ?_) (fun c27 => ?_)
    · replace h := ev_ifn h c27
      exact e_jn_X10_list_35_0 hR hN h (fun _ h => ih _ kx h hk) hk
    · replace h := ev_ifp h c27
      refine ev_aload_0 (pc := 10) dX10_list_10 ?_
      refine gt_X10_114 (pc := 11) rfl dX10_list_11 ?_
      refine ev_iconst (pc := 14) (v := 3) dX10_list_14 rfl ?_
      refine ev_icc_eq (pc := 15) (tgt := 26) dX10_list_15 (by decide) (fun c40 => ?_) (fun c40 => ?_)
      · replace h := ev_ifp h c40
        exact e_jn_X10_list_26_0 hR hN h (fun _ h => ih _ kx h hk) hk
      · replace h := ev_ifn h c40
        refine ev_aload_0 (pc := 18) dX10_list_18 ?_
        refine gt_X10_114 (pc := 19) rfl dX10_list_19 ?_
        refine ev_iconst (pc := 22) (v := 5) dX10_list_22 rfl ?_
        refine ev_icc_ne (pc := 23) (tgt := 35) dX10_list_23 (by decide) (fun c43 => ?_) (fun c43 => ?_)
        · replace h := ev_ifn h c43
          exact e_jn_X10_list_35_0 hR hN h (fun _ h => ih _ kx h hk) hk
        · replace h := ev_ifp h c43
          exact e_jn_X10_list_26_0 hR hN h (fun _ h => ih _ kx h hk) hk
set_option maxRecDepth 20000 in
set_option maxHeartbeats 4000000 in
theorem e_jn_X10_list_83 {G : ev_G} {Q : Option ev_V → ev_M → Prop} {R : Option (Bool × ev_m)} (hR : ∀ (x0 : Bool) (m0 : ev_m), (some ((x0, m0))) = R → Q (some (vi (bi x0))) (ev_emb m0)) (hN : none ≠ R) {m18 : ev_m} {i13 : Nat} {x14 : Int32} {x15 : Int32} {x16 : Int32} {x17 : Int32} (h : jn_X10_list_83 m18 i13 x14 x15 x16 x17 = R) : ev_E G K_X10_list B_X10_list (0, 0) 83 [some (vr 10 (i13)), some (vi (x14)), some (vi (x15)), some (vi (x16)), some (vi (x17))] [] (ev_emb m18) Q := by
  unfold jn_X10_list_83 at h
  refine ev_aload_0 (pc := 83) dX10_list_83 ?_
  refine gt_X10_114 (pc := 84) rfl dX10_list_84 ?_
  refine ev_iconst (pc := 87) (v := 3) dX10_list_87 rfl ?_
  refine ev_icc_eq (pc := 88) (tgt := 0) dX10_list_88 (by decide) (fun c19 => ?_) (fun c19 => ?_)
  · replace h := ev_ifp h c19
    refine e_lp_X10_list_0 hR hN 4000 _ _ h (fun m44 h => ?_)
    refine ev_iconst (pc := 99) (v := 1) dX10_list_99 rfl ?_
    exact ev_iret (pc := 100) dX10_list_100 rfl rfl (hR _ _ h)
  · replace h := ev_ifn h c19
    refine ev_aload_0 (pc := 91) dX10_list_91 ?_
    refine gt_X10_114 (pc := 92) rfl dX10_list_92 ?_
    refine ev_iconst (pc := 95) (v := 5) dX10_list_95 rfl ?_
    refine ev_icc_eq (pc := 96) (tgt := 0) dX10_list_96 (by decide) (fun c45 => ?_) (fun c45 => ?_)
    · replace h := ev_ifp h c45
      refine e_lp_X10_list_0 hR hN 4000 _ _ h (fun m52 h => ?_)
      refine ev_iconst (pc := 99) (v := 1) dX10_list_99 rfl ?_
      exact ev_iret (pc := 100) dX10_list_100 rfl rfl (hR _ _ h)
    · replace h := ev_ifn h c45
      refine ev_iconst (pc := 99) (v := 1) dX10_list_99 rfl ?_
      exact ev_iret (pc := 100) dX10_list_100 rfl rfl (hR _ _ h)
set_option maxRecDepth 20000 in
set_option maxHeartbeats 4000000 in
theorem e_jn_X10_list_35 {G : ev_G} {Q : Option ev_V → ev_M → Prop} {R : Option (Bool × ev_m)} (hR : ∀ (x0 : Bool) (m0 : ev_m), (some ((x0, m0))) = R → Q (some (vi (bi x0))) (ev_emb m0)) (hN : none ≠ R) {m8 : ev_m} {i3 : Nat} {x4 : Int32} {x5 : Int32} {x6 : Int32} {x7 : Int32} (h : jn_X10_list_35 m8 i3 x4 x5 x6 x7 = R) : ev_E G K_X10_list B_X10_list (0, 0) 35 [some (vr 10 (i3)), some (vi (x4)), some (vi (x5)), some (vi (x6)), some (vi (x7))] [] (ev_emb m8) Q := by
  unfold jn_X10_list_35 at h
  refine ev_aload_0 (pc := 35) dX10_list_35 ?_
  refine ev_iload_4 (pc := 36) dX10_list_36 ?_
  obtain ⟨p9, hp9, h⟩ := ev_bindE hN h
  refine cl1_X10_147 (pc := 38) rfl dX10_list_38 (by decide) (Nat.le_of_ble_eq_true rfl) (c_X10_signed hp9) ?_
  refine ev_ifb_ne (pc := 41) (tgt := 46) dX10_list_41 (by decide) (fun c10 => ?_) (fun c10 => ?_)
  · replace h := ev_ifp h c10
    refine ev_aload_0 (pc := 46) dX10_list_46 ?_
    refine gt_X10_38 (pc := 47) rfl dX10_list_47 ?_
    refine ev_iload_1 (pc := 50) dX10_list_50 ?_
    obtain ⟨x11, hx11, h⟩ := ev_bindE hN h
    refine ev_iald1 (pc := 51) rfl (by decide) rfl hx11 dX10_list_51 ?_
    refine ev_iload_3 (pc := 52) dX10_list_52 ?_
    refine ev_icc_ge (pc := 53) (tgt := 83) dX10_list_53 (by decide) (fun c12 => ?_) (fun c12 => ?_)
    · replace h := ev_ifn h c12
      exact e_jn_X10_list_83 hR hN h
    · replace h := ev_ifp h c12
      refine ev_aload_0 (pc := 56) dX10_list_56 ?_
      refine gt_X10_38 (pc := 57) rfl dX10_list_57 ?_
      refine ev_iload_2 (pc := 60) dX10_list_60 ?_
      refine ev_aload_0 (pc := 61) dX10_list_61 ?_
      refine gt_X10_38 (pc := 62) rfl dX10_list_62 ?_
      refine ev_iload_1 (pc := 65) dX10_list_65 ?_
      obtain ⟨x53, hx53, h⟩ := ev_bindE hN h
      refine ev_iald1 (pc := 66) rfl (by decide) rfl hx53 dX10_list_66 ?_
      refine ev_iadd (pc := 67) dX10_list_67 ?_
      refine ev_aload_0 (pc := 68) dX10_list_68 ?_
      refine gt_X10_133 (pc := 69) rfl dX10_list_69 ?_
      obtain ⟨m54, hm54, h⟩ := ev_bindE hN h
      refine ev_iast1 (pc := 72) rfl (by decide) (by decide) rfl hm54 dX10_list_72 ?_
      refine ev_aload_0 (pc := 73) dX10_list_73 ?_
      refine gt_X10_38 (pc := 74) rfl dX10_list_74 ?_
      refine ev_iload_1 (pc := 77) dX10_list_77 ?_
      refine ev_dup2_ri (pc := 78) dX10_list_78 ?_
      obtain ⟨x55, hx55, h⟩ := ev_bindE hN h
      refine ev_iald1 (pc := 79) rfl (by decide) rfl hx55 dX10_list_79 ?_
      refine ev_iconst (pc := 80) (v := 1) dX10_list_80 rfl ?_
      refine ev_iadd (pc := 81) dX10_list_81 ?_
      obtain ⟨m56, hm56, h⟩ := ev_bindE hN h
      refine ev_iast1 (pc := 82) rfl (by decide) (by decide) rfl hm56 dX10_list_82 ?_
      exact e_jn_X10_list_83 hR hN h
  · replace h := ev_ifn h c10
    refine ev_iconst (pc := 44) (v := 0) dX10_list_44 rfl ?_
    exact ev_iret (pc := 45) dX10_list_45 rfl rfl (hR _ _ h)
set_option maxRecDepth 20000 in
set_option maxHeartbeats 4000000 in
theorem e_jn_X10_list_26 {G : ev_G} {Q : Option ev_V → ev_M → Prop} {R : Option (Bool × ev_m)} (hR : ∀ (x0 : Bool) (m0 : ev_m), (some ((x0, m0))) = R → Q (some (vi (bi x0))) (ev_emb m0)) (hN : none ≠ R) {m63 : ev_m} {i58 : Nat} {x59 : Int32} {x60 : Int32} {x61 : Int32} {x62 : Int32} (h : jn_X10_list_26 m63 i58 x59 x60 x61 x62 = R) : ev_E G K_X10_list B_X10_list (0, 0) 26 [some (vr 10 (i58)), some (vi (x59)), some (vi (x60)), some (vi (x61)), some (vi (x62))] [] (ev_emb m63) Q := by
  unfold jn_X10_list_26 at h
  refine ev_aload_0 (pc := 26) dX10_list_26 ?_
  refine ev_iconst (pc := 27) (v := 3) dX10_list_27 rfl ?_
  refine ev_aload_0 (pc := 28) dX10_list_28 ?_
  refine gt_X10_107 (pc := 29) rfl dX10_list_29 ?_
  obtain ⟨m64, hm64, h⟩ := ev_letE h
  refine cl0_X10_136 (pc := 32) (fr := 0) (lo := 0) (m' := m64) rfl dX10_list_32 (by decide) (Nat.le_of_ble_eq_true rfl) (by rw [hm64]; exact c_X10_later m63 i58 3 (m63.1 10 i58 12)) ?_
  exact e_jn_X10_list_35 hR hN h
set_option maxRecDepth 20000 in
set_option maxHeartbeats 4000000 in
theorem e_X10_list {G : ev_G} {Q : Option ev_V → ev_M → Prop} {R : Option (Bool × ev_m)} {mF : ev_m} (hR : ∀ (x0 : Bool) (m0 : ev_m), (some ((x0, m0))) = R → Q (some (vi (bi x0))) (ev_emb m0)) (hN : none ≠ R) {i0 : Nat} {x1_ : Int32} {x2_ : Int32} {x3_ : Int32} {x4_ : Int32} (h : f_X10_list mF i0 x1_ x2_ x3_ x4_ = R) : ev_E G K_X10_list B_X10_list (0, 0) 0 [some (vr 10 (i0)), some (vi (x1_)), some (vi (x2_)), some (vi (x3_)), some (vi (x4_))] [] (ev_emb mF) Q := by
  unfold f_X10_list at h
  refine ev_aload_0 (pc := 0) dX10_list_0 ?_
  refine gt_X10_38 (pc := 1) rfl dX10_list_1 ?_
  refine ev_iload_1 (pc := 4) dX10_list_4 ?_
  obtain ⟨x1, hx1, h⟩ := ev_bindE hN h
  refine ev_iald1 (pc := 5) rfl (by decide) rfl hx1 dX10_list_5 ?_
  refine ev_iload_3 (pc := 6) dX10_list_6 ?_
  refine ev_icc_ne (pc := 7) (tgt := 35) dX10_list_7 (by decide) (fun c2 => ?_) (fun c2 => ?_)
  · replace h := ev_ifn h c2
    exact e_jn_X10_list_35 hR hN h
  · replace h := ev_ifp h c2
    refine ev_aload_0 (pc := 10) dX10_list_10 ?_
    refine gt_X10_114 (pc := 11) rfl dX10_list_11 ?_
    refine ev_iconst (pc := 14) (v := 3) dX10_list_14 rfl ?_
    refine ev_icc_eq (pc := 15) (tgt := 26) dX10_list_15 (by decide) (fun c57 => ?_) (fun c57 => ?_)
    · replace h := ev_ifp h c57
      exact e_jn_X10_list_26 hR hN h
    · replace h := ev_ifn h c57
      refine ev_aload_0 (pc := 18) dX10_list_18 ?_
      refine gt_X10_114 (pc := 19) rfl dX10_list_19 ?_
      refine ev_iconst (pc := 22) (v := 5) dX10_list_22 rfl ?_
      refine ev_icc_ne (pc := 23) (tgt := 35) dX10_list_23 (by decide) (fun c65 => ?_) (fun c65 => ?_)
      · replace h := ev_ifn h c65
        exact e_jn_X10_list_35 hR hN h
      · replace h := ev_ifp h c65
        exact e_jn_X10_list_26 hR hN h
theorem c_X10_list {G : ev_G} {mF : ev_m} {i0 : Nat} {x1_ : Int32} {x2_ : Int32} {x3_ : Int32} {x4_ : Int32} {r : Bool × ev_m} (h : f_X10_list mF i0 x1_ x2_ x3_ x4_ = some r) : ev_CF G K_X10_list B_X10_list [vr 10 (i0), vi (x1_), vi (x2_), vi (x3_), vi (x4_)] mF (some (vi (bi (r.1)))) r.2 :=
  ev_Ct_of rfl rfl (Nat.le_of_ble_eq_true rfl) (e_X10_list (R := some r) (fun x0 m0 q => by cases q; exact ⟨rfl, rfl⟩) (fun q => by cases q) h)
set_option maxRecDepth 20000 in
set_option maxHeartbeats 4000000 in
theorem e_jn_X10_shipLine_209 {G : ev_G} {Q : Option ev_V → ev_M → Prop} {R : Option (Bool × ev_m)} (hR : ∀ (x0 : Bool) (m0 : ev_m), (some ((x0, m0))) = R → Q (some (vi (bi x0))) (ev_emb m0)) (hN : none ≠ R) {m21 : ev_m} {i19 : Nat} {x20 : Int32} (h : jn_X10_shipLine_209 m21 i19 x20 = R) : ev_E G K_X10_shipLine B_X10_shipLine (0, 0) 209 [some (vr 10 (i19)), none, none, some (vi (x20))] [] (ev_emb m21) Q := by
  unfold jn_X10_shipLine_209 at h
  refine ev_aload_0 (pc := 209) dX10_shipLine_209 ?_
  refine ev_iload_3 (pc := 210) dX10_shipLine_210 ?_
  refine ev_bipush (pc := 211) (v := 99) dX10_shipLine_211 (by decide) ?_
  obtain ⟨p22, hp22, h⟩ := ev_bindE hN h
  refine cl1_X10_171 (pc := 213) rfl dX10_shipLine_213 (by decide) (Nat.le_of_ble_eq_true rfl) (c_X10_signedInto hp22) ?_
  exact ev_iret (pc := 216) dX10_shipLine_216 rfl (ev_nb _) (hR _ _ h)
set_option maxRecDepth 20000 in
set_option maxHeartbeats 4000000 in
theorem e_jn_X10_shipLine_126 {G : ev_G} {Q : Option ev_V → ev_M → Prop} {R : Option (Bool × ev_m)} (hR : ∀ (x0 : Bool) (m0 : ev_m), (some ((x0, m0))) = R → Q (some (vi (bi x0))) (ev_emb m0)) (hN : none ≠ R) {m14 : ev_m} {i11 : Nat} {y12 : Int64} {x13 : Int32} (h : jn_X10_shipLine_126 m14 i11 y12 x13 = R) : ev_E G K_X10_shipLine B_X10_shipLine (0, 0) 126 [some (vr 10 (i11)), some (vl (y12)), none, some (vi (x13))] [] (ev_emb m14) Q := by
  unfold jn_X10_shipLine_126 at h
  refine ev_aload_0 (pc := 126) dX10_shipLine_126 ?_
  obtain ⟨m15, hm15, h⟩ := ev_bindE hN h
  refine cl0_X10_140 (pc := 127) rfl dX10_shipLine_127 (by decide) (Nat.le_of_ble_eq_true rfl) (c_X10_token hm15) ?_
  refine ev_lload_1 (pc := 130) dX10_shipLine_130 ?_
  refine ev_ldc2 (pc := 131) (v := 495873782388) kl_X10_167 dX10_shipLine_131 ?_
  refine ev_lcc_ne (pc := 134) (tgt := 168) dX10_shipLine_134 dX10_shipLine_135 (by decide) (fun c16 => ?_) (fun c16 => ?_)
  · replace h := ev_ifn h c16
    refine ev_lload_1 (pc := 168) dX10_shipLine_168 ?_
    refine ev_ldc2 (pc := 169) (v := 7562593) kl_X10_169 dX10_shipLine_169 ?_
    refine ev_lcc_ne (pc := 172) (tgt := 197) dX10_shipLine_172 dX10_shipLine_173 (by decide) (fun c17 => ?_) (fun c17 => ?_)
    · replace h := ev_ifn h c17
      refine ev_iload_3 (pc := 197) dX10_shipLine_197 ?_
      refine ev_bipush (pc := 198) (v := 6) dX10_shipLine_198 (by decide) ?_
      refine ev_icc_eq (pc := 200) (tgt := 209) dX10_shipLine_200 (by decide) (fun c18 => ?_) (fun c18 => ?_)
      · replace h := ev_ifp h c18
        refine ev_E.forget (L' := [some (vr 10 (i11)), none, none, some (vi (x13))]) ⟨rfl, ⟨rfl, trivial⟩⟩ ?_
        exact e_jn_X10_shipLine_209 hR hN h
      · replace h := ev_ifn h c18
        refine ev_iload_3 (pc := 203) dX10_shipLine_203 ?_
        refine ev_bipush (pc := 204) (v := 7) dX10_shipLine_204 (by decide) ?_
        refine ev_icc_ne (pc := 206) (tgt := 217) dX10_shipLine_206 (by decide) (fun c23 => ?_) (fun c23 => ?_)
        · replace h := ev_ifn h c23
          refine ev_aload_0 (pc := 217) dX10_shipLine_217 ?_
          refine ev_iload_3 (pc := 218) dX10_shipLine_218 ?_
          refine ev_iload_3 (pc := 219) dX10_shipLine_219 ?_
          refine ev_iconst (pc := 220) (v := 3) dX10_shipLine_220 rfl ?_
          obtain ⟨x26, hx26, h⟩ := ev_letE h
          have hJ2 : ev_E G K_X10_shipLine B_X10_shipLine (0, 0) 234 [some (vr 10 (i11)), some (vl (y12)), none, some (vi (x13))] [vi (x26), vi (x13), vr 10 (i11)] (ev_emb m15) Q := by
            refine ev_iload_3 (pc := 234) dX10_shipLine_234 ?_
            refine ev_iconst (pc := 235) (v := 1) dX10_shipLine_235 rfl ?_
            obtain ⟨x31, hx31, h⟩ := ev_letE h
            have hJ1 : ev_E G K_X10_shipLine B_X10_shipLine (0, 0) 271 [some (vr 10 (i11)), some (vl (y12)), none, some (vi (x13))] [vi (x31), vi (x26), vi (x13), vr 10 (i11)] (ev_emb m15) Q := by
              obtain ⟨p32, hp32, h⟩ := ev_bindE hN h
              refine cl1_X10_178 (pc := 271) rfl dX10_shipLine_271 (by decide) (Nat.le_of_ble_eq_true rfl) (c_X10_into hp32) ?_
              exact ev_iret (pc := 274) dX10_shipLine_274 rfl (ev_nb _) (hR _ _ h)
            refine ev_icc_ne (pc := 236) (tgt := 244) dX10_shipLine_236 (by decide) (fun c27 => ?_) (fun c27 => ?_)
            · refine ev_iload_3 (pc := 244) dX10_shipLine_244 ?_
              refine ev_iconst (pc := 245) (v := 2) dX10_shipLine_245 rfl ?_
              refine ev_icc_ne (pc := 246) (tgt := 254) dX10_shipLine_246 (by decide) (fun c28 => ?_) (fun c28 => ?_)
              · refine ev_iload_3 (pc := 254) dX10_shipLine_254 ?_
                refine ev_iconst (pc := 255) (v := 3) dX10_shipLine_255 rfl ?_
                refine ev_icc_eq (pc := 256) (tgt := 264) dX10_shipLine_256 (by decide) (fun c29 => ?_) (fun c29 => ?_)
                · refine ev_bipush (pc := 264) (v := 35) dX10_shipLine_264 (by decide) ?_
                  refine ev_goto (pc := 266) (tgt := 271) dX10_shipLine_266 (by decide) ?_
                  replace hx31 := (((hx31.trans (if_neg c27)).trans (if_neg c28)).trans (if_pos c29))
                  subst hx31
                  exact hJ1
                · refine ev_iload_3 (pc := 259) dX10_shipLine_259 ?_
                  refine ev_iconst (pc := 260) (v := 4) dX10_shipLine_260 rfl ?_
                  refine ev_icc_ne (pc := 261) (tgt := 269) dX10_shipLine_261 (by decide) (fun c30 => ?_) (fun c30 => ?_)
                  · refine ev_bipush (pc := 269) (v := 99) dX10_shipLine_269 (by decide) ?_
                    replace hx31 := ((((hx31.trans (if_neg c27)).trans (if_neg c28)).trans (if_neg c29)).trans (if_neg c30))
                    subst hx31
                    exact hJ1
                  · refine ev_bipush (pc := 264) (v := 35) dX10_shipLine_264 (by decide) ?_
                    refine ev_goto (pc := 266) (tgt := 271) dX10_shipLine_266 (by decide) ?_
                    replace hx31 := ((((hx31.trans (if_neg c27)).trans (if_neg c28)).trans (if_neg c29)).trans (if_pos c30))
                    subst hx31
                    exact hJ1
              · refine ev_bipush (pc := 249) (v := 9) dX10_shipLine_249 (by decide) ?_
                refine ev_goto (pc := 251) (tgt := 271) dX10_shipLine_251 (by decide) ?_
                replace hx31 := ((hx31.trans (if_neg c27)).trans (if_pos c28))
                subst hx31
                exact hJ1
            · refine ev_bipush (pc := 239) (v := 100) dX10_shipLine_239 (by decide) ?_
              refine ev_goto (pc := 241) (tgt := 271) dX10_shipLine_241 (by decide) ?_
              replace hx31 := (hx31.trans (if_pos c27))
              subst hx31
              exact hJ1
          refine ev_icc_eq (pc := 221) (tgt := 229) dX10_shipLine_221 (by decide) (fun c24 => ?_) (fun c24 => ?_)
          · refine ev_iconst (pc := 229) (v := 1) dX10_shipLine_229 rfl ?_
            refine ev_goto (pc := 230) (tgt := 234) dX10_shipLine_230 (by decide) ?_
            replace hx26 := (hx26.trans (if_pos c24))
            subst hx26
            exact hJ2
          · refine ev_iload_3 (pc := 224) dX10_shipLine_224 ?_
            refine ev_iconst (pc := 225) (v := 4) dX10_shipLine_225 rfl ?_
            refine ev_icc_ne (pc := 226) (tgt := 233) dX10_shipLine_226 (by decide) (fun c25 => ?_) (fun c25 => ?_)
            · refine ev_iconst (pc := 233) (v := 0) dX10_shipLine_233 rfl ?_
              replace hx26 := ((hx26.trans (if_neg c24)).trans (if_neg c25))
              subst hx26
              exact hJ2
            · refine ev_iconst (pc := 229) (v := 1) dX10_shipLine_229 rfl ?_
              refine ev_goto (pc := 230) (tgt := 234) dX10_shipLine_230 (by decide) ?_
              replace hx26 := ((hx26.trans (if_neg c24)).trans (if_pos c25))
              subst hx26
              exact hJ2
        · replace h := ev_ifp h c23
          refine ev_E.forget (L' := [some (vr 10 (i11)), none, none, some (vi (x13))]) ⟨rfl, ⟨rfl, trivial⟩⟩ ?_
          exact e_jn_X10_shipLine_209 hR hN h
    · replace h := ev_ifp h c17
      refine ev_aload_0 (pc := 176) dX10_shipLine_176 ?_
      refine gt_X10_38 (pc := 177) rfl dX10_shipLine_177 ?_
      refine ev_bipush (pc := 180) (v := 10) dX10_shipLine_180 (by decide) ?_
      refine ev_iconst (pc := 182) (v := 0) dX10_shipLine_182 rfl ?_
      obtain ⟨m33, hm33, h⟩ := ev_letE h
      refine ev_iastS (pc := 183) (j := 10) rfl (by decide) (by decide) (by decide) (vp_in_iff.mpr (by decide)) dX10_shipLine_183 ?_
      refine ev_mem (pc := 184) hm33 ?_
      refine ev_aload_0 (pc := 184) dX10_shipLine_184 ?_
      refine ev_bipush (pc := 185) (v := 10) dX10_shipLine_185 (by decide) ?_
      refine ev_bipush (pc := 187) (v := 11) dX10_shipLine_187 (by decide) ?_
      refine ev_bipush (pc := 189) (v := 12) dX10_shipLine_189 (by decide) ?_
      refine ev_bipush (pc := 191) (v := 99) dX10_shipLine_191 (by decide) ?_
      obtain ⟨p34, hp34, h⟩ := ev_bindE hN h
      refine cl1_X10_174 (pc := 193) rfl dX10_shipLine_193 (by decide) (Nat.le_of_ble_eq_true rfl) (c_X10_list hp34) ?_
      exact ev_iret (pc := 196) dX10_shipLine_196 rfl (ev_nb _) (hR _ _ h)
  · replace h := ev_ifp h c16
    refine ev_aload_0 (pc := 138) dX10_shipLine_138 ?_
    refine ev_bipush (pc := 139) (v := 8) dX10_shipLine_139 (by decide) ?_
    refine ev_sipush (pc := 141) (v := 999) dX10_shipLine_141 (by decide) ?_
    obtain ⟨p35, hp35, h⟩ := ev_bindE hN h
    refine cl1_X10_171 (pc := 144) rfl dX10_shipLine_144 (by decide) (Nat.le_of_ble_eq_true rfl) (c_X10_signedInto hp35) ?_
    refine ev_ifb_eq (pc := 147) (tgt := 166) dX10_shipLine_147 (by decide) (fun c36 => ?_) (fun c36 => ?_)
    · replace h := ev_ifn h c36
      refine ev_iconst (pc := 166) (v := 0) dX10_shipLine_166 rfl ?_
      exact ev_iret (pc := 167) dX10_shipLine_167 rfl rfl (hR _ _ h)
    · replace h := ev_ifp h c36
      refine ev_aload_0 (pc := 150) dX10_shipLine_150 ?_
      refine ev_bipush (pc := 151) (v := 9) dX10_shipLine_151 (by decide) ?_
      refine ev_sipush (pc := 153) (v := 999) dX10_shipLine_153 (by decide) ?_
      obtain ⟨p37, hp37, h⟩ := ev_bindE hN h
      refine cl1_X10_171 (pc := 156) rfl dX10_shipLine_156 (by decide) (Nat.le_of_ble_eq_true rfl) (c_X10_signedInto hp37) ?_
      refine ev_ifb_eq (pc := 159) (tgt := 166) dX10_shipLine_159 (by decide) (fun c38 => ?_) (fun c38 => ?_)
      · replace h := ev_ifn h c38
        refine ev_iconst (pc := 166) (v := 0) dX10_shipLine_166 rfl ?_
        exact ev_iret (pc := 167) dX10_shipLine_167 rfl rfl (hR _ _ h)
      · replace h := ev_ifp h c38
        refine ev_iconst (pc := 162) (v := 1) dX10_shipLine_162 rfl ?_
        refine ev_goto (pc := 163) (tgt := 167) dX10_shipLine_163 (by decide) ?_
        exact ev_iret (pc := 167) dX10_shipLine_167 rfl rfl (hR _ _ h)
set_option maxRecDepth 20000 in
set_option maxHeartbeats 4000000 in
theorem e_jn_X10_shipLine_99 {G : ev_G} {Q : Option ev_V → ev_M → Prop} {R : Option (Bool × ev_m)} (hR : ∀ (x0 : Bool) (m0 : ev_m), (some ((x0, m0))) = R → Q (some (vi (bi x0))) (ev_emb m0)) (hN : none ≠ R) {m45 : ev_m} {i42 : Nat} {y43 : Int64} {x44 : Int32} (h : jn_X10_shipLine_99 m45 i42 y43 x44 = R) : ev_E G K_X10_shipLine B_X10_shipLine (0, 0) 99 [some (vr 10 (i42)), some (vl (y43)), none, none] [vi (x44)] (ev_emb m45) Q := by
  unfold jn_X10_shipLine_99 at h
  refine ev_istore_3 (pc := 99) dX10_shipLine_99 (by decide) rfl ?_
  refine ev_iload_3 (pc := 100) dX10_shipLine_100 ?_
  refine ev_iconst (pc := 101) (v := (-1)) dX10_shipLine_101 rfl ?_
  refine ev_icc_ne (pc := 102) (tgt := 126) dX10_shipLine_102 (by decide) (fun c46 => ?_) (fun c46 => ?_)
  · replace h := ev_ifn h c46
    exact e_jn_X10_shipLine_126 hR hN h
  · replace h := ev_ifp h c46
    refine ev_lload_1 (pc := 105) dX10_shipLine_105 ?_
    refine ev_ldc2 (pc := 106) (v := 495873782388) kl_X10_167 dX10_shipLine_106 ?_
    refine ev_lcc_eq (pc := 109) (tgt := 126) dX10_shipLine_109 dX10_shipLine_110 (by decide) (fun c47 => ?_) (fun c47 => ?_)
    · replace h := ev_ifp h c47
      exact e_jn_X10_shipLine_126 hR hN h
    · replace h := ev_ifn h c47
      refine ev_lload_1 (pc := 113) dX10_shipLine_113 ?_
      refine ev_ldc2 (pc := 114) (v := 7562593) kl_X10_169 dX10_shipLine_114 ?_
      refine ev_lcc_eq (pc := 117) (tgt := 126) dX10_shipLine_117 dX10_shipLine_118 (by decide) (fun c48 => ?_) (fun c48 => ?_)
      · replace h := ev_ifp h c48
        exact e_jn_X10_shipLine_126 hR hN h
      · replace h := ev_ifn h c48
        refine ev_aload_0 (pc := 121) dX10_shipLine_121 ?_
        obtain ⟨p49, hp49, h⟩ := ev_letE h
        refine cl1_X10_129 (pc := 122) (fr := 0) (lo := 0) (m' := p49.2) (v := vi (bi (p49.1))) rfl dX10_shipLine_122 (by decide) (Nat.le_of_ble_eq_true rfl) (by rw [hp49]; exact c_X10_stops m45 i42) ?_
        exact ev_iret (pc := 125) dX10_shipLine_125 rfl (ev_nb _) (hR _ _ h)
set_option maxRecDepth 20000 in
set_option maxHeartbeats 4000000 in
theorem e_X10_shipLine {G : ev_G} {Q : Option ev_V → ev_M → Prop} {R : Option (Bool × ev_m)} {mF : ev_m} (hR : ∀ (x0 : Bool) (m0 : ev_m), (some ((x0, m0))) = R → Q (some (vi (bi x0))) (ev_emb m0)) (hN : none ≠ R) {i0 : Nat} {y1_ : Int64} (h : f_X10_shipLine mF i0 y1_ = R) : ev_E G K_X10_shipLine B_X10_shipLine (0, 0) 0 [some (vr 10 (i0)), some (vl (y1_)), none, none] [] (ev_emb mF) Q := by
  unfold f_X10_shipLine at h
  refine ev_lload_1 (pc := 0) dX10_shipLine_0 ?_
  refine ev_ldc2 (pc := 1) (v := 1953854062) kl_X10_151 dX10_shipLine_1 ?_
  refine ev_lcc_ne (pc := 4) (tgt := 12) dX10_shipLine_4 dX10_shipLine_5 (by decide) (fun c1 => ?_) (fun c1 => ?_)
  · replace h := ev_ifn h c1
    refine ev_lload_1 (pc := 12) dX10_shipLine_12 ?_
    refine ev_ldc2 (pc := 13) (v := 1667329133) kl_X10_153 dX10_shipLine_13 ?_
    obtain ⟨x9, hx9, h⟩ := ev_letE h
    have hJ3 : ev_E G K_X10_shipLine B_X10_shipLine (0, 0) 99 [some (vr 10 (i0)), some (vl (y1_)), none, none] [vi (x9)] (ev_emb mF) Q := by
      refine ev_istore_3 (pc := 99) dX10_shipLine_99 (by decide) rfl ?_
      refine ev_iload_3 (pc := 100) dX10_shipLine_100 ?_
      refine ev_iconst (pc := 101) (v := (-1)) dX10_shipLine_101 rfl ?_
      refine ev_icc_ne (pc := 102) (tgt := 126) dX10_shipLine_102 (by decide) (fun c10 => ?_) (fun c10 => ?_)
      · replace h := ev_ifn h c10
        exact e_jn_X10_shipLine_126 hR hN h
      · replace h := ev_ifp h c10
        refine ev_lload_1 (pc := 105) dX10_shipLine_105 ?_
        refine ev_ldc2 (pc := 106) (v := 495873782388) kl_X10_167 dX10_shipLine_106 ?_
        refine ev_lcc_eq (pc := 109) (tgt := 126) dX10_shipLine_109 dX10_shipLine_110 (by decide) (fun c39 => ?_) (fun c39 => ?_)
        · replace h := ev_ifp h c39
          exact e_jn_X10_shipLine_126 hR hN h
        · replace h := ev_ifn h c39
          refine ev_lload_1 (pc := 113) dX10_shipLine_113 ?_
          refine ev_ldc2 (pc := 114) (v := 7562593) kl_X10_169 dX10_shipLine_114 ?_
          refine ev_lcc_eq (pc := 117) (tgt := 126) dX10_shipLine_117 dX10_shipLine_118 (by decide) (fun c40 => ?_) (fun c40 => ?_)
          · replace h := ev_ifp h c40
            exact e_jn_X10_shipLine_126 hR hN h
          · replace h := ev_ifn h c40
            refine ev_aload_0 (pc := 121) dX10_shipLine_121 ?_
            obtain ⟨p41, hp41, h⟩ := ev_letE h
            refine cl1_X10_129 (pc := 122) (fr := 0) (lo := 0) (m' := p41.2) (v := vi (bi (p41.1))) rfl dX10_shipLine_122 (by decide) (Nat.le_of_ble_eq_true rfl) (by rw [hp41]; exact c_X10_stops mF i0) ?_
            exact ev_iret (pc := 125) dX10_shipLine_125 rfl (ev_nb _) (hR _ _ h)
    refine ev_lcc_ne (pc := 16) (tgt := 24) dX10_shipLine_16 dX10_shipLine_17 (by decide) (fun c2 => ?_) (fun c2 => ?_)
    · refine ev_lload_1 (pc := 24) dX10_shipLine_24 ?_
      refine ev_ldc2 (pc := 25) (v := 7102823) kl_X10_155 dX10_shipLine_25 ?_
      refine ev_lcc_ne (pc := 28) (tgt := 36) dX10_shipLine_28 dX10_shipLine_29 (by decide) (fun c3 => ?_) (fun c3 => ?_)
      · refine ev_lload_1 (pc := 36) dX10_shipLine_36 ?_
        refine ev_ldc2 (pc := 37) (v := 1836020596) kl_X10_157 dX10_shipLine_37 ?_
        refine ev_lcc_ne (pc := 40) (tgt := 48) dX10_shipLine_40 dX10_shipLine_41 (by decide) (fun c4 => ?_) (fun c4 => ?_)
        · refine ev_lload_1 (pc := 48) dX10_shipLine_48 ?_
          refine ev_ldc2 (pc := 49) (v := 1734697330) kl_X10_159 dX10_shipLine_49 ?_
          refine ev_lcc_ne (pc := 52) (tgt := 60) dX10_shipLine_52 dX10_shipLine_53 (by decide) (fun c5 => ?_) (fun c5 => ?_)
          · refine ev_lload_1 (pc := 60) dX10_shipLine_60 ?_
            refine ev_ldc2 (pc := 61) (v := 7501154) kl_X10_161 dX10_shipLine_61 ?_
            refine ev_lcc_ne (pc := 64) (tgt := 72) dX10_shipLine_64 dX10_shipLine_65 (by decide) (fun c6 => ?_) (fun c6 => ?_)
            · refine ev_lload_1 (pc := 72) dX10_shipLine_72 ?_
              refine ev_ldc2 (pc := 73) (v := 2003398244) kl_X10_163 dX10_shipLine_73 ?_
              refine ev_lcc_ne (pc := 76) (tgt := 85) dX10_shipLine_76 dX10_shipLine_77 (by decide) (fun c7 => ?_) (fun c7 => ?_)
              · refine ev_lload_1 (pc := 85) dX10_shipLine_85 ?_
                refine ev_ldc2 (pc := 86) (v := 1953655149) kl_X10_165 dX10_shipLine_86 ?_
                refine ev_lcc_ne (pc := 89) (tgt := 98) dX10_shipLine_89 dX10_shipLine_90 (by decide) (fun c8 => ?_) (fun c8 => ?_)
                · refine ev_iconst (pc := 98) (v := (-1)) dX10_shipLine_98 rfl ?_
                  replace hx9 := (((((((hx9.trans (if_neg c2)).trans (if_neg c3)).trans (if_neg c4)).trans (if_neg c5)).trans (if_neg c6)).trans (if_neg c7)).trans (if_neg c8))
                  subst hx9
                  exact hJ3
                · refine ev_bipush (pc := 93) (v := 7) dX10_shipLine_93 (by decide) ?_
                  refine ev_goto (pc := 95) (tgt := 99) dX10_shipLine_95 (by decide) ?_
                  replace hx9 := (((((((hx9.trans (if_neg c2)).trans (if_neg c3)).trans (if_neg c4)).trans (if_neg c5)).trans (if_neg c6)).trans (if_neg c7)).trans (if_pos c8))
                  subst hx9
                  exact hJ3
              · refine ev_bipush (pc := 80) (v := 6) dX10_shipLine_80 (by decide) ?_
                refine ev_goto (pc := 82) (tgt := 99) dX10_shipLine_82 (by decide) ?_
                replace hx9 := ((((((hx9.trans (if_neg c2)).trans (if_neg c3)).trans (if_neg c4)).trans (if_neg c5)).trans (if_neg c6)).trans (if_pos c7))
                subst hx9
                exact hJ3
            · refine ev_iconst (pc := 68) (v := 5) dX10_shipLine_68 rfl ?_
              refine ev_goto (pc := 69) (tgt := 99) dX10_shipLine_69 (by decide) ?_
              replace hx9 := (((((hx9.trans (if_neg c2)).trans (if_neg c3)).trans (if_neg c4)).trans (if_neg c5)).trans (if_pos c6))
              subst hx9
              exact hJ3
          · refine ev_iconst (pc := 56) (v := 4) dX10_shipLine_56 rfl ?_
            refine ev_goto (pc := 57) (tgt := 99) dX10_shipLine_57 (by decide) ?_
            replace hx9 := ((((hx9.trans (if_neg c2)).trans (if_neg c3)).trans (if_neg c4)).trans (if_pos c5))
            subst hx9
            exact hJ3
        · refine ev_iconst (pc := 44) (v := 3) dX10_shipLine_44 rfl ?_
          refine ev_goto (pc := 45) (tgt := 99) dX10_shipLine_45 (by decide) ?_
          replace hx9 := (((hx9.trans (if_neg c2)).trans (if_neg c3)).trans (if_pos c4))
          subst hx9
          exact hJ3
      · refine ev_iconst (pc := 32) (v := 2) dX10_shipLine_32 rfl ?_
        refine ev_goto (pc := 33) (tgt := 99) dX10_shipLine_33 (by decide) ?_
        replace hx9 := ((hx9.trans (if_neg c2)).trans (if_pos c3))
        subst hx9
        exact hJ3
    · refine ev_iconst (pc := 20) (v := 1) dX10_shipLine_20 rfl ?_
      refine ev_goto (pc := 21) (tgt := 99) dX10_shipLine_21 (by decide) ?_
      replace hx9 := (hx9.trans (if_pos c2))
      subst hx9
      exact hJ3
  · replace h := ev_ifp h c1
    refine ev_iconst (pc := 8) (v := 0) dX10_shipLine_8 rfl ?_
    refine ev_goto (pc := 9) (tgt := 99) dX10_shipLine_9 (by decide) ?_
    exact e_jn_X10_shipLine_99 hR hN h
theorem c_X10_shipLine {G : ev_G} {mF : ev_m} {i0 : Nat} {y1_ : Int64} {r : Bool × ev_m} (h : f_X10_shipLine mF i0 y1_ = some r) : ev_CF G K_X10_shipLine B_X10_shipLine [vr 10 (i0), vl (y1_)] mF (some (vi (bi (r.1)))) r.2 :=
  ev_Ct_of rfl rfl (Nat.le_of_ble_eq_true rfl) (e_X10_shipLine (R := some r) (fun x0 m0 q => by cases q; exact ⟨rfl, rfl⟩) (fun q => by cases q) h)
