/-! lifted methods -/
set_option maxRecDepth 20000 in
set_option maxHeartbeats 4000000 in
theorem e_jn_X10_handLine_153 {G : ev_G} {Q : Option ev_V → ev_M → Prop} {R : Option (Bool × ev_m)} (hR : ∀ (x0 : Bool) (m0 : ev_m), (some ((x0, m0))) = R → Q (some (vi (bi x0))) (ev_emb m0)) (hN : none ≠ R) {m20 : ev_m} {i17 : Nat} {y18 : Int64} {x19 : Int32} (h : jn_X10_handLine_153 m20 i17 y18 x19 = R) : ev_E G K_X10_handLine B_X10_handLine (0, 0) 153 [some (vr 10 (i17)), some (vl (y18)), none, none, some (vi (x19)), none] [] (ev_emb m20) Q := by
  unfold jn_X10_handLine_153 at h
  refine ev_aload_0 (pc := 153) dX10_handLine_153 ?_
  obtain ⟨m21, hm21, h⟩ := ev_bindE hN h
  refine cl0_X10_140 (pc := 154) rfl dX10_handLine_154 (by decide) (Nat.le_of_ble_eq_true rfl) (c_X10_token hm21) ?_
  refine ev_lload_1 (pc := 157) dX10_handLine_157 ?_
  refine ev_ldc2 (pc := 158) (v := 1700885369) kl_X10_197 dX10_handLine_158 ?_
  refine ev_lcc_ne (pc := 161) (tgt := 175) dX10_handLine_161 dX10_handLine_162 (by decide) (fun c22 => ?_) (fun c22 => ?_)
  · replace h := ev_ifn h c22
    refine ev_lload_1 (pc := 175) dX10_handLine_175 ?_
    refine ev_ldc2 (pc := 176) (v := 1937006962) kl_X10_199 dX10_handLine_176 ?_
    refine ev_lcc_ne (pc := 179) (tgt := 294) dX10_handLine_179 dX10_handLine_180 (by decide) (fun c23 => ?_) (fun c23 => ?_)
    · replace h := ev_ifn h c23
      refine ev_aload_0 (pc := 294) dX10_handLine_294 ?_
      refine ev_iload_4 (pc := 295) dX10_handLine_295 ?_
      refine ev_iload_4 (pc := 297) dX10_handLine_297 ?_
      refine ev_iconst (pc := 299) (v := 4) dX10_handLine_299 rfl ?_
      obtain ⟨x25, hx25, h⟩ := ev_letE h
      have hJ2 : ev_E G K_X10_handLine B_X10_handLine (0, 0) 308 [some (vr 10 (i17)), some (vl (y18)), none, none, some (vi (x19)), none] [vi (x25), vi (x19), vr 10 (i17)] (ev_emb m21) Q := by
        refine ev_iload_4 (pc := 308) dX10_handLine_308 ?_
        refine ev_iconst (pc := 310) (v := 2) dX10_handLine_310 rfl ?_
        obtain ⟨x28, hx28, h⟩ := ev_letE h
        have hJ1 : ev_E G K_X10_handLine B_X10_handLine (0, 0) 334 [some (vr 10 (i17)), some (vl (y18)), none, none, some (vi (x19)), none] [vi (x28), vi (x25), vi (x19), vr 10 (i17)] (ev_emb m21) Q := by
          obtain ⟨p29, hp29, h⟩ := ev_bindE hN h
          refine cl1_X10_178 (pc := 334) rfl dX10_handLine_334 (by decide) (Nat.le_of_ble_eq_true rfl) (c_X10_into hp29) ?_
          exact ev_iret (pc := 337) dX10_handLine_337 rfl (ev_nb _) (hR _ _ h)
        refine ev_icc_gt (pc := 311) (tgt := 319) dX10_handLine_311 (by decide) (fun c26 => ?_) (fun c26 => ?_)
        · refine ev_iload_4 (pc := 319) dX10_handLine_319 ?_
          refine ev_bipush (pc := 321) (v := 7) dX10_handLine_321 (by decide) ?_
          refine ev_icc_ne (pc := 323) (tgt := 331) dX10_handLine_323 (by decide) (fun c27 => ?_) (fun c27 => ?_)
          · refine ev_sipush (pc := 331) (v := 999) dX10_handLine_331 (by decide) ?_
            replace hx28 := ((hx28.trans (if_pos c26)).trans (if_neg c27))
            subst hx28
            exact hJ1
          · refine ev_bipush (pc := 326) (v := 100) dX10_handLine_326 (by decide) ?_
            refine ev_goto (pc := 328) (tgt := 334) dX10_handLine_328 (by decide) ?_
            replace hx28 := ((hx28.trans (if_pos c26)).trans (if_pos c27))
            subst hx28
            exact hJ1
        · refine ev_bipush (pc := 314) (v := 99) dX10_handLine_314 (by decide) ?_
          refine ev_goto (pc := 316) (tgt := 334) dX10_handLine_316 (by decide) ?_
          replace hx28 := (hx28.trans (if_neg c26))
          subst hx28
          exact hJ1
      refine ev_icc_ne (pc := 300) (tgt := 307) dX10_handLine_300 (by decide) (fun c24 => ?_) (fun c24 => ?_)
      · refine ev_iconst (pc := 307) (v := 0) dX10_handLine_307 rfl ?_
        replace hx25 := (hx25.trans (if_neg c24))
        subst hx25
        exact hJ2
      · refine ev_iconst (pc := 303) (v := 1) dX10_handLine_303 rfl ?_
        refine ev_goto (pc := 304) (tgt := 308) dX10_handLine_304 (by decide) ?_
        replace hx25 := (hx25.trans (if_pos c24))
        subst hx25
        exact hJ2
    · replace h := ev_ifp h c23
      refine ev_aload_0 (pc := 183) dX10_handLine_183 ?_
      refine ev_iconst (pc := 184) (v := 0) dX10_handLine_184 rfl ?_
      refine ev_sipush (pc := 185) (v := 999) dX10_handLine_185 (by decide) ?_
      obtain ⟨p30, hp30, h⟩ := ev_bindE hN h
      refine cl1_X10_143 (pc := 188) rfl dX10_handLine_188 (by decide) (Nat.le_of_ble_eq_true rfl) (c_X10_number hp30) ?_
      refine ev_ifb_ne (pc := 191) (tgt := 196) dX10_handLine_191 (by decide) (fun c31 => ?_) (fun c31 => ?_)
      · replace h := ev_ifp h c31
        refine ev_aload_0 (pc := 196) dX10_handLine_196 ?_
        refine gt_X10_133 (pc := 197) rfl dX10_handLine_197 ?_
        obtain ⟨x32, hx32, h⟩ := ev_letE h
        refine ev_topi (pc := 200) hx32 ?_
        refine ev_istore_5 (pc := 200) dX10_handLine_200 (by decide) rfl ?_
        refine ev_aload_0 (pc := 202) dX10_handLine_202 ?_
        refine ev_iload_5 (pc := 203) dX10_handLine_203 ?_
        refine ev_sipush (pc := 205) (v := 999) dX10_handLine_205 (by decide) ?_
        obtain ⟨x34, hx34, h⟩ := ev_letE h
        have hJ3 : ev_E G K_X10_handLine B_X10_handLine (0, 0) 219 [some (vr 10 (i17)), some (vl (y18)), none, none, some (vi (x19)), some (vi (x32))] [vi (x34), vr 10 (i17)] (ev_emb p30.2) Q := by
          refine ev_sipush (pc := 219) (v := 999) dX10_handLine_219 (by decide) ?_
          obtain ⟨p35, hp35, h⟩ := ev_bindE hN h
          refine cl1_X10_143 (pc := 222) rfl dX10_handLine_222 (by decide) (Nat.le_of_ble_eq_true rfl) (c_X10_number hp35) ?_
          refine ev_ifb_ne (pc := 225) (tgt := 230) dX10_handLine_225 (by decide) (fun c36 => ?_) (fun c36 => ?_)
          · replace h := ev_ifp h c36
            refine ev_aload_0 (pc := 230) dX10_handLine_230 ?_
            refine gt_X10_38 (pc := 231) rfl dX10_handLine_231 ?_
            refine ev_bipush (pc := 234) (v := 9) dX10_handLine_234 (by decide) ?_
            refine ev_ialdS (pc := 236) (j := 9) rfl (by decide) (by decide) (vp_in_iff.mpr (by decide)) dX10_handLine_236 ?_
            refine ev_iconst (pc := 237) (v := 4) dX10_handLine_237 rfl ?_
            refine ev_icc_ge (pc := 238) (tgt := 292) dX10_handLine_238 (by decide) (fun c37 => ?_) (fun c37 => ?_)
            · replace h := ev_ifn h c37
              refine ev_iconst (pc := 292) (v := 1) dX10_handLine_292 rfl ?_
              exact ev_iret (pc := 293) dX10_handLine_293 rfl rfl (hR _ _ h)
            · replace h := ev_ifp h c37
              refine ev_aload_0 (pc := 241) dX10_handLine_241 ?_
              refine gt_X10_38 (pc := 242) rfl dX10_handLine_242 ?_
              refine ev_bipush (pc := 245) (v := 10) dX10_handLine_245 (by decide) ?_
              refine ev_iconst (pc := 247) (v := 2) dX10_handLine_247 rfl ?_
              refine ev_aload_0 (pc := 248) dX10_handLine_248 ?_
              refine gt_X10_38 (pc := 249) rfl dX10_handLine_249 ?_
              refine ev_bipush (pc := 252) (v := 9) dX10_handLine_252 (by decide) ?_
              refine ev_ialdS (pc := 254) (j := 9) rfl (by decide) (by decide) (vp_in_iff.mpr (by decide)) dX10_handLine_254 ?_
              refine ev_imul (pc := 255) dX10_handLine_255 ?_
              refine ev_iadd (pc := 256) dX10_handLine_256 ?_
              refine ev_iload_5 (pc := 257) dX10_handLine_257 ?_
              obtain ⟨m38, hm38, h⟩ := ev_bindE hN h
              refine ev_iast1 (pc := 259) rfl (by decide) (by decide) rfl hm38 dX10_handLine_259 ?_
              refine ev_aload_0 (pc := 260) dX10_handLine_260 ?_
              refine gt_X10_38 (pc := 261) rfl dX10_handLine_261 ?_
              refine ev_bipush (pc := 264) (v := 11) dX10_handLine_264 (by decide) ?_
              refine ev_iconst (pc := 266) (v := 2) dX10_handLine_266 rfl ?_
              refine ev_aload_0 (pc := 267) dX10_handLine_267 ?_
              refine gt_X10_38 (pc := 268) rfl dX10_handLine_268 ?_
              refine ev_bipush (pc := 271) (v := 9) dX10_handLine_271 (by decide) ?_
              refine ev_ialdS (pc := 273) (j := 9) rfl (by decide) (by decide) (vp_in_iff.mpr (by decide)) dX10_handLine_273 ?_
              refine ev_imul (pc := 274) dX10_handLine_274 ?_
              refine ev_iadd (pc := 275) dX10_handLine_275 ?_
              refine ev_aload_0 (pc := 276) dX10_handLine_276 ?_
              refine gt_X10_133 (pc := 277) rfl dX10_handLine_277 ?_
              obtain ⟨m39, hm39, h⟩ := ev_bindE hN h
              refine ev_iast1 (pc := 280) rfl (by decide) (by decide) rfl hm39 dX10_handLine_280 ?_
              refine ev_aload_0 (pc := 281) dX10_handLine_281 ?_
              refine gt_X10_38 (pc := 282) rfl dX10_handLine_282 ?_
              refine ev_bipush (pc := 285) (v := 9) dX10_handLine_285 (by decide) ?_
              refine ev_dup2_ri (pc := 287) dX10_handLine_287 ?_
              refine ev_ialdS (pc := 288) (j := 9) rfl (by decide) (by decide) (vp_in_iff.mpr (by decide)) dX10_handLine_288 ?_
              refine ev_iconst (pc := 289) (v := 1) dX10_handLine_289 rfl ?_
              refine ev_iadd (pc := 290) dX10_handLine_290 ?_
              obtain ⟨m40, hm40, h⟩ := ev_letE h
              refine ev_iastS (pc := 291) (j := 9) rfl (by decide) (by decide) (by decide) (vp_in_iff.mpr (by decide)) dX10_handLine_291 ?_
              refine ev_mem (pc := 292) hm40 ?_
              refine ev_iconst (pc := 292) (v := 1) dX10_handLine_292 rfl ?_
              exact ev_iret (pc := 293) dX10_handLine_293 rfl rfl (hR _ _ h)
          · replace h := ev_ifn h c36
            refine ev_iconst (pc := 228) (v := 0) dX10_handLine_228 rfl ?_
            exact ev_iret (pc := 229) dX10_handLine_229 rfl rfl (hR _ _ h)
        refine ev_icc_ge (pc := 208) (tgt := 216) dX10_handLine_208 (by decide) (fun c33 => ?_) (fun c33 => ?_)
        · refine ev_sipush (pc := 216) (v := 999) dX10_handLine_216 (by decide) ?_
          replace hx34 := (hx34.trans (if_neg c33))
          subst hx34
          exact hJ3
        · refine ev_iload_5 (pc := 211) dX10_handLine_211 ?_
          refine ev_goto (pc := 213) (tgt := 219) dX10_handLine_213 (by decide) ?_
          replace hx34 := (hx34.trans (if_pos c33))
          subst hx34
          exact hJ3
      · replace h := ev_ifn h c31
        refine ev_iconst (pc := 194) (v := 0) dX10_handLine_194 rfl ?_
        exact ev_iret (pc := 195) dX10_handLine_195 rfl rfl (hR _ _ h)
  · replace h := ev_ifp h c22
    refine ev_aload_0 (pc := 165) dX10_handLine_165 ?_
    refine gt_X10_38 (pc := 166) rfl dX10_handLine_166 ?_
    refine ev_bipush (pc := 169) (v := 8) dX10_handLine_169 (by decide) ?_
    refine ev_iconst (pc := 171) (v := 1) dX10_handLine_171 rfl ?_
    obtain ⟨m41, hm41, h⟩ := ev_letE h
    refine ev_iastS (pc := 172) (j := 8) rfl (by decide) (by decide) (by decide) (vp_in_iff.mpr (by decide)) dX10_handLine_172 ?_
    refine ev_mem (pc := 173) hm41 ?_
    refine ev_iconst (pc := 173) (v := 1) dX10_handLine_173 rfl ?_
    exact ev_iret (pc := 174) dX10_handLine_174 rfl rfl (hR _ _ h)
set_option maxRecDepth 20000 in
set_option maxHeartbeats 4000000 in
theorem e_jn_X10_handLine_128 {G : ev_G} {Q : Option ev_V → ev_M → Prop} {R : Option (Bool × ev_m)} (hR : ∀ (x0 : Bool) (m0 : ev_m), (some ((x0, m0))) = R → Q (some (vi (bi x0))) (ev_emb m0)) (hN : none ≠ R) {m15 : ev_m} {i11 : Nat} {y12 : Int64} {x13 : Int32} {x14 : Int32} (h : jn_X10_handLine_128 m15 i11 y12 x13 x14 = R) : ev_E G K_X10_handLine B_X10_handLine (0, 0) 128 [some (vr 10 (i11)), some (vl (y12)), none, some (vi (x13)), some (vi (x14)), none] [] (ev_emb m15) Q := by
  unfold jn_X10_handLine_128 at h
  refine ev_lload_1 (pc := 128) dX10_handLine_128 ?_
  refine ev_ldc2 (pc := 129) (v := 1937006962) kl_X10_199 dX10_handLine_129 ?_
  refine ev_lcc_ne (pc := 132) (tgt := 153) dX10_handLine_132 dX10_handLine_133 (by decide) (fun c16 => ?_) (fun c16 => ?_)
  · replace h := ev_ifn h c16
    refine ev_E.forget (L' := [some (vr 10 (i11)), some (vl (y12)), none, none, some (vi (x14)), none]) ⟨rfl, ⟨rfl, ⟨rfl, trivial⟩⟩⟩ ?_
    exact e_jn_X10_handLine_153 hR hN h
  · replace h := ev_ifp h c16
    refine ev_aload_0 (pc := 136) dX10_handLine_136 ?_
    refine gt_X10_38 (pc := 137) rfl dX10_handLine_137 ?_
    refine ev_bipush (pc := 140) (v := 9) dX10_handLine_140 (by decide) ?_
    refine ev_ialdS (pc := 142) (j := 9) rfl (by decide) (by decide) (vp_in_iff.mpr (by decide)) dX10_handLine_142 ?_
    refine ev_iconst (pc := 143) (v := 4) dX10_handLine_143 rfl ?_
    refine ev_icc_ne (pc := 144) (tgt := 153) dX10_handLine_144 (by decide) (fun c42 => ?_) (fun c42 => ?_)
    · replace h := ev_ifn h c42
      refine ev_E.forget (L' := [some (vr 10 (i11)), some (vl (y12)), none, none, some (vi (x14)), none]) ⟨rfl, ⟨rfl, ⟨rfl, trivial⟩⟩⟩ ?_
      exact e_jn_X10_handLine_153 hR hN h
    · replace h := ev_ifp h c42
      refine ev_aload_0 (pc := 147) dX10_handLine_147 ?_
      refine ev_iconst (pc := 148) (v := 3) dX10_handLine_148 rfl ?_
      refine ev_iload_3 (pc := 149) dX10_handLine_149 ?_
      obtain ⟨m43, hm43, h⟩ := ev_letE h
      refine cl0_X10_136 (pc := 150) (fr := 0) (lo := 0) (m' := m43) rfl dX10_handLine_150 (by decide) (Nat.le_of_ble_eq_true rfl) (by rw [hm43]; exact c_X10_later m15 i11 3 x13) ?_
      refine ev_E.forget (L' := [some (vr 10 (i11)), some (vl (y12)), none, none, some (vi (x14)), none]) ⟨rfl, ⟨rfl, ⟨rfl, trivial⟩⟩⟩ ?_
      exact e_jn_X10_handLine_153 hR hN h
set_option maxRecDepth 20000 in
set_option maxHeartbeats 4000000 in
theorem e_jn_X10_handLine_99 {G : ev_G} {Q : Option ev_V → ev_M → Prop} {R : Option (Bool × ev_m)} (hR : ∀ (x0 : Bool) (m0 : ev_m), (some ((x0, m0))) = R → Q (some (vi (bi x0))) (ev_emb m0)) (hN : none ≠ R) {m51 : ev_m} {i47 : Nat} {y48 : Int64} {x49 : Int32} {x50 : Int32} (h : jn_X10_handLine_99 m51 i47 y48 x49 x50 = R) : ev_E G K_X10_handLine B_X10_handLine (0, 0) 99 [some (vr 10 (i47)), some (vl (y48)), none, some (vi (x49)), none, none] [vi (x50)] (ev_emb m51) Q := by
  unfold jn_X10_handLine_99 at h
  refine ev_istore_4 (pc := 99) dX10_handLine_99 (by decide) rfl ?_
  refine ev_iload_4 (pc := 101) dX10_handLine_101 ?_
  refine ev_iconst (pc := 103) (v := (-1)) dX10_handLine_103 rfl ?_
  refine ev_icc_ne (pc := 104) (tgt := 128) dX10_handLine_104 (by decide) (fun c52 => ?_) (fun c52 => ?_)
  · replace h := ev_ifn h c52
    exact e_jn_X10_handLine_128 hR hN h
  · replace h := ev_ifp h c52
    refine ev_lload_1 (pc := 107) dX10_handLine_107 ?_
    refine ev_ldc2 (pc := 108) (v := 1700885369) kl_X10_197 dX10_handLine_108 ?_
    refine ev_lcc_eq (pc := 111) (tgt := 128) dX10_handLine_111 dX10_handLine_112 (by decide) (fun c53 => ?_) (fun c53 => ?_)
    · replace h := ev_ifp h c53
      exact e_jn_X10_handLine_128 hR hN h
    · replace h := ev_ifn h c53
      refine ev_lload_1 (pc := 115) dX10_handLine_115 ?_
      refine ev_ldc2 (pc := 116) (v := 1937006962) kl_X10_199 dX10_handLine_116 ?_
      refine ev_lcc_eq (pc := 119) (tgt := 128) dX10_handLine_119 dX10_handLine_120 (by decide) (fun c54 => ?_) (fun c54 => ?_)
      · replace h := ev_ifp h c54
        exact e_jn_X10_handLine_128 hR hN h
      · replace h := ev_ifn h c54
        refine ev_aload_0 (pc := 123) dX10_handLine_123 ?_
        obtain ⟨p55, hp55, h⟩ := ev_letE h
        refine cl1_X10_129 (pc := 124) (fr := 0) (lo := 0) (m' := p55.2) (v := vi (bi (p55.1))) rfl dX10_handLine_124 (by decide) (Nat.le_of_ble_eq_true rfl) (by rw [hp55]; exact c_X10_stops m51 i47) ?_
        exact ev_iret (pc := 127) dX10_handLine_127 rfl (ev_nb _) (hR _ _ h)
set_option maxRecDepth 20000 in
set_option maxHeartbeats 4000000 in
theorem e_X10_handLine {G : ev_G} {Q : Option ev_V → ev_M → Prop} {R : Option (Bool × ev_m)} {mF : ev_m} (hR : ∀ (x0 : Bool) (m0 : ev_m), (some ((x0, m0))) = R → Q (some (vi (bi x0))) (ev_emb m0)) (hN : none ≠ R) {i0 : Nat} {y1_ : Int64} {x3_ : Int32} (h : f_X10_handLine mF i0 y1_ x3_ = R) : ev_E G K_X10_handLine B_X10_handLine (0, 0) 0 [some (vr 10 (i0)), some (vl (y1_)), none, some (vi (x3_)), none, none] [] (ev_emb mF) Q := by
  unfold f_X10_handLine at h
  refine ev_lload_1 (pc := 0) dX10_handLine_0 ?_
  refine ev_ldc2 (pc := 1) (v := 6709618) kl_X10_181 dX10_handLine_1 ?_
  refine ev_lcc_ne (pc := 4) (tgt := 12) dX10_handLine_4 dX10_handLine_5 (by decide) (fun c1 => ?_) (fun c1 => ?_)
  · replace h := ev_ifn h c1
    refine ev_lload_1 (pc := 12) dX10_handLine_12 ?_
    refine ev_ldc2 (pc := 13) (v := 487301145451) kl_X10_183 dX10_handLine_13 ?_
    obtain ⟨x9, hx9, h⟩ := ev_letE h
    have hJ4 : ev_E G K_X10_handLine B_X10_handLine (0, 0) 99 [some (vr 10 (i0)), some (vl (y1_)), none, some (vi (x3_)), none, none] [vi (x9)] (ev_emb mF) Q := by
      refine ev_istore_4 (pc := 99) dX10_handLine_99 (by decide) rfl ?_
      refine ev_iload_4 (pc := 101) dX10_handLine_101 ?_
      refine ev_iconst (pc := 103) (v := (-1)) dX10_handLine_103 rfl ?_
      refine ev_icc_ne (pc := 104) (tgt := 128) dX10_handLine_104 (by decide) (fun c10 => ?_) (fun c10 => ?_)
      · replace h := ev_ifn h c10
        exact e_jn_X10_handLine_128 hR hN h
      · replace h := ev_ifp h c10
        refine ev_lload_1 (pc := 107) dX10_handLine_107 ?_
        refine ev_ldc2 (pc := 108) (v := 1700885369) kl_X10_197 dX10_handLine_108 ?_
        refine ev_lcc_eq (pc := 111) (tgt := 128) dX10_handLine_111 dX10_handLine_112 (by decide) (fun c44 => ?_) (fun c44 => ?_)
        · replace h := ev_ifp h c44
          exact e_jn_X10_handLine_128 hR hN h
        · replace h := ev_ifn h c44
          refine ev_lload_1 (pc := 115) dX10_handLine_115 ?_
          refine ev_ldc2 (pc := 116) (v := 1937006962) kl_X10_199 dX10_handLine_116 ?_
          refine ev_lcc_eq (pc := 119) (tgt := 128) dX10_handLine_119 dX10_handLine_120 (by decide) (fun c45 => ?_) (fun c45 => ?_)
          · replace h := ev_ifp h c45
            exact e_jn_X10_handLine_128 hR hN h
          · replace h := ev_ifn h c45
            refine ev_aload_0 (pc := 123) dX10_handLine_123 ?_
            obtain ⟨p46, hp46, h⟩ := ev_letE h
            refine cl1_X10_129 (pc := 124) (fr := 0) (lo := 0) (m' := p46.2) (v := vi (bi (p46.1))) rfl dX10_handLine_124 (by decide) (Nat.le_of_ble_eq_true rfl) (by rw [hp46]; exact c_X10_stops mF i0) ?_
            exact ev_iret (pc := 127) dX10_handLine_127 rfl (ev_nb _) (hR _ _ h)
    refine ev_lcc_ne (pc := 16) (tgt := 24) dX10_handLine_16 dX10_handLine_17 (by decide) (fun c2 => ?_) (fun c2 => ?_)
    · refine ev_lload_1 (pc := 24) dX10_handLine_24 ?_
      refine ev_ldc2 (pc := 25) (v := 1650812270) kl_X10_185 dX10_handLine_25 ?_
      refine ev_lcc_ne (pc := 28) (tgt := 36) dX10_handLine_28 dX10_handLine_29 (by decide) (fun c3 => ?_) (fun c3 => ?_)
      · refine ev_lload_1 (pc := 36) dX10_handLine_36 ?_
        refine ev_ldc2 (pc := 37) (v := 1684365668) kl_X10_187 dX10_handLine_37 ?_
        refine ev_lcc_ne (pc := 40) (tgt := 48) dX10_handLine_40 dX10_handLine_41 (by decide) (fun c4 => ?_) (fun c4 => ?_)
        · refine ev_lload_1 (pc := 48) dX10_handLine_48 ?_
          refine ev_ldc2 (pc := 49) (v := 482905517684) kl_X10_189 dX10_handLine_49 ?_
          refine ev_lcc_ne (pc := 52) (tgt := 60) dX10_handLine_52 dX10_handLine_53 (by decide) (fun c5 => ?_) (fun c5 => ?_)
          · refine ev_lload_1 (pc := 60) dX10_handLine_60 ?_
            refine ev_ldc2 (pc := 61) (v := 513021013607) kl_X10_191 dX10_handLine_61 ?_
            refine ev_lcc_ne (pc := 64) (tgt := 72) dX10_handLine_64 dX10_handLine_65 (by decide) (fun c6 => ?_) (fun c6 => ?_)
            · refine ev_lload_1 (pc := 72) dX10_handLine_72 ?_
              refine ev_ldc2 (pc := 73) (v := 499985311076) kl_X10_193 dX10_handLine_73 ?_
              refine ev_lcc_ne (pc := 76) (tgt := 85) dX10_handLine_76 dX10_handLine_77 (by decide) (fun c7 => ?_) (fun c7 => ?_)
              · refine ev_lload_1 (pc := 85) dX10_handLine_85 ?_
                refine ev_ldc2 (pc := 86) (v := 495740088435) kl_X10_195 dX10_handLine_86 ?_
                refine ev_lcc_ne (pc := 89) (tgt := 98) dX10_handLine_89 dX10_handLine_90 (by decide) (fun c8 => ?_) (fun c8 => ?_)
                · refine ev_iconst (pc := 98) (v := (-1)) dX10_handLine_98 rfl ?_
                  replace hx9 := (((((((hx9.trans (if_neg c2)).trans (if_neg c3)).trans (if_neg c4)).trans (if_neg c5)).trans (if_neg c6)).trans (if_neg c7)).trans (if_neg c8))
                  subst hx9
                  exact hJ4
                · refine ev_bipush (pc := 93) (v := 7) dX10_handLine_93 (by decide) ?_
                  refine ev_goto (pc := 95) (tgt := 99) dX10_handLine_95 (by decide) ?_
                  replace hx9 := (((((((hx9.trans (if_neg c2)).trans (if_neg c3)).trans (if_neg c4)).trans (if_neg c5)).trans (if_neg c6)).trans (if_neg c7)).trans (if_pos c8))
                  subst hx9
                  exact hJ4
              · refine ev_bipush (pc := 80) (v := 6) dX10_handLine_80 (by decide) ?_
                refine ev_goto (pc := 82) (tgt := 99) dX10_handLine_82 (by decide) ?_
                replace hx9 := ((((((hx9.trans (if_neg c2)).trans (if_neg c3)).trans (if_neg c4)).trans (if_neg c5)).trans (if_neg c6)).trans (if_pos c7))
                subst hx9
                exact hJ4
            · refine ev_iconst (pc := 68) (v := 5) dX10_handLine_68 rfl ?_
              refine ev_goto (pc := 69) (tgt := 99) dX10_handLine_69 (by decide) ?_
              replace hx9 := (((((hx9.trans (if_neg c2)).trans (if_neg c3)).trans (if_neg c4)).trans (if_neg c5)).trans (if_pos c6))
              subst hx9
              exact hJ4
          · refine ev_iconst (pc := 56) (v := 4) dX10_handLine_56 rfl ?_
            refine ev_goto (pc := 57) (tgt := 99) dX10_handLine_57 (by decide) ?_
            replace hx9 := ((((hx9.trans (if_neg c2)).trans (if_neg c3)).trans (if_neg c4)).trans (if_pos c5))
            subst hx9
            exact hJ4
        · refine ev_iconst (pc := 44) (v := 3) dX10_handLine_44 rfl ?_
          refine ev_goto (pc := 45) (tgt := 99) dX10_handLine_45 (by decide) ?_
          replace hx9 := (((hx9.trans (if_neg c2)).trans (if_neg c3)).trans (if_pos c4))
          subst hx9
          exact hJ4
      · refine ev_iconst (pc := 32) (v := 2) dX10_handLine_32 rfl ?_
        refine ev_goto (pc := 33) (tgt := 99) dX10_handLine_33 (by decide) ?_
        replace hx9 := ((hx9.trans (if_neg c2)).trans (if_pos c3))
        subst hx9
        exact hJ4
    · refine ev_iconst (pc := 20) (v := 1) dX10_handLine_20 rfl ?_
      refine ev_goto (pc := 21) (tgt := 99) dX10_handLine_21 (by decide) ?_
      replace hx9 := (hx9.trans (if_pos c2))
      subst hx9
      exact hJ4
  · replace h := ev_ifp h c1
    refine ev_iconst (pc := 8) (v := 0) dX10_handLine_8 rfl ?_
    refine ev_goto (pc := 9) (tgt := 99) dX10_handLine_9 (by decide) ?_
    exact e_jn_X10_handLine_99 hR hN h
theorem c_X10_handLine {G : ev_G} {mF : ev_m} {i0 : Nat} {y1_ : Int64} {x3_ : Int32} {r : Bool × ev_m} (h : f_X10_handLine mF i0 y1_ x3_ = some r) : ev_CF G K_X10_handLine B_X10_handLine [vr 10 (i0), vl (y1_), vi (x3_)] mF (some (vi (bi (r.1)))) r.2 :=
  ev_Ct_of rfl rfl (Nat.le_of_ble_eq_true rfl) (e_X10_handLine (R := some r) (fun x0 m0 q => by cases q; exact ⟨rfl, rfl⟩) (fun q => by cases q) h)
set_option maxRecDepth 20000 in
set_option maxHeartbeats 4000000 in
theorem e_X10_paperLine {G : ev_G} {Q : Option ev_V → ev_M → Prop} {R : Option (Bool × ev_m)} {mF : ev_m} (hR : ∀ (x0 : Bool) (m0 : ev_m), (some ((x0, m0))) = R → Q (some (vi (bi x0))) (ev_emb m0)) (hN : none ≠ R) {i0 : Nat} {y1_ : Int64} (h : f_X10_paperLine mF i0 y1_ = R) : ev_E G K_X10_paperLine B_X10_paperLine (0, 0) 0 [some (vr 10 (i0)), some (vl (y1_)), none] [] (ev_emb mF) Q := by
  unfold f_X10_paperLine at h
  refine ev_lload_1 (pc := 0) dX10_paperLine_0 ?_
  refine ev_ldc2 (pc := 1) (v := 7499639) kl_X10_201 dX10_paperLine_1 ?_
  refine ev_lcc_eq (pc := 4) (tgt := 13) dX10_paperLine_4 dX10_paperLine_5 (by decide) (fun c1 => ?_) (fun c1 => ?_)
  · replace h := ev_ifp h c1
    refine ev_aload_0 (pc := 13) dX10_paperLine_13 ?_
    obtain ⟨m2, hm2, h⟩ := ev_bindE hN h
    refine cl0_X10_140 (pc := 14) rfl dX10_paperLine_14 (by decide) (Nat.le_of_ble_eq_true rfl) (c_X10_token hm2) ?_
    refine ev_aload_0 (pc := 17) dX10_paperLine_17 ?_
    refine ev_iconst (pc := 18) (v := 0) dX10_paperLine_18 rfl ?_
    refine ev_iconst (pc := 19) (v := 1) dX10_paperLine_19 rfl ?_
    refine ev_bipush (pc := 20) (v := 60) dX10_paperLine_20 (by decide) ?_
    refine ev_sipush (pc := 22) (v := 9999) dX10_paperLine_22 (by decide) ?_
    obtain ⟨p3, hp3, h⟩ := ev_bindE hN h
    refine cl1_X10_174 (pc := 25) rfl dX10_paperLine_25 (by decide) (Nat.le_of_ble_eq_true rfl) (c_X10_list hp3) ?_
    exact ev_iret (pc := 28) dX10_paperLine_28 rfl (ev_nb _) (hR _ _ h)
  · replace h := ev_ifn h c1
    refine ev_aload_0 (pc := 8) dX10_paperLine_8 ?_
    obtain ⟨p4, hp4, h⟩ := ev_letE h
    refine cl1_X10_129 (pc := 9) (fr := 0) (lo := 0) (m' := p4.2) (v := vi (bi (p4.1))) rfl dX10_paperLine_9 (by decide) (Nat.le_of_ble_eq_true rfl) (by rw [hp4]; exact c_X10_stops mF i0) ?_
    exact ev_iret (pc := 12) dX10_paperLine_12 rfl (ev_nb _) (hR _ _ h)
theorem c_X10_paperLine {G : ev_G} {mF : ev_m} {i0 : Nat} {y1_ : Int64} {r : Bool × ev_m} (h : f_X10_paperLine mF i0 y1_ = some r) : ev_CF G K_X10_paperLine B_X10_paperLine [vr 10 (i0), vl (y1_)] mF (some (vi (bi (r.1)))) r.2 :=
  ev_Ct_of rfl rfl (Nat.le_of_ble_eq_true rfl) (e_X10_paperLine (R := some r) (fun x0 m0 q => by cases q; exact ⟨rfl, rfl⟩) (fun q => by cases q) h)
set_option maxRecDepth 20000 in
set_option maxHeartbeats 4000000 in
theorem e_jn_X10_watchLine_34 {G : ev_G} {Q : Option ev_V → ev_M → Prop} {R : Option (Bool × ev_m)} (hR : ∀ (x0 : Bool) (m0 : ev_m), (some ((x0, m0))) = R → Q (some (vi (bi x0))) (ev_emb m0)) (hN : none ≠ R) {m6 : ev_m} {i4 : Nat} {x5 : Int32} (h : jn_X10_watchLine_34 m6 i4 x5 = R) : ev_E G K_X10_watchLine B_X10_watchLine (0, 0) 34 [some (vr 10 (i4)), none, none, none, some (vi (x5)), none] [] (ev_emb m6) Q := by
  unfold jn_X10_watchLine_34 at h
  refine ev_aload_0 (pc := 34) dX10_watchLine_34 ?_
  obtain ⟨m7, hm7, h⟩ := ev_bindE hN h
  refine cl0_X10_140 (pc := 35) rfl dX10_watchLine_35 (by decide) (Nat.le_of_ble_eq_true rfl) (c_X10_token hm7) ?_
  refine ev_aload_0 (pc := 38) dX10_watchLine_38 ?_
  refine ev_iconst (pc := 39) (v := 0) dX10_watchLine_39 rfl ?_
  refine ev_iconst (pc := 40) (v := 3) dX10_watchLine_40 rfl ?_
  obtain ⟨p8, hp8, h⟩ := ev_bindE hN h
  refine cl1_X10_143 (pc := 41) rfl dX10_watchLine_41 (by decide) (Nat.le_of_ble_eq_true rfl) (c_X10_number hp8) ?_
  refine ev_ifb_ne (pc := 44) (tgt := 49) dX10_watchLine_44 (by decide) (fun c9 => ?_) (fun c9 => ?_)
  · replace h := ev_ifp h c9
    refine ev_aload_0 (pc := 49) dX10_watchLine_49 ?_
    refine gt_X10_133 (pc := 50) rfl dX10_watchLine_50 ?_
    obtain ⟨x10, hx10, h⟩ := ev_letE h
    refine ev_topi (pc := 53) hx10 ?_
    refine ev_istore_5 (pc := 53) dX10_watchLine_53 (by decide) rfl ?_
    refine ev_aload_0 (pc := 55) dX10_watchLine_55 ?_
    refine ev_iconst (pc := 56) (v := 1) dX10_watchLine_56 rfl ?_
    refine ev_sipush (pc := 57) (v := 200) dX10_watchLine_57 (by decide) ?_
    obtain ⟨p11, hp11, h⟩ := ev_bindE hN h
    refine cl1_X10_143 (pc := 60) rfl dX10_watchLine_60 (by decide) (Nat.le_of_ble_eq_true rfl) (c_X10_number hp11) ?_
    refine ev_ifb_ne (pc := 63) (tgt := 68) dX10_watchLine_63 (by decide) (fun c12 => ?_) (fun c12 => ?_)
    · replace h := ev_ifp h c12
      refine ev_iload_4 (pc := 68) dX10_watchLine_68 ?_
      refine ev_bipush (pc := 70) (v := 8) dX10_watchLine_70 (by decide) ?_
      refine ev_icc_ge (pc := 72) (tgt := 113) dX10_watchLine_72 (by decide) (fun c13 => ?_) (fun c13 => ?_)
      · replace h := ev_ifn h c13
        refine ev_iconst (pc := 113) (v := 1) dX10_watchLine_113 rfl ?_
        exact ev_iret (pc := 114) dX10_watchLine_114 rfl rfl (hR _ _ h)
      · replace h := ev_ifp h c13
        refine ev_aload_0 (pc := 75) dX10_watchLine_75 ?_
        refine gt_X10_38 (pc := 76) rfl dX10_watchLine_76 ?_
        refine ev_iconst (pc := 79) (v := 1) dX10_watchLine_79 rfl ?_
        refine ev_iconst (pc := 80) (v := 2) dX10_watchLine_80 rfl ?_
        refine ev_iload_4 (pc := 81) dX10_watchLine_81 ?_
        refine ev_imul (pc := 83) dX10_watchLine_83 ?_
        refine ev_iadd (pc := 84) dX10_watchLine_84 ?_
        refine ev_iload_5 (pc := 85) dX10_watchLine_85 ?_
        obtain ⟨m14, hm14, h⟩ := ev_bindE hN h
        refine ev_iast1 (pc := 87) rfl (by decide) (by decide) rfl hm14 dX10_watchLine_87 ?_
        refine ev_aload_0 (pc := 88) dX10_watchLine_88 ?_
        refine gt_X10_38 (pc := 89) rfl dX10_watchLine_89 ?_
        refine ev_iconst (pc := 92) (v := 2) dX10_watchLine_92 rfl ?_
        refine ev_iconst (pc := 93) (v := 2) dX10_watchLine_93 rfl ?_
        refine ev_iload_4 (pc := 94) dX10_watchLine_94 ?_
        refine ev_imul (pc := 96) dX10_watchLine_96 ?_
        refine ev_iadd (pc := 97) dX10_watchLine_97 ?_
        refine ev_aload_0 (pc := 98) dX10_watchLine_98 ?_
        refine gt_X10_133 (pc := 99) rfl dX10_watchLine_99 ?_
        obtain ⟨m15, hm15, h⟩ := ev_bindE hN h
        refine ev_iast1 (pc := 102) rfl (by decide) (by decide) rfl hm15 dX10_watchLine_102 ?_
        refine ev_aload_0 (pc := 103) dX10_watchLine_103 ?_
        refine gt_X10_38 (pc := 104) rfl dX10_watchLine_104 ?_
        refine ev_iconst (pc := 107) (v := 0) dX10_watchLine_107 rfl ?_
        refine ev_dup2_ri (pc := 108) dX10_watchLine_108 ?_
        refine ev_ialdS (pc := 109) (j := 0) rfl (by decide) (by decide) (vp_in_iff.mpr (by decide)) dX10_watchLine_109 ?_
        refine ev_iconst (pc := 110) (v := 1) dX10_watchLine_110 rfl ?_
        refine ev_iadd (pc := 111) dX10_watchLine_111 ?_
        obtain ⟨m16, hm16, h⟩ := ev_letE h
        refine ev_iastS (pc := 112) (j := 0) rfl (by decide) (by decide) (by decide) (vp_in_iff.mpr (by decide)) dX10_watchLine_112 ?_
        refine ev_mem (pc := 113) hm16 ?_
        refine ev_iconst (pc := 113) (v := 1) dX10_watchLine_113 rfl ?_
        exact ev_iret (pc := 114) dX10_watchLine_114 rfl rfl (hR _ _ h)
    · replace h := ev_ifn h c12
      refine ev_iconst (pc := 66) (v := 0) dX10_watchLine_66 rfl ?_
      exact ev_iret (pc := 67) dX10_watchLine_67 rfl rfl (hR _ _ h)
  · replace h := ev_ifn h c9
    refine ev_iconst (pc := 47) (v := 0) dX10_watchLine_47 rfl ?_
    exact ev_iret (pc := 48) dX10_watchLine_48 rfl rfl (hR _ _ h)
set_option maxRecDepth 20000 in
set_option maxHeartbeats 4000000 in
theorem e_X10_watchLine {G : ev_G} {Q : Option ev_V → ev_M → Prop} {R : Option (Bool × ev_m)} {mF : ev_m} (hR : ∀ (x0 : Bool) (m0 : ev_m), (some ((x0, m0))) = R → Q (some (vi (bi x0))) (ev_emb m0)) (hN : none ≠ R) {i0 : Nat} {y1_ : Int64} {x3_ : Int32} (h : f_X10_watchLine mF i0 y1_ x3_ = R) : ev_E G K_X10_watchLine B_X10_watchLine (0, 0) 0 [some (vr 10 (i0)), some (vl (y1_)), none, some (vi (x3_)), none, none] [] (ev_emb mF) Q := by
  unfold f_X10_watchLine at h
  refine ev_lload_1 (pc := 0) dX10_watchLine_0 ?_
  refine ev_ldc2 (pc := 1) (v := 7168366) kl_X10_203 dX10_watchLine_1 ?_
  refine ev_lcc_eq (pc := 4) (tgt := 13) dX10_watchLine_4 dX10_watchLine_5 (by decide) (fun c1 => ?_) (fun c1 => ?_)
  · replace h := ev_ifp h c1
    refine ev_aload_0 (pc := 13) dX10_watchLine_13 ?_
    refine gt_X10_38 (pc := 14) rfl dX10_watchLine_14 ?_
    refine ev_iconst (pc := 17) (v := 0) dX10_watchLine_17 rfl ?_
    refine ev_ialdS (pc := 18) (j := 0) rfl (by decide) (by decide) (vp_in_iff.mpr (by decide)) dX10_watchLine_18 ?_
    obtain ⟨x2, hx2, h⟩ := ev_letE h
    refine ev_topi (pc := 19) hx2 ?_
    refine ev_istore_4 (pc := 19) dX10_watchLine_19 (by decide) rfl ?_
    refine ev_iload_4 (pc := 21) dX10_watchLine_21 ?_
    refine ev_bipush (pc := 23) (v := 8) dX10_watchLine_23 (by decide) ?_
    refine ev_icc_ne (pc := 25) (tgt := 34) dX10_watchLine_25 (by decide) (fun c3 => ?_) (fun c3 => ?_)
    · replace h := ev_ifn h c3
      refine ev_E.forget (L' := [some (vr 10 (i0)), none, none, none, some (vi (x2)), none]) ⟨rfl, ⟨rfl, trivial⟩⟩ ?_
      exact e_jn_X10_watchLine_34 hR hN h
    · replace h := ev_ifp h c3
      refine ev_aload_0 (pc := 28) dX10_watchLine_28 ?_
      refine ev_iconst (pc := 29) (v := 3) dX10_watchLine_29 rfl ?_
      refine ev_iload_3 (pc := 30) dX10_watchLine_30 ?_
      obtain ⟨m17, hm17, h⟩ := ev_letE h
      refine cl0_X10_136 (pc := 31) (fr := 0) (lo := 0) (m' := m17) rfl dX10_watchLine_31 (by decide) (Nat.le_of_ble_eq_true rfl) (by rw [hm17]; exact c_X10_later mF i0 3 x3_) ?_
      refine ev_E.forget (L' := [some (vr 10 (i0)), none, none, none, some (vi (x2)), none]) ⟨rfl, ⟨rfl, trivial⟩⟩ ?_
      exact e_jn_X10_watchLine_34 hR hN h
  · replace h := ev_ifn h c1
    refine ev_aload_0 (pc := 8) dX10_watchLine_8 ?_
    obtain ⟨p18, hp18, h⟩ := ev_letE h
    refine cl1_X10_129 (pc := 9) (fr := 0) (lo := 0) (m' := p18.2) (v := vi (bi (p18.1))) rfl dX10_watchLine_9 (by decide) (Nat.le_of_ble_eq_true rfl) (by rw [hp18]; exact c_X10_stops mF i0) ?_
    exact ev_iret (pc := 12) dX10_watchLine_12 rfl (ev_nb _) (hR _ _ h)
theorem c_X10_watchLine {G : ev_G} {mF : ev_m} {i0 : Nat} {y1_ : Int64} {x3_ : Int32} {r : Bool × ev_m} (h : f_X10_watchLine mF i0 y1_ x3_ = some r) : ev_CF G K_X10_watchLine B_X10_watchLine [vr 10 (i0), vl (y1_), vi (x3_)] mF (some (vi (bi (r.1)))) r.2 :=
  ev_Ct_of rfl rfl (Nat.le_of_ble_eq_true rfl) (e_X10_watchLine (R := some r) (fun x0 m0 q => by cases q; exact ⟨rfl, rfl⟩) (fun q => by cases q) h)
set_option maxRecDepth 20000 in
set_option maxHeartbeats 4000000 in
theorem e_lp_X10_clear_2 {G : ev_G} {Q : Option ev_V → ev_M → Prop} {R : Option (ev_m)} (hR : ∀ m0 : ev_m, (some (m0)) = R → Q none (ev_emb m0)) (hN : none ≠ R) {i1 : Nat} {x2 : Int32} : ∀ (f : Nat) (x3 : Int32) (m4 : ev_m) (kx : ev_m → Option (ev_m)) (h : lp_X10_clear_2 i1 x2 f x3 m4 kx = R) (hk : ∀ (m4' : ev_m), kx m4' = R → ev_E G K_X10_clear B_X10_clear (0, 0) 21 [some (vr 10 (i1)), some (vi (x2)), none] [] (ev_emb m4') Q), ev_E G K_X10_clear B_X10_clear (0, 0) 2 [some (vr 10 (i1)), some (vi (x2)), some (vi (x3))] [] (ev_emb m4) Q := by
  intro f
  induction f with
  | zero => intro x3 m4 kx h hk; rw [lp_X10_clear_2] at h; exact absurd h hN
  | succ f ih =>
    intro x3 m4 kx h hk
    rw [lp_X10_clear_2] at h
    refine ev_iload_2 (pc := 2) dX10_clear_2 ?_
    refine ev_bipush (pc := 3) (v := 61) dX10_clear_3 (by decide) ?_
    refine ev_icc_ge (pc := 5) (tgt := 21) dX10_clear_5 (by decide) (fun c5 => ?_) (fun c5 => ?_)
    · replace h := ev_ifn h c5
      refine ev_E.forget (L' := [some (vr 10 (i1)), some (vi (x2)), none]) ⟨rfl, ⟨rfl, trivial⟩⟩ ?_
      exact hk _  h
    · replace h := ev_ifp h c5
      refine ev_aload_0 (pc := 8) dX10_clear_8 ?_
      refine gt_X10_38 (pc := 9) rfl dX10_clear_9 ?_
      refine ev_iload_2 (pc := 12) dX10_clear_12 ?_
      refine ev_iconst (pc := 13) (v := 0) dX10_clear_13 rfl ?_
      obtain ⟨m6, hm6, h⟩ := ev_bindE hN h
      refine ev_iast1 (pc := 14) rfl (by decide) (by decide) rfl hm6 dX10_clear_14 ?_
      refine ev_iinc_2 (pc := 15) (y := x3 + 1) dX10_clear_15 rfl (by decide) rfl ?_
      refine ev_goto (pc := 18) (tgt := 2) dX10_clear_18 (by decide) ?_
      exact ih _ _ kx h hk
set_option maxRecDepth 20000 in
set_option maxHeartbeats 4000000 in
theorem e_jn_X10_clear_64 {G : ev_G} {Q : Option ev_V → ev_M → Prop} {R : Option (ev_m)} (hR : ∀ m0 : ev_m, (some (m0)) = R → Q none (ev_emb m0)) (hN : none ≠ R) {m11 : ev_m} {i9 : Nat} {x10 : Int32} (h : jn_X10_clear_64 m11 i9 x10 = R) : ev_E G K_X10_clear B_X10_clear (0, 0) 64 [some (vr 10 (i9)), some (vi (x10)), none] [] (ev_emb m11) Q := by
  unfold jn_X10_clear_64 at h
  refine ev_aload_0 (pc := 64) dX10_clear_64 ?_
  refine gt_X10_38 (pc := 65) rfl dX10_clear_65 ?_
  refine ev_iconst (pc := 68) (v := 4) dX10_clear_68 rfl ?_
  refine ev_iload_1 (pc := 69) dX10_clear_69 ?_
  refine ev_iconst (pc := 70) (v := 1) dX10_clear_70 rfl ?_
  obtain ⟨x13, hx13, h⟩ := ev_letE h
  have hJ1 : ev_E G K_X10_clear B_X10_clear (0, 0) 84 [some (vr 10 (i9)), some (vi (x10)), none] [vi (x13), vi (4), vr 39 (0)] (ev_emb m11) Q := by
    obtain ⟨m14, hm14, h⟩ := ev_letE h
    refine ev_iastS (pc := 84) (j := 4) rfl (by decide) (by decide) (by decide) (vp_in_iff.mpr (by decide)) dX10_clear_84 ?_
    refine ev_mem (pc := 85) hm14 ?_
    exact ev_vret (pc := 85) dX10_clear_85 rfl (hR _ h)
  refine ev_icc_ne (pc := 71) (tgt := 78) dX10_clear_71 (by decide) (fun c12 => ?_) (fun c12 => ?_)
  · refine ev_aload_0 (pc := 78) dX10_clear_78 ?_
    refine gt_X10_38 (pc := 79) rfl dX10_clear_79 ?_
    refine ev_iconst (pc := 82) (v := 4) dX10_clear_82 rfl ?_
    refine ev_ialdS (pc := 83) (j := 4) rfl (by decide) (by decide) (vp_in_iff.mpr (by decide)) dX10_clear_83 ?_
    replace hx13 := (hx13.trans (if_neg c12))
    subst hx13
    exact hJ1
  · refine ev_iconst (pc := 74) (v := 1) dX10_clear_74 rfl ?_
    refine ev_goto (pc := 75) (tgt := 84) dX10_clear_75 (by decide) ?_
    replace hx13 := (hx13.trans (if_pos c12))
    subst hx13
    exact hJ1
set_option maxRecDepth 20000 in
set_option maxHeartbeats 4000000 in
theorem e_X10_clear {G : ev_G} {Q : Option ev_V → ev_M → Prop} {R : Option (ev_m)} {mF : ev_m} (hR : ∀ m0 : ev_m, (some (m0)) = R → Q none (ev_emb m0)) (hN : none ≠ R) {i0 : Nat} {x1_ : Int32} (h : f_X10_clear mF i0 x1_ = R) : ev_E G K_X10_clear B_X10_clear (0, 0) 0 [some (vr 10 (i0)), some (vi (x1_)), none] [] (ev_emb mF) Q := by
  unfold f_X10_clear at h
  refine ev_iconst (pc := 0) (v := 0) dX10_clear_0 rfl ?_
  refine ev_istore_2 (pc := 1) dX10_clear_1 (by decide) rfl ?_
  refine e_lp_X10_clear_2 hR hN 4000 _ _ _ h (fun m7 h => ?_)
  refine ev_iload_1 (pc := 21) dX10_clear_21 ?_
  refine ev_ifc_ne (pc := 22) (tgt := 64) dX10_clear_22 (by decide) (fun c8 => ?_) (fun c8 => ?_)
  · replace h := ev_ifn h c8
    exact e_jn_X10_clear_64 hR hN h
  · replace h := ev_ifp h c8
    refine ev_aload_0 (pc := 25) dX10_clear_25 ?_
    refine gt_X10_38 (pc := 26) rfl dX10_clear_26 ?_
    refine ev_iconst (pc := 29) (v := 0) dX10_clear_29 rfl ?_
    refine ev_iconst (pc := 30) (v := 5) dX10_clear_30 rfl ?_
    obtain ⟨m15, hm15, h⟩ := ev_letE h
    refine ev_iastS (pc := 31) (j := 0) rfl (by decide) (by decide) (by decide) (vp_in_iff.mpr (by decide)) dX10_clear_31 ?_
    refine ev_mem (pc := 32) hm15 ?_
    refine ev_aload_0 (pc := 32) dX10_clear_32 ?_
    refine gt_X10_38 (pc := 33) rfl dX10_clear_33 ?_
    refine ev_iconst (pc := 36) (v := 1) dX10_clear_36 rfl ?_
    refine ev_bipush (pc := 37) (v := 10) dX10_clear_37 (by decide) ?_
    obtain ⟨m16, hm16, h⟩ := ev_letE h
    refine ev_iastS (pc := 39) (j := 1) rfl (by decide) (by decide) (by decide) (vp_in_iff.mpr (by decide)) dX10_clear_39 ?_
    refine ev_mem (pc := 40) hm16 ?_
    refine ev_aload_0 (pc := 40) dX10_clear_40 ?_
    refine gt_X10_38 (pc := 41) rfl dX10_clear_41 ?_
    refine ev_iconst (pc := 44) (v := 3) dX10_clear_44 rfl ?_
    refine ev_bipush (pc := 45) (v := 35) dX10_clear_45 (by decide) ?_
    obtain ⟨m17, hm17, h⟩ := ev_letE h
    refine ev_iastS (pc := 47) (j := 3) rfl (by decide) (by decide) (by decide) (vp_in_iff.mpr (by decide)) dX10_clear_47 ?_
    refine ev_mem (pc := 48) hm17 ?_
    refine ev_aload_0 (pc := 48) dX10_clear_48 ?_
    refine gt_X10_38 (pc := 49) rfl dX10_clear_49 ?_
    refine ev_iconst (pc := 52) (v := 4) dX10_clear_52 rfl ?_
    refine ev_bipush (pc := 53) (v := 35) dX10_clear_53 (by decide) ?_
    obtain ⟨m18, hm18, h⟩ := ev_letE h
    refine ev_iastS (pc := 55) (j := 4) rfl (by decide) (by decide) (by decide) (vp_in_iff.mpr (by decide)) dX10_clear_55 ?_
    refine ev_mem (pc := 56) hm18 ?_
    refine ev_aload_0 (pc := 56) dX10_clear_56 ?_
    refine gt_X10_38 (pc := 57) rfl dX10_clear_57 ?_
    refine ev_bipush (pc := 60) (v := 10) dX10_clear_60 (by decide) ?_
    refine ev_iconst (pc := 62) (v := 1) dX10_clear_62 rfl ?_
    obtain ⟨m19, hm19, h⟩ := ev_letE h
    refine ev_iastS (pc := 63) (j := 10) rfl (by decide) (by decide) (by decide) (vp_in_iff.mpr (by decide)) dX10_clear_63 ?_
    refine ev_mem (pc := 64) hm19 ?_
    exact e_jn_X10_clear_64 hR hN h
theorem c_X10_clear {G : ev_G} {mF : ev_m} {i0 : Nat} {x1_ : Int32} {r : ev_m} (h : f_X10_clear mF i0 x1_ = some r) : ev_CF G K_X10_clear B_X10_clear [vr 10 (i0), vi (x1_)] mF none r :=
  ev_Ct_of rfl rfl (Nat.le_of_ble_eq_true rfl) (e_X10_clear (R := some r) (fun m0 q => by cases q; exact ⟨rfl, rfl⟩) (fun q => by cases q) h)
set_option maxRecDepth 20000 in
set_option maxHeartbeats 4000000 in
theorem e_jn_X10_readText_130_21 {G : ev_G} {Q : Option ev_V → ev_M → Prop} {R : Option (Bool × ev_m)} (hR : ∀ (x0 : Bool) (m0 : ev_m), (some ((x0, m0))) = R → Q (some (vi (bi x0))) (ev_emb m0)) (hN : none ≠ R) {m25 : ev_m} {i5 : Nat} {x6 : Int32} {x24 : Bool} {kb : Int32 → ev_m → Option (Bool × ev_m)} {kx : Int32 → ev_m → Option (Bool × ev_m)}  (h : jn_X10_readText_130_21 m25 i5 x6 x24 kb kx = R) (hkb : ∀ (x7' : Int32) (m8' : ev_m), kb x7' m8' = R → ev_E G K_X10_readText B_X10_readText (0, 0) 21 [some (vr 10 (i5)), some (vi (x6)), some (vi (x7')), none, none, none] [] (ev_emb m8') Q) (hkx : ∀ (x7' : Int32) (m8' : ev_m), kx x7' m8' = R → ev_E G K_X10_readText B_X10_readText (0, 0) 133 [some (vr 10 (i5)), some (vi (x6)), some (vi (x7')), none, none, none] [] (ev_emb m8') Q) : ev_E G K_X10_readText B_X10_readText (0, 0) 130 [some (vr 10 (i5)), some (vi (x6)), some (vi (bi (x24))), none, none, none] [] (ev_emb m25) Q := by
  unfold jn_X10_readText_130_21 at h
  refine ev_goto (pc := 130) (tgt := 21) dX10_readText_130 (by decide) ?_
  exact hkb _ _  h
set_option maxRecDepth 20000 in
set_option maxHeartbeats 4000000 in
theorem e_jn_X10_readText_122_21 {G : ev_G} {Q : Option ev_V → ev_M → Prop} {R : Option (Bool × ev_m)} (hR : ∀ (x0 : Bool) (m0 : ev_m), (some ((x0, m0))) = R → Q (some (vi (bi x0))) (ev_emb m0)) (hN : none ≠ R) {m22 : ev_m} {i5 : Nat} {x6 : Int32} {x21 : Bool} {kb : Int32 → ev_m → Option (Bool × ev_m)} {kx : Int32 → ev_m → Option (Bool × ev_m)}  (h : jn_X10_readText_122_21 m22 i5 x6 x21 kb kx = R) (hkb : ∀ (x7' : Int32) (m8' : ev_m), kb x7' m8' = R → ev_E G K_X10_readText B_X10_readText (0, 0) 21 [some (vr 10 (i5)), some (vi (x6)), some (vi (x7')), none, none, none] [] (ev_emb m8') Q) (hkx : ∀ (x7' : Int32) (m8' : ev_m), kx x7' m8' = R → ev_E G K_X10_readText B_X10_readText (0, 0) 133 [some (vr 10 (i5)), some (vi (x6)), some (vi (x7')), none, none, none] [] (ev_emb m8') Q) : ev_E G K_X10_readText B_X10_readText (0, 0) 122 [some (vr 10 (i5)), some (vi (x6)), some (vi (bi (x21))), none, none, none] [] (ev_emb m22) Q := by
  unfold jn_X10_readText_122_21 at h
  refine ev_iload_2 (pc := 122) dX10_readText_122 ?_
  refine ev_ifb_eq (pc := 123) (tgt := 130) dX10_readText_123 (by decide) (fun c23 => ?_) (fun c23 => ?_)
  · replace h := ev_ifn h c23
    exact e_jn_X10_readText_130_21 hR hN h hkb hkx
  · replace h := ev_ifp h c23
    refine ev_aload_0 (pc := 126) dX10_readText_126 ?_
    obtain ⟨m26, hm26, h⟩ := ev_bindE hN h
    refine cl0_X10_140 (pc := 127) rfl dX10_readText_127 (by decide) (Nat.le_of_ble_eq_true rfl) (c_X10_token hm26) ?_
    exact e_jn_X10_readText_130_21 hR hN h hkb hkx
set_option maxRecDepth 20000 in
set_option maxHeartbeats 4000000 in
theorem e_jn_X10_readText_104_21 {G : ev_G} {Q : Option ev_V → ev_M → Prop} {R : Option (Bool × ev_m)} (hR : ∀ (x0 : Bool) (m0 : ev_m), (some ((x0, m0))) = R → Q (some (vi (bi x0))) (ev_emb m0)) (hN : none ≠ R) {m19 : ev_m} {i5 : Nat} {x6 : Int32} {x18 : Bool} {kb : Int32 → ev_m → Option (Bool × ev_m)} {kx : Int32 → ev_m → Option (Bool × ev_m)}  (h : jn_X10_readText_104_21 m19 i5 x6 x18 kb kx = R) (hkb : ∀ (x7' : Int32) (m8' : ev_m), kb x7' m8' = R → ev_E G K_X10_readText B_X10_readText (0, 0) 21 [some (vr 10 (i5)), some (vi (x6)), some (vi (x7')), none, none, none] [] (ev_emb m8') Q) (hkx : ∀ (x7' : Int32) (m8' : ev_m), kx x7' m8' = R → ev_E G K_X10_readText B_X10_readText (0, 0) 133 [some (vr 10 (i5)), some (vi (x6)), some (vi (x7')), none, none, none] [] (ev_emb m8') Q) : ev_E G K_X10_readText B_X10_readText (0, 0) 104 [some (vr 10 (i5)), some (vi (x6)), none, none, none, none] [vi (bi (x18))] (ev_emb m19) Q := by
  unfold jn_X10_readText_104_21 at h
  refine ev_istore_2 (pc := 104) dX10_readText_104 (by decide) rfl ?_
  refine ev_iload_2 (pc := 105) dX10_readText_105 ?_
  refine ev_ifb_eq (pc := 106) (tgt := 122) dX10_readText_106 (by decide) (fun c20 => ?_) (fun c20 => ?_)
  · replace h := ev_ifn h c20
    exact e_jn_X10_readText_122_21 hR hN h hkb hkx
  · replace h := ev_ifp h c20
    refine ev_aload_0 (pc := 109) dX10_readText_109 ?_
    refine gt_X10_114 (pc := 110) rfl dX10_readText_110 ?_
    refine ev_iconst (pc := 113) (v := 4) dX10_readText_113 rfl ?_
    refine ev_icc_eq (pc := 114) (tgt := 122) dX10_readText_114 (by decide) (fun c27 => ?_) (fun c27 => ?_)
    · replace h := ev_ifp h c27
      exact e_jn_X10_readText_122_21 hR hN h hkb hkx
    · replace h := ev_ifn h c27
      refine ev_aload_0 (pc := 117) dX10_readText_117 ?_
      obtain ⟨p28, hp28, h⟩ := ev_letE h
      refine cl1_X10_129 (pc := 118) (fr := 0) (lo := 0) (m' := p28.2) (v := vi (bi (p28.1))) rfl dX10_readText_118 (by decide) (Nat.le_of_ble_eq_true rfl) (by rw [hp28]; exact c_X10_stops m19 i5) ?_
      obtain ⟨x29, hx29, h⟩ := ev_letE h
      refine ev_topb (pc := 121) hx29 ?_
      refine ev_istore_2 (pc := 121) dX10_readText_121 (by decide) rfl ?_
      exact e_jn_X10_readText_122_21 hR hN h hkb hkx
set_option maxRecDepth 20000 in
set_option maxHeartbeats 4000000 in
theorem e_lp_X10_readText_21 {G : ev_G} {Q : Option ev_V → ev_M → Prop} {R : Option (Bool × ev_m)} (hR : ∀ (x0 : Bool) (m0 : ev_m), (some ((x0, m0))) = R → Q (some (vi (bi x0))) (ev_emb m0)) (hN : none ≠ R) {i5 : Nat} {x6 : Int32} : ∀ (f : Nat) (x7 : Int32) (m8 : ev_m) (kx : Int32 → ev_m → Option (Bool × ev_m)) (h : lp_X10_readText_21 i5 x6 f x7 m8 kx = R) (hk : ∀ (x7' : Int32) (m8' : ev_m), kx x7' m8' = R → ev_E G K_X10_readText B_X10_readText (0, 0) 133 [some (vr 10 (i5)), some (vi (x6)), some (vi (x7')), none, none, none] [] (ev_emb m8') Q), ev_E G K_X10_readText B_X10_readText (0, 0) 21 [some (vr 10 (i5)), some (vi (x6)), some (vi (x7)), none, none, none] [] (ev_emb m8) Q := by
  intro f
  induction f with
  | zero => intro x7 m8 kx h hk; rw [lp_X10_readText_21] at h; exact absurd h hN
  | succ f ih =>
    intro x7 m8 kx h hk
    rw [lp_X10_readText_21] at h
    refine ev_iload_2 (pc := 21) dX10_readText_21 ?_
    refine ev_ifc_eq (pc := 22) (tgt := 133) dX10_readText_22 (by decide) (fun c9 => ?_) (fun c9 => ?_)
    · replace h := ev_ifp h c9
      exact hk _ _  h
    · replace h := ev_ifn h c9
      refine ev_aload_0 (pc := 25) dX10_readText_25 ?_
      refine gt_X10_114 (pc := 26) rfl dX10_readText_26 ?_
      refine ev_ifc_eq (pc := 29) (tgt := 133) dX10_readText_29 (by decide) (fun c10 => ?_) (fun c10 => ?_)
      · replace h := ev_ifp h c10
        exact hk _ _  h
      · replace h := ev_ifn h c10
        refine ev_aload_0 (pc := 32) dX10_readText_32 ?_
        refine gt_X10_107 (pc := 33) rfl dX10_readText_33 ?_
        obtain ⟨x11, hx11, h⟩ := ev_letE h
        refine ev_topi (pc := 36) hx11 ?_
        refine ev_istore_3 (pc := 36) dX10_readText_36 (by decide) rfl ?_
        refine ev_aload_0 (pc := 37) dX10_readText_37 ?_
        refine gt_X10_114 (pc := 38) rfl dX10_readText_38 ?_
        refine ev_iconst (pc := 41) (v := 2) dX10_readText_41 rfl ?_
        obtain ⟨y13, hy13, h⟩ := ev_letE h
        have hJ1 : ev_E G K_X10_readText B_X10_readText (0, 0) 53 [some (vr 10 (i5)), some (vi (x6)), some (vi (x7)), some (vi (x11)), none, none] [vl (y13)] (ev_emb m8) Q := by
          refine ev_lstore_4 (pc := 53) dX10_readText_53 (by decide) rfl ?_
          refine ev_iload_1 (pc := 55) dX10_readText_55 ?_
          refine ev_ifc_ne (pc := 56) (tgt := 68) dX10_readText_56 (by decide) (fun c14 => ?_) (fun c14 => ?_)
          · replace h := ev_ifn h c14
            refine ev_iload_1 (pc := 68) dX10_readText_68 ?_
            refine ev_iconst (pc := 69) (v := 1) dX10_readText_69 rfl ?_
            refine ev_icc_ne (pc := 70) (tgt := 83) dX10_readText_70 (by decide) (fun c15 => ?_) (fun c15 => ?_)
            · replace h := ev_ifn h c15
              refine ev_iload_1 (pc := 83) dX10_readText_83 ?_
              refine ev_iconst (pc := 84) (v := 2) dX10_readText_84 rfl ?_
              refine ev_icc_ne (pc := 85) (tgt := 97) dX10_readText_85 (by decide) (fun c16 => ?_) (fun c16 => ?_)
              · replace h := ev_ifn h c16
                refine ev_aload_0 (pc := 97) dX10_readText_97 ?_
                refine ev_lload_4 (pc := 98) dX10_readText_98 ?_
                refine ev_iload_3 (pc := 100) dX10_readText_100 ?_
                obtain ⟨p17, hp17, h⟩ := ev_bindE hN h
                refine cl1_X10_219 (pc := 101) rfl dX10_readText_101 (by decide) (Nat.le_of_ble_eq_true rfl) (c_X10_watchLine hp17) ?_
                refine ev_E.forget (L' := [some (vr 10 (i5)), some (vi (x6)), none, none, none, none]) ⟨rfl, ⟨rfl, trivial⟩⟩ ?_
                exact e_jn_X10_readText_104_21 hR hN h (fun _ _ h => ih _ _ kx h hk) hk
              · replace h := ev_ifp h c16
                refine ev_aload_0 (pc := 88) dX10_readText_88 ?_
                refine ev_lload_4 (pc := 89) dX10_readText_89 ?_
                obtain ⟨p30, hp30, h⟩ := ev_bindE hN h
                refine cl1_X10_216 (pc := 91) rfl dX10_readText_91 (by decide) (Nat.le_of_ble_eq_true rfl) (c_X10_paperLine hp30) ?_
                refine ev_goto (pc := 94) (tgt := 104) dX10_readText_94 (by decide) ?_
                refine ev_E.forget (L' := [some (vr 10 (i5)), some (vi (x6)), none, none, none, none]) ⟨rfl, ⟨rfl, trivial⟩⟩ ?_
                exact e_jn_X10_readText_104_21 hR hN h (fun _ _ h => ih _ _ kx h hk) hk
            · replace h := ev_ifp h c15
              refine ev_aload_0 (pc := 73) dX10_readText_73 ?_
              refine ev_lload_4 (pc := 74) dX10_readText_74 ?_
              refine ev_iload_3 (pc := 76) dX10_readText_76 ?_
              obtain ⟨p31, hp31, h⟩ := ev_bindE hN h
              refine cl1_X10_212 (pc := 77) rfl dX10_readText_77 (by decide) (Nat.le_of_ble_eq_true rfl) (c_X10_handLine hp31) ?_
              refine ev_goto (pc := 80) (tgt := 104) dX10_readText_80 (by decide) ?_
              refine ev_E.forget (L' := [some (vr 10 (i5)), some (vi (x6)), none, none, none, none]) ⟨rfl, ⟨rfl, trivial⟩⟩ ?_
              exact e_jn_X10_readText_104_21 hR hN h (fun _ _ h => ih _ _ kx h hk) hk
          · replace h := ev_ifp h c14
            refine ev_aload_0 (pc := 59) dX10_readText_59 ?_
            refine ev_lload_4 (pc := 60) dX10_readText_60 ?_
            obtain ⟨p32, hp32, h⟩ := ev_bindE hN h
            refine cl1_X10_208 (pc := 62) rfl dX10_readText_62 (by decide) (Nat.le_of_ble_eq_true rfl) (c_X10_shipLine hp32) ?_
            refine ev_goto (pc := 65) (tgt := 104) dX10_readText_65 (by decide) ?_
            refine ev_E.forget (L' := [some (vr 10 (i5)), some (vi (x6)), none, none, none, none]) ⟨rfl, ⟨rfl, trivial⟩⟩ ?_
            exact e_jn_X10_readText_104_21 hR hN h (fun _ _ h => ih _ _ kx h hk) hk
        refine ev_icc_ne (pc := 42) (tgt := 52) dX10_readText_42 (by decide) (fun c12 => ?_) (fun c12 => ?_)
        · refine ev_lconst (pc := 52) (v := 0) dX10_readText_52 rfl ?_
          replace hy13 := (hy13.trans (if_neg c12))
          subst hy13
          exact hJ1
        · refine ev_aload_0 (pc := 45) dX10_readText_45 ?_
          refine gt_X10_110 (pc := 46) rfl dX10_readText_46 ?_
          refine ev_goto (pc := 49) (tgt := 53) dX10_readText_49 (by decide) ?_
          replace hy13 := (hy13.trans (if_pos c12))
          subst hy13
          exact hJ1
set_option maxRecDepth 20000 in
set_option maxHeartbeats 4000000 in
theorem e_jn_X10_readText_167 {G : ev_G} {Q : Option ev_V → ev_M → Prop} {R : Option (Bool × ev_m)} (hR : ∀ (x0 : Bool) (m0 : ev_m), (some ((x0, m0))) = R → Q (some (vi (bi x0))) (ev_emb m0)) (hN : none ≠ R) {m42 : ev_m} {i40 : Nat} {x41 : Int32} (h : jn_X10_readText_167 m42 i40 x41 = R) : ev_E G K_X10_readText B_X10_readText (0, 0) 167 [some (vr 10 (i40)), none, some (vi (x41)), none, none, none] [] (ev_emb m42) Q := by
  unfold jn_X10_readText_167 at h
  refine ev_aload_0 (pc := 167) dX10_readText_167 ?_
  refine gt_X10_17 (pc := 168) rfl dX10_readText_168 ?_
  refine ev_iconst (pc := 171) (v := 0) dX10_readText_171 rfl ?_
  refine ev_iload_2 (pc := 172) dX10_readText_172 ?_
  obtain ⟨x44, hx44, h⟩ := ev_letE h
  have hJ3 : ev_E G K_X10_readText B_X10_readText (0, 0) 184 [some (vr 10 (i40)), none, some (vi (x41)), none, none, none] [vi (x44), vi (0), vr 32 (0)] (ev_emb m42) Q := by
    obtain ⟨m45, hm45, h⟩ := ev_letE h
    refine ev_iastS (pc := 184) (j := 0) rfl (by decide) (by decide) (by decide) (vp_in_iff.mpr (by decide)) dX10_readText_184 ?_
    refine ev_mem (pc := 185) hm45 ?_
    refine ev_aload_0 (pc := 185) dX10_readText_185 ?_
    refine gt_X10_20 (pc := 186) rfl dX10_readText_186 ?_
    refine ev_iconst (pc := 189) (v := 0) dX10_readText_189 rfl ?_
    refine ev_iload_2 (pc := 190) dX10_readText_190 ?_
    obtain ⟨x48, hx48, h⟩ := ev_letE h
    have hJ2 : ev_E G K_X10_readText B_X10_readText (0, 0) 216 [some (vr 10 (i40)), none, some (vi (x41)), none, none, none] [vi (x48), vi (0), vr 33 (0)] (ev_emb m45) Q := by
      obtain ⟨m49, hm49, h⟩ := ev_letE h
      refine ev_iastS (pc := 216) (j := 0) rfl (by decide) (by decide) (by decide) (vp_in_iff.mpr (by decide)) dX10_readText_216 ?_
      refine ev_mem (pc := 217) hm49 ?_
      refine ev_aload_0 (pc := 217) dX10_readText_217 ?_
      refine gt_X10_17 (pc := 218) rfl dX10_readText_218 ?_
      refine ev_iconst (pc := 221) (v := 0) dX10_readText_221 rfl ?_
      refine ev_ialdS (pc := 222) (j := 0) rfl (by decide) (by decide) (vp_in_iff.mpr (by decide)) dX10_readText_222 ?_
      refine ev_ifc_ne (pc := 223) (tgt := 230) dX10_readText_223 (by decide) (fun c50 => ?_) (fun c50 => ?_)
      · replace h := ev_ifn h c50
        refine ev_iconst (pc := 230) (v := 0) dX10_readText_230 rfl ?_
        exact ev_iret (pc := 231) dX10_readText_231 rfl rfl (hR _ _ h)
      · replace h := ev_ifp h c50
        refine ev_iconst (pc := 226) (v := 1) dX10_readText_226 rfl ?_
        refine ev_goto (pc := 227) (tgt := 231) dX10_readText_227 (by decide) ?_
        exact ev_iret (pc := 231) dX10_readText_231 rfl rfl (hR _ _ h)
    refine ev_ifc_ne (pc := 191) (tgt := 201) dX10_readText_191 (by decide) (fun c46 => ?_) (fun c46 => ?_)
    · refine ev_aload_0 (pc := 201) dX10_readText_201 ?_
      refine gt_X10_123 (pc := 202) rfl dX10_readText_202 ?_
      refine ev_ifc_le (pc := 205) (tgt := 215) dX10_readText_205 (by decide) (fun c47 => ?_) (fun c47 => ?_)
      · refine ev_iconst (pc := 215) (v := (-1)) dX10_readText_215 rfl ?_
        replace hx48 := ((hx48.trans (if_neg c46)).trans (if_neg c47))
        subst hx48
        exact hJ2
      · refine ev_aload_0 (pc := 208) dX10_readText_208 ?_
        refine gt_X10_126 (pc := 209) rfl dX10_readText_209 ?_
        refine ev_goto (pc := 212) (tgt := 216) dX10_readText_212 (by decide) ?_
        replace hx48 := ((hx48.trans (if_neg c46)).trans (if_pos c47))
        subst hx48
        exact hJ2
    · refine ev_aload_0 (pc := 194) dX10_readText_194 ?_
      refine gt_X10_120 (pc := 195) rfl dX10_readText_195 ?_
      refine ev_goto (pc := 198) (tgt := 216) dX10_readText_198 (by decide) ?_
      replace hx48 := (hx48.trans (if_pos c46))
      subst hx48
      exact hJ2
  refine ev_ifc_eq (pc := 173) (tgt := 183) dX10_readText_173 (by decide) (fun c43 => ?_) (fun c43 => ?_)
  · refine ev_iconst (pc := 183) (v := 1) dX10_readText_183 rfl ?_
    replace hx44 := (hx44.trans (if_pos c43))
    subst hx44
    exact hJ3
  · refine ev_aload_0 (pc := 176) dX10_readText_176 ?_
    refine gt_X10_123 (pc := 177) rfl dX10_readText_177 ?_
    refine ev_goto (pc := 180) (tgt := 184) dX10_readText_180 (by decide) ?_
    replace hx44 := (hx44.trans (if_neg c43))
    subst hx44
    exact hJ3
set_option maxRecDepth 20000 in
set_option maxHeartbeats 4000000 in
theorem e_jn_X10_readText_133 {G : ev_G} {Q : Option ev_V → ev_M → Prop} {R : Option (Bool × ev_m)} (hR : ∀ (x0 : Bool) (m0 : ev_m), (some ((x0, m0))) = R → Q (some (vi (bi x0))) (ev_emb m0)) (hN : none ≠ R) {m38 : ev_m} {i35 : Nat} {x36 : Int32} {x37 : Int32} (h : jn_X10_readText_133 m38 i35 x36 x37 = R) : ev_E G K_X10_readText B_X10_readText (0, 0) 133 [some (vr 10 (i35)), some (vi (x36)), some (vi (x37)), none, none, none] [] (ev_emb m38) Q := by
  unfold jn_X10_readText_133 at h
  refine ev_iload_2 (pc := 133) dX10_readText_133 ?_
  refine ev_ifc_eq (pc := 134) (tgt := 167) dX10_readText_134 (by decide) (fun c39 => ?_) (fun c39 => ?_)
  · replace h := ev_ifp h c39
    refine ev_E.forget (L' := [some (vr 10 (i35)), none, some (vi (x37)), none, none, none]) ⟨rfl, ⟨rfl, trivial⟩⟩ ?_
    exact e_jn_X10_readText_167 hR hN h
  · replace h := ev_ifn h c39
    refine ev_iload_1 (pc := 137) dX10_readText_137 ?_
    refine ev_iconst (pc := 138) (v := 2) dX10_readText_138 rfl ?_
    refine ev_icc_ne (pc := 139) (tgt := 167) dX10_readText_139 (by decide) (fun c51 => ?_) (fun c51 => ?_)
    · replace h := ev_ifn h c51
      refine ev_E.forget (L' := [some (vr 10 (i35)), none, some (vi (x37)), none, none, none]) ⟨rfl, ⟨rfl, trivial⟩⟩ ?_
      exact e_jn_X10_readText_167 hR hN h
    · replace h := ev_ifp h c51
      refine ev_aload_0 (pc := 142) dX10_readText_142 ?_
      refine gt_X10_38 (pc := 143) rfl dX10_readText_143 ?_
      refine ev_iconst (pc := 146) (v := 0) dX10_readText_146 rfl ?_
      refine ev_ialdS (pc := 147) (j := 0) rfl (by decide) (by decide) (vp_in_iff.mpr (by decide)) dX10_readText_147 ?_
      refine ev_ifc_ne (pc := 148) (tgt := 167) dX10_readText_148 (by decide) (fun c52 => ?_) (fun c52 => ?_)
      · replace h := ev_ifn h c52
        refine ev_E.forget (L' := [some (vr 10 (i35)), none, some (vi (x37)), none, none, none]) ⟨rfl, ⟨rfl, trivial⟩⟩ ?_
        exact e_jn_X10_readText_167 hR hN h
      · replace h := ev_ifp h c52
        refine ev_aload_0 (pc := 151) dX10_readText_151 ?_
        refine gt_X10_123 (pc := 152) rfl dX10_readText_152 ?_
        refine ev_ifc_ne (pc := 155) (tgt := 167) dX10_readText_155 (by decide) (fun c53 => ?_) (fun c53 => ?_)
        · replace h := ev_ifn h c53
          refine ev_E.forget (L' := [some (vr 10 (i35)), none, some (vi (x37)), none, none, none]) ⟨rfl, ⟨rfl, trivial⟩⟩ ?_
          exact e_jn_X10_readText_167 hR hN h
        · replace h := ev_ifp h c53
          refine ev_aload_0 (pc := 158) dX10_readText_158 ?_
          refine ev_iconst (pc := 159) (v := 4) dX10_readText_159 rfl ?_
          refine ev_aload_0 (pc := 160) dX10_readText_160 ?_
          refine gt_X10_107 (pc := 161) rfl dX10_readText_161 ?_
          obtain ⟨m54, hm54, h⟩ := ev_letE h
          refine cl0_X10_136 (pc := 164) (fr := 0) (lo := 0) (m' := m54) rfl dX10_readText_164 (by decide) (Nat.le_of_ble_eq_true rfl) (by rw [hm54]; exact c_X10_later m38 i35 4 (m38.1 10 i35 12)) ?_
          refine ev_E.forget (L' := [some (vr 10 (i35)), none, some (vi (x37)), none, none, none]) ⟨rfl, ⟨rfl, trivial⟩⟩ ?_
          exact e_jn_X10_readText_167 hR hN h
set_option maxRecDepth 20000 in
set_option maxHeartbeats 4000000 in
theorem e_X10_readText {G : ev_G} {Q : Option ev_V → ev_M → Prop} {R : Option (Bool × ev_m)} {mF : ev_m} (hR : ∀ (x0 : Bool) (m0 : ev_m), (some ((x0, m0))) = R → Q (some (vi (bi x0))) (ev_emb m0)) (hN : none ≠ R) {i0 : Nat} {x1_ : Int32} (h : f_X10_readText mF i0 x1_ = R) : ev_E G K_X10_readText B_X10_readText (0, 0) 0 [some (vr 10 (i0)), some (vi (x1_)), none, none, none, none] [] (ev_emb mF) Q := by
  unfold f_X10_readText at h
  refine ev_aload_0 (pc := 0) dX10_readText_0 ?_
  refine ev_iload_1 (pc := 1) dX10_readText_1 ?_
  obtain ⟨m1, hm1, h⟩ := ev_bindE hN h
  refine cl0_X10_205 (pc := 2) rfl dX10_readText_2 (by decide) (Nat.le_of_ble_eq_true rfl) (c_X10_clear hm1) ?_
  refine ev_aload_0 (pc := 5) dX10_readText_5 ?_
  refine ev_iconst (pc := 6) (v := 0) dX10_readText_6 rfl ?_
  obtain ⟨m2, hm2, h⟩ := ev_letE h
  refine pt_X10_97 (pc := 7) rfl dX10_readText_7 ?_
  refine ev_mem (pc := 10) hm2 ?_
  refine ev_aload_0 (pc := 10) dX10_readText_10 ?_
  refine ev_iconst (pc := 11) (v := 0) dX10_readText_11 rfl ?_
  obtain ⟨m3, hm3, h⟩ := ev_letE h
  refine pt_X10_123 (pc := 12) rfl dX10_readText_12 ?_
  refine ev_mem (pc := 15) hm3 ?_
  refine ev_iconst (pc := 15) (v := 1) dX10_readText_15 rfl ?_
  refine ev_istore_2 (pc := 16) dX10_readText_16 (by decide) rfl ?_
  refine ev_aload_0 (pc := 17) dX10_readText_17 ?_
  obtain ⟨m4, hm4, h⟩ := ev_bindE hN h
  refine cl0_X10_140 (pc := 18) rfl dX10_readText_18 (by decide) (Nat.le_of_ble_eq_true rfl) (c_X10_token hm4) ?_
  refine e_lp_X10_readText_21 hR hN 4000 _ _ _ h (fun x33 m34 h => ?_)
  exact e_jn_X10_readText_133 hR hN h
theorem c_X10_readText {G : ev_G} {mF : ev_m} {i0 : Nat} {x1_ : Int32} {r : Bool × ev_m} (h : f_X10_readText mF i0 x1_ = some r) : ev_CF G K_X10_readText B_X10_readText [vr 10 (i0), vi (x1_)] mF (some (vi (bi (r.1)))) r.2 :=
  ev_Ct_of rfl rfl (Nat.le_of_ble_eq_true rfl) (e_X10_readText (R := some r) (fun x0 m0 q => by cases q; exact ⟨rfl, rfl⟩) (fun q => by cases q) h)
set_option maxRecDepth 20000 in
set_option maxHeartbeats 4000000 in
theorem e_lp_X10_store_2 {G : ev_G} {Q : Option ev_V → ev_M → Prop} {R : Option (ev_m)} (hR : ∀ m0 : ev_m, (some (m0)) = R → Q none (ev_emb m0)) (hN : none ≠ R) {i1 : Nat} {x2 : Int32} {x3 : Int32} : ∀ (f : Nat) (x4 : Int32) (m5 : ev_m) (kx : ev_m → Option (ev_m)) (h : lp_X10_store_2 i1 x2 x3 f x4 m5 kx = R) (hk : ∀ (m5' : ev_m), kx m5' = R → ev_E G K_X10_store B_X10_store (0, 0) 35 [some (vr 10 (i1)), some (vi (x2)), some (vi (x3)), none] [] (ev_emb m5') Q), ev_E G K_X10_store B_X10_store (0, 0) 2 [some (vr 10 (i1)), some (vi (x2)), some (vi (x3)), some (vi (x4))] [] (ev_emb m5) Q := by
  intro f
  induction f with
  | zero => intro x4 m5 kx h hk; rw [lp_X10_store_2] at h; exact absurd h hN
  | succ f ih =>
    intro x4 m5 kx h hk
    rw [lp_X10_store_2] at h
    refine ev_iload_3 (pc := 2) dX10_store_2 ?_
    refine ev_bipush (pc := 3) (v := 23) dX10_store_3 (by decide) ?_
    refine ev_icc_ge (pc := 5) (tgt := 35) dX10_store_5 (by decide) (fun c6 => ?_) (fun c6 => ?_)
    · replace h := ev_ifn h c6
      refine ev_E.forget (L' := [some (vr 10 (i1)), some (vi (x2)), some (vi (x3)), none]) ⟨rfl, ⟨rfl, ⟨rfl, trivial⟩⟩⟩ ?_
      exact hk _  h
    · replace h := ev_ifp h c6
      refine ev_iload_1 (pc := 8) dX10_store_8 ?_
      refine ev_ifc_ne (pc := 9) (tgt := 35) dX10_store_9 (by decide) (fun c7 => ?_) (fun c7 => ?_)
      · replace h := ev_ifn h c7
        refine ev_E.forget (L' := [some (vr 10 (i1)), some (vi (x2)), some (vi (x3)), none]) ⟨rfl, ⟨rfl, ⟨rfl, trivial⟩⟩⟩ ?_
        exact hk _  h
      · replace h := ev_ifp h c7
        refine ev_aload_0 (pc := 12) dX10_store_12 ?_
        refine gt_X10_26 (pc := 13) rfl dX10_store_13 ?_
        refine ev_bipush (pc := 16) (v := 23) dX10_store_16 (by decide) ?_
        refine ev_iload_2 (pc := 18) dX10_store_18 ?_
        refine ev_imul (pc := 19) dX10_store_19 ?_
        refine ev_iload_3 (pc := 20) dX10_store_20 ?_
        refine ev_iadd (pc := 21) dX10_store_21 ?_
        refine ev_aload_0 (pc := 22) dX10_store_22 ?_
        refine gt_X10_38 (pc := 23) rfl dX10_store_23 ?_
        refine ev_iload_3 (pc := 26) dX10_store_26 ?_
        obtain ⟨x8, hx8, h⟩ := ev_bindE hN h
        refine ev_iald1 (pc := 27) rfl (by decide) rfl hx8 dX10_store_27 ?_
        obtain ⟨m9, hm9, h⟩ := ev_bindE hN h
        refine ev_iast1 (pc := 28) rfl (by decide) (by decide) rfl hm9 dX10_store_28 ?_
        refine ev_iinc_3 (pc := 29) (y := x4 + 1) dX10_store_29 rfl (by decide) rfl ?_
        refine ev_goto (pc := 32) (tgt := 2) dX10_store_32 (by decide) ?_
        exact ih _ _ kx h hk
set_option maxRecDepth 20000 in
set_option maxHeartbeats 4000000 in
theorem e_lp_X10_store_37 {G : ev_G} {Q : Option ev_V → ev_M → Prop} {R : Option (ev_m)} (hR : ∀ m0 : ev_m, (some (m0)) = R → Q none (ev_emb m0)) (hN : none ≠ R) {i15 : Nat} {x16 : Int32} {x17 : Int32} : ∀ (f : Nat) (x18 : Int32) (m19 : ev_m) (kx : ev_m → Option (ev_m)) (h : lp_X10_store_37 i15 x16 x17 f x18 m19 kx = R) (hk : ∀ (m19' : ev_m), kx m19' = R → ev_E G K_X10_store B_X10_store (0, 0) 71 [some (vr 10 (i15)), some (vi (x16)), some (vi (x17)), none] [] (ev_emb m19') Q), ev_E G K_X10_store B_X10_store (0, 0) 37 [some (vr 10 (i15)), some (vi (x16)), some (vi (x17)), some (vi (x18))] [] (ev_emb m19) Q := by
  intro f
  induction f with
  | zero => intro x18 m19 kx h hk; rw [lp_X10_store_37] at h; exact absurd h hN
  | succ f ih =>
    intro x18 m19 kx h hk
    rw [lp_X10_store_37] at h
    refine ev_iload_3 (pc := 37) dX10_store_37 ?_
    refine ev_bipush (pc := 38) (v := 18) dX10_store_38 (by decide) ?_
    refine ev_icc_ge (pc := 40) (tgt := 71) dX10_store_40 (by decide) (fun c20 => ?_) (fun c20 => ?_)
    · replace h := ev_ifn h c20
      refine ev_E.forget (L' := [some (vr 10 (i15)), some (vi (x16)), some (vi (x17)), none]) ⟨rfl, ⟨rfl, ⟨rfl, trivial⟩⟩⟩ ?_
      exact hk _  h
    · replace h := ev_ifp h c20
      refine ev_iload_1 (pc := 43) dX10_store_43 ?_
      refine ev_iconst (pc := 44) (v := 1) dX10_store_44 rfl ?_
      refine ev_icc_ne (pc := 45) (tgt := 71) dX10_store_45 (by decide) (fun c21 => ?_) (fun c21 => ?_)
      · replace h := ev_ifn h c21
        refine ev_E.forget (L' := [some (vr 10 (i15)), some (vi (x16)), some (vi (x17)), none]) ⟨rfl, ⟨rfl, ⟨rfl, trivial⟩⟩⟩ ?_
        exact hk _  h
      · replace h := ev_ifp h c21
        refine ev_aload_0 (pc := 48) dX10_store_48 ?_
        refine gt_X10_29 (pc := 49) rfl dX10_store_49 ?_
        refine ev_bipush (pc := 52) (v := 18) dX10_store_52 (by decide) ?_
        refine ev_iload_2 (pc := 54) dX10_store_54 ?_
        refine ev_imul (pc := 55) dX10_store_55 ?_
        refine ev_iload_3 (pc := 56) dX10_store_56 ?_
        refine ev_iadd (pc := 57) dX10_store_57 ?_
        refine ev_aload_0 (pc := 58) dX10_store_58 ?_
        refine gt_X10_38 (pc := 59) rfl dX10_store_59 ?_
        refine ev_iload_3 (pc := 62) dX10_store_62 ?_
        obtain ⟨x22, hx22, h⟩ := ev_bindE hN h
        refine ev_iald1 (pc := 63) rfl (by decide) rfl hx22 dX10_store_63 ?_
        obtain ⟨m23, hm23, h⟩ := ev_bindE hN h
        refine ev_iast1 (pc := 64) rfl (by decide) (by decide) rfl hm23 dX10_store_64 ?_
        refine ev_iinc_3 (pc := 65) (y := x18 + 1) dX10_store_65 rfl (by decide) rfl ?_
        refine ev_goto (pc := 68) (tgt := 37) dX10_store_68 (by decide) ?_
        exact ih _ _ kx h hk
set_option maxRecDepth 20000 in
set_option maxHeartbeats 4000000 in
theorem e_lp_X10_store_73 {G : ev_G} {Q : Option ev_V → ev_M → Prop} {R : Option (ev_m)} (hR : ∀ m0 : ev_m, (some (m0)) = R → Q none (ev_emb m0)) (hN : none ≠ R) {i29 : Nat} {x30 : Int32} {x31 : Int32} : ∀ (f : Nat) (x32 : Int32) (m33 : ev_m) (kx : ev_m → Option (ev_m)) (h : lp_X10_store_73 i29 x30 x31 f x32 m33 kx = R) (hk : ∀ (m33' : ev_m), kx m33' = R → ev_E G K_X10_store B_X10_store (0, 0) 107 [some (vr 10 (i29)), some (vi (x30)), some (vi (x31)), none] [] (ev_emb m33') Q), ev_E G K_X10_store B_X10_store (0, 0) 73 [some (vr 10 (i29)), some (vi (x30)), some (vi (x31)), some (vi (x32))] [] (ev_emb m33) Q := by
  intro f
  induction f with
  | zero => intro x32 m33 kx h hk; rw [lp_X10_store_73] at h; exact absurd h hN
  | succ f ih =>
    intro x32 m33 kx h hk
    rw [lp_X10_store_73] at h
    refine ev_iload_3 (pc := 73) dX10_store_73 ?_
    refine ev_bipush (pc := 74) (v := 61) dX10_store_74 (by decide) ?_
    refine ev_icc_ge (pc := 76) (tgt := 107) dX10_store_76 (by decide) (fun c34 => ?_) (fun c34 => ?_)
    · replace h := ev_ifn h c34
      refine ev_E.forget (L' := [some (vr 10 (i29)), some (vi (x30)), some (vi (x31)), none]) ⟨rfl, ⟨rfl, ⟨rfl, trivial⟩⟩⟩ ?_
      exact hk _  h
    · replace h := ev_ifp h c34
      refine ev_iload_1 (pc := 79) dX10_store_79 ?_
      refine ev_iconst (pc := 80) (v := 2) dX10_store_80 rfl ?_
      refine ev_icc_ne (pc := 81) (tgt := 107) dX10_store_81 (by decide) (fun c35 => ?_) (fun c35 => ?_)
      · replace h := ev_ifn h c35
        refine ev_E.forget (L' := [some (vr 10 (i29)), some (vi (x30)), some (vi (x31)), none]) ⟨rfl, ⟨rfl, ⟨rfl, trivial⟩⟩⟩ ?_
        exact hk _  h
      · replace h := ev_ifp h c35
        refine ev_aload_0 (pc := 84) dX10_store_84 ?_
        refine gt_X10_32 (pc := 85) rfl dX10_store_85 ?_
        refine ev_bipush (pc := 88) (v := 61) dX10_store_88 (by decide) ?_
        refine ev_iload_2 (pc := 90) dX10_store_90 ?_
        refine ev_imul (pc := 91) dX10_store_91 ?_
        refine ev_iload_3 (pc := 92) dX10_store_92 ?_
        refine ev_iadd (pc := 93) dX10_store_93 ?_
        refine ev_aload_0 (pc := 94) dX10_store_94 ?_
        refine gt_X10_38 (pc := 95) rfl dX10_store_95 ?_
        refine ev_iload_3 (pc := 98) dX10_store_98 ?_
        obtain ⟨x36, hx36, h⟩ := ev_bindE hN h
        refine ev_iald1 (pc := 99) rfl (by decide) rfl hx36 dX10_store_99 ?_
        obtain ⟨m37, hm37, h⟩ := ev_bindE hN h
        refine ev_iast1 (pc := 100) rfl (by decide) (by decide) rfl hm37 dX10_store_100 ?_
        refine ev_iinc_3 (pc := 101) (y := x32 + 1) dX10_store_101 rfl (by decide) rfl ?_
        refine ev_goto (pc := 104) (tgt := 73) dX10_store_104 (by decide) ?_
        exact ih _ _ kx h hk
set_option maxRecDepth 20000 in
set_option maxHeartbeats 4000000 in
theorem e_lp_X10_store_109 {G : ev_G} {Q : Option ev_V → ev_M → Prop} {R : Option (ev_m)} (hR : ∀ m0 : ev_m, (some (m0)) = R → Q none (ev_emb m0)) (hN : none ≠ R) {i43 : Nat} {x44 : Int32} {x45 : Int32} : ∀ (f : Nat) (x46 : Int32) (m47 : ev_m) (kx : ev_m → Option (ev_m)) (h : lp_X10_store_109 i43 x44 x45 f x46 m47 kx = R) (hk : ∀ (m47' : ev_m), kx m47' = R → ev_E G K_X10_store B_X10_store (0, 0) 143 [none, none, none, none] [] (ev_emb m47') Q), ev_E G K_X10_store B_X10_store (0, 0) 109 [some (vr 10 (i43)), some (vi (x44)), some (vi (x45)), some (vi (x46))] [] (ev_emb m47) Q := by
  intro f
  induction f with
  | zero => intro x46 m47 kx h hk; rw [lp_X10_store_109] at h; exact absurd h hN
  | succ f ih =>
    intro x46 m47 kx h hk
    rw [lp_X10_store_109] at h
    refine ev_iload_3 (pc := 109) dX10_store_109 ?_
    refine ev_bipush (pc := 110) (v := 17) dX10_store_110 (by decide) ?_
    refine ev_icc_ge (pc := 112) (tgt := 143) dX10_store_112 (by decide) (fun c48 => ?_) (fun c48 => ?_)
    · replace h := ev_ifn h c48
      refine ev_E.forget (L' := [none, none, none, none]) trivial ?_
      exact hk _  h
    · replace h := ev_ifp h c48
      refine ev_iload_1 (pc := 115) dX10_store_115 ?_
      refine ev_iconst (pc := 116) (v := 3) dX10_store_116 rfl ?_
      refine ev_icc_ne (pc := 117) (tgt := 143) dX10_store_117 (by decide) (fun c49 => ?_) (fun c49 => ?_)
      · replace h := ev_ifn h c49
        refine ev_E.forget (L' := [none, none, none, none]) trivial ?_
        exact hk _  h
      · replace h := ev_ifp h c49
        refine ev_aload_0 (pc := 120) dX10_store_120 ?_
        refine gt_X10_35 (pc := 121) rfl dX10_store_121 ?_
        refine ev_bipush (pc := 124) (v := 17) dX10_store_124 (by decide) ?_
        refine ev_iload_2 (pc := 126) dX10_store_126 ?_
        refine ev_imul (pc := 127) dX10_store_127 ?_
        refine ev_iload_3 (pc := 128) dX10_store_128 ?_
        refine ev_iadd (pc := 129) dX10_store_129 ?_
        refine ev_aload_0 (pc := 130) dX10_store_130 ?_
        refine gt_X10_38 (pc := 131) rfl dX10_store_131 ?_
        refine ev_iload_3 (pc := 134) dX10_store_134 ?_
        obtain ⟨x50, hx50, h⟩ := ev_bindE hN h
        refine ev_iald1 (pc := 135) rfl (by decide) rfl hx50 dX10_store_135 ?_
        obtain ⟨m51, hm51, h⟩ := ev_bindE hN h
        refine ev_iast1 (pc := 136) rfl (by decide) (by decide) rfl hm51 dX10_store_136 ?_
        refine ev_iinc_3 (pc := 137) (y := x46 + 1) dX10_store_137 rfl (by decide) rfl ?_
        refine ev_goto (pc := 140) (tgt := 109) dX10_store_140 (by decide) ?_
        exact ih _ _ kx h hk
set_option maxRecDepth 20000 in
set_option maxHeartbeats 4000000 in
theorem e_jn_X10_store_107 {G : ev_G} {Q : Option ev_V → ev_M → Prop} {R : Option (ev_m)} (hR : ∀ m0 : ev_m, (some (m0)) = R → Q none (ev_emb m0)) (hN : none ≠ R) {m42 : ev_m} {i39 : Nat} {x40 : Int32} {x41 : Int32} (h : jn_X10_store_107 m42 i39 x40 x41 = R) : ev_E G K_X10_store B_X10_store (0, 0) 107 [some (vr 10 (i39)), some (vi (x40)), some (vi (x41)), none] [] (ev_emb m42) Q := by
  unfold jn_X10_store_107 at h
  refine ev_iconst (pc := 107) (v := 0) dX10_store_107 rfl ?_
  refine ev_istore_3 (pc := 108) dX10_store_108 (by decide) rfl ?_
  refine e_lp_X10_store_109 hR hN 4000 _ _ _ h (fun m52 h => ?_)
  exact ev_vret (pc := 143) dX10_store_143 rfl (hR _ h)
set_option maxRecDepth 20000 in
set_option maxHeartbeats 4000000 in
theorem e_jn_X10_store_71 {G : ev_G} {Q : Option ev_V → ev_M → Prop} {R : Option (ev_m)} (hR : ∀ m0 : ev_m, (some (m0)) = R → Q none (ev_emb m0)) (hN : none ≠ R) {m28 : ev_m} {i25 : Nat} {x26 : Int32} {x27 : Int32} (h : jn_X10_store_71 m28 i25 x26 x27 = R) : ev_E G K_X10_store B_X10_store (0, 0) 71 [some (vr 10 (i25)), some (vi (x26)), some (vi (x27)), none] [] (ev_emb m28) Q := by
  unfold jn_X10_store_71 at h
  refine ev_iconst (pc := 71) (v := 0) dX10_store_71 rfl ?_
  refine ev_istore_3 (pc := 72) dX10_store_72 (by decide) rfl ?_
  refine e_lp_X10_store_73 hR hN 4000 _ _ _ h (fun m38 h => ?_)
  exact e_jn_X10_store_107 hR hN h
set_option maxRecDepth 20000 in
set_option maxHeartbeats 4000000 in
theorem e_jn_X10_store_35 {G : ev_G} {Q : Option ev_V → ev_M → Prop} {R : Option (ev_m)} (hR : ∀ m0 : ev_m, (some (m0)) = R → Q none (ev_emb m0)) (hN : none ≠ R) {m14 : ev_m} {i11 : Nat} {x12 : Int32} {x13 : Int32} (h : jn_X10_store_35 m14 i11 x12 x13 = R) : ev_E G K_X10_store B_X10_store (0, 0) 35 [some (vr 10 (i11)), some (vi (x12)), some (vi (x13)), none] [] (ev_emb m14) Q := by
  unfold jn_X10_store_35 at h
  refine ev_iconst (pc := 35) (v := 0) dX10_store_35 rfl ?_
  refine ev_istore_3 (pc := 36) dX10_store_36 (by decide) rfl ?_
  refine e_lp_X10_store_37 hR hN 4000 _ _ _ h (fun m24 h => ?_)
  exact e_jn_X10_store_71 hR hN h
set_option maxRecDepth 20000 in
set_option maxHeartbeats 4000000 in
theorem e_X10_store {G : ev_G} {Q : Option ev_V → ev_M → Prop} {R : Option (ev_m)} {mF : ev_m} (hR : ∀ m0 : ev_m, (some (m0)) = R → Q none (ev_emb m0)) (hN : none ≠ R) {i0 : Nat} {x1_ : Int32} {x2_ : Int32} (h : f_X10_store mF i0 x1_ x2_ = R) : ev_E G K_X10_store B_X10_store (0, 0) 0 [some (vr 10 (i0)), some (vi (x1_)), some (vi (x2_)), none] [] (ev_emb mF) Q := by
  unfold f_X10_store at h
  refine ev_iconst (pc := 0) (v := 0) dX10_store_0 rfl ?_
  refine ev_istore_3 (pc := 1) dX10_store_1 (by decide) rfl ?_
  refine e_lp_X10_store_2 hR hN 4000 _ _ _ h (fun m10 h => ?_)
  exact e_jn_X10_store_35 hR hN h
theorem c_X10_store {G : ev_G} {mF : ev_m} {i0 : Nat} {x1_ : Int32} {x2_ : Int32} {r : ev_m} (h : f_X10_store mF i0 x1_ x2_ = some r) : ev_CF G K_X10_store B_X10_store [vr 10 (i0), vi (x1_), vi (x2_)] mF none r :=
  ev_Ct_of rfl rfl (Nat.le_of_ble_eq_true rfl) (e_X10_store (R := some r) (fun m0 q => by cases q; exact ⟨rfl, rfl⟩) (fun q => by cases q) h)
set_option maxRecDepth 20000 in
set_option maxHeartbeats 4000000 in
theorem e_jn_X10_text_103 {G : ev_G} {Q : Option ev_V → ev_M → Prop} {R : Option (Int32 × ev_m)} (hR : ∀ (x0 : Int32) (m0 : ev_m), (some ((x0, m0))) = R → Q (some (vi x0)) (ev_emb m0)) (hN : none ≠ R) {m21 : ev_m} {i17 : Nat} {x18 : Int32} {x19 : Int32} {x20 : Int32} (h : jn_X10_text_103 m21 i17 x18 x19 x20 = R) : ev_E G K_X10_text B_X10_text (0, 0) 103 [some (vr 10 (i17)), some (vi (x18)), some (vi (x19)), none] [vi (x20)] (ev_emb m21) Q := by
  unfold jn_X10_text_103 at h
  refine ev_istore_3 (pc := 103) dX10_text_103 (by decide) rfl ?_
  refine ev_aload_0 (pc := 104) dX10_text_104 ?_
  refine gt_X10_23 (pc := 105) rfl dX10_text_105 ?_
  refine ev_iload_1 (pc := 108) dX10_text_108 ?_
  refine ev_dup2_ri (pc := 109) dX10_text_109 ?_
  obtain ⟨x22, hx22, h⟩ := ev_bindE hN h
  refine ev_iald1 (pc := 110) rfl (by decide) rfl hx22 dX10_text_110 ?_
  refine ev_iload_2 (pc := 111) dX10_text_111 ?_
  refine ev_iconst (pc := 112) (v := (-1)) dX10_text_112 rfl ?_
  obtain ⟨x24, hx24, h⟩ := ev_letE h
  have hJ1 : ev_E G K_X10_text B_X10_text (0, 0) 121 [some (vr 10 (i17)), some (vi (x18)), some (vi (x19)), some (vi (x20))] [vi (x24), vi (x22), vi (x18), vr 34 (0)] (ev_emb m21) Q := by
    refine ev_iadd (pc := 121) dX10_text_121 ?_
    obtain ⟨m25, hm25, h⟩ := ev_bindE hN h
    refine ev_iast1 (pc := 122) rfl (by decide) (by decide) rfl hm25 dX10_text_122 ?_
    refine ev_aload_0 (pc := 123) dX10_text_123 ?_
    refine ev_iload_1 (pc := 124) dX10_text_124 ?_
    refine ev_iload_3 (pc := 125) dX10_text_125 ?_
    obtain ⟨m26, hm26, h⟩ := ev_bindE hN h
    refine cl0_X10_232 (pc := 126) rfl dX10_text_126 (by decide) (Nat.le_of_ble_eq_true rfl) (c_X10_store hm26) ?_
    refine ev_iload_3 (pc := 129) dX10_text_129 ?_
    exact ev_iret (pc := 130) dX10_text_130 rfl rfl (hR _ _ h)
  refine ev_icc_ne (pc := 113) (tgt := 120) dX10_text_113 (by decide) (fun c23 => ?_) (fun c23 => ?_)
  · refine ev_iconst (pc := 120) (v := 0) dX10_text_120 rfl ?_
    replace hx24 := (hx24.trans (if_neg c23))
    subst hx24
    exact hJ1
  · refine ev_iconst (pc := 116) (v := 1) dX10_text_116 rfl ?_
    refine ev_goto (pc := 117) (tgt := 121) dX10_text_117 (by decide) ?_
    replace hx24 := (hx24.trans (if_pos c23))
    subst hx24
    exact hJ1
set_option maxRecDepth 20000 in
set_option maxHeartbeats 4000000 in
theorem e_jn_X10_text_78 {G : ev_G} {Q : Option ev_V → ev_M → Prop} {R : Option (Int32 × ev_m)} (hR : ∀ (x0 : Int32) (m0 : ev_m), (some ((x0, m0))) = R → Q (some (vi x0)) (ev_emb m0)) (hN : none ≠ R) {m13 : ev_m} {i10 : Nat} {x11 : Int32} {x12 : Int32} (h : jn_X10_text_78 m13 i10 x11 x12 = R) : ev_E G K_X10_text B_X10_text (0, 0) 78 [some (vr 10 (i10)), some (vi (x11)), some (vi (x12)), none] [] (ev_emb m13) Q := by
  unfold jn_X10_text_78 at h
  refine ev_aload_0 (pc := 78) dX10_text_78 ?_
  refine ev_iload_1 (pc := 79) dX10_text_79 ?_
  obtain ⟨p14, hp14, h⟩ := ev_bindE hN h
  refine cl1_X10_229 (pc := 80) rfl dX10_text_80 (by decide) (Nat.le_of_ble_eq_true rfl) (c_X10_readText hp14) ?_
  refine ev_ifb_ne (pc := 83) (tgt := 88) dX10_text_83 (by decide) (fun c15 => ?_) (fun c15 => ?_)
  · replace h := ev_ifp h c15
    refine ev_iload_2 (pc := 88) dX10_text_88 ?_
    refine ev_iconst (pc := 89) (v := (-1)) dX10_text_89 rfl ?_
    refine ev_icc_ne (pc := 90) (tgt := 102) dX10_text_90 (by decide) (fun c16 => ?_) (fun c16 => ?_)
    · replace h := ev_ifn h c16
      refine ev_iload_2 (pc := 102) dX10_text_102 ?_
      exact e_jn_X10_text_103 hR hN h
    · replace h := ev_ifp h c16
      refine ev_aload_0 (pc := 93) dX10_text_93 ?_
      refine gt_X10_23 (pc := 94) rfl dX10_text_94 ?_
      refine ev_iload_1 (pc := 97) dX10_text_97 ?_
      obtain ⟨x27, hx27, h⟩ := ev_bindE hN h
      refine ev_iald1 (pc := 98) rfl (by decide) rfl hx27 dX10_text_98 ?_
      refine ev_goto (pc := 99) (tgt := 103) dX10_text_99 (by decide) ?_
      exact e_jn_X10_text_103 hR hN h
  · replace h := ev_ifn h c15
    refine ev_iconst (pc := 86) (v := (-1)) dX10_text_86 rfl ?_
    exact ev_iret (pc := 87) dX10_text_87 rfl rfl (hR _ _ h)
set_option maxRecDepth 20000 in
set_option maxHeartbeats 4000000 in
theorem e_X10_text {G : ev_G} {Q : Option ev_V → ev_M → Prop} {R : Option (Int32 × ev_m)} {mF : ev_m} (hR : ∀ (x0 : Int32) (m0 : ev_m), (some ((x0, m0))) = R → Q (some (vi x0)) (ev_emb m0)) (hN : none ≠ R) {i0 : Nat} {x1_ : Int32} {x2_ : Int32} (h : f_X10_text mF i0 x1_ x2_ = R) : ev_E G K_X10_text B_X10_text (0, 0) 0 [some (vr 10 (i0)), some (vi (x1_)), some (vi (x2_)), none] [] (ev_emb mF) Q := by
  unfold f_X10_text at h
  refine ev_aload_0 (pc := 0) dX10_text_0 ?_
  refine ev_iconst (pc := 1) (v := 0) dX10_text_1 rfl ?_
  obtain ⟨m1, hm1, h⟩ := ev_letE h
  refine pt_X10_81 (pc := 2) rfl dX10_text_2 ?_
  refine ev_mem (pc := 5) hm1 ?_
  refine ev_aload_0 (pc := 5) dX10_text_5 ?_
  refine ev_aload_0 (pc := 6) dX10_text_6 ?_
  refine gt_X10_13 (pc := 7) rfl dX10_text_7 ?_
  refine ev_iconst (pc := 10) (v := 0) dX10_text_10 rfl ?_
  refine ev_ialdS (pc := 11) (j := 0) rfl (by decide) (by decide) (vp_in_iff.mpr (by decide)) dX10_text_11 ?_
  obtain ⟨m2, hm2, h⟩ := ev_letE h
  refine pt_X10_100 (pc := 12) rfl dX10_text_12 ?_
  refine ev_mem (pc := 15) hm2 ?_
  refine ev_aload_0 (pc := 15) dX10_text_15 ?_
  refine gt_X10_13 (pc := 16) rfl dX10_text_16 ?_
  refine ev_iconst (pc := 19) (v := 0) dX10_text_19 rfl ?_
  refine ev_iconst (pc := 20) (v := 0) dX10_text_20 rfl ?_
  obtain ⟨m3, hm3, h⟩ := ev_letE h
  refine ev_iastS (pc := 21) (j := 0) rfl (by decide) (by decide) (by decide) (vp_in_iff.mpr (by decide)) dX10_text_21 ?_
  refine ev_mem (pc := 22) hm3 ?_
  refine ev_aload_0 (pc := 22) dX10_text_22 ?_
  refine gt_X10_17 (pc := 23) rfl dX10_text_23 ?_
  refine ev_iconst (pc := 26) (v := 0) dX10_text_26 rfl ?_
  refine ev_iconst (pc := 27) (v := 0) dX10_text_27 rfl ?_
  obtain ⟨m4, hm4, h⟩ := ev_letE h
  refine ev_iastS (pc := 28) (j := 0) rfl (by decide) (by decide) (by decide) (vp_in_iff.mpr (by decide)) dX10_text_28 ?_
  refine ev_mem (pc := 29) hm4 ?_
  refine ev_aload_0 (pc := 29) dX10_text_29 ?_
  refine gt_X10_20 (pc := 30) rfl dX10_text_30 ?_
  refine ev_iconst (pc := 33) (v := 0) dX10_text_33 rfl ?_
  refine ev_iconst (pc := 34) (v := (-1)) dX10_text_34 rfl ?_
  obtain ⟨m5, hm5, h⟩ := ev_letE h
  refine ev_iastS (pc := 35) (j := 0) rfl (by decide) (by decide) (by decide) (vp_in_iff.mpr (by decide)) dX10_text_35 ?_
  refine ev_mem (pc := 36) hm5 ?_
  refine ev_iload_1 (pc := 36) dX10_text_36 ?_
  refine ev_iconst (pc := 37) (v := 0) dX10_text_37 rfl ?_
  refine ev_iconst (pc := 38) (v := 3) dX10_text_38 rfl ?_
  refine cl1_X10_89 (pc := 39) rfl dX10_text_39 (by decide) (Nat.le_of_ble_eq_true rfl) (c_X10_in m5 x1_ 0 3) ?_
  refine ev_ifb_eq (pc := 42) (tgt := 75) dX10_text_42 (by decide) (fun c6 => ?_) (fun c6 => ?_)
  · replace h := ev_ifn h c6
    refine ev_bipush (pc := 75) (v := (-2)) dX10_text_75 (by decide) ?_
    exact ev_iret (pc := 77) dX10_text_77 rfl rfl (hR _ _ h)
  · replace h := ev_ifp h c6
    refine ev_iload_2 (pc := 45) dX10_text_45 ?_
    refine ev_iconst (pc := 46) (v := (-1)) dX10_text_46 rfl ?_
    refine ev_icc_ne (pc := 47) (tgt := 66) dX10_text_47 (by decide) (fun c7 => ?_) (fun c7 => ?_)
    · replace h := ev_ifn h c7
      refine ev_aload_0 (pc := 66) dX10_text_66 ?_
      refine ev_iload_1 (pc := 67) dX10_text_67 ?_
      refine ev_iload_2 (pc := 68) dX10_text_68 ?_
      obtain ⟨x8, hx8, h⟩ := ev_bindE hN h
      refine cl1_X10_226 (pc := 69) rfl dX10_text_69 (by decide) (Nat.le_of_ble_eq_true rfl) (c_X10_is hx8) ?_
      refine ev_ifb_ne (pc := 72) (tgt := 78) dX10_text_72 (by decide) (fun c9 => ?_) (fun c9 => ?_)
      · replace h := ev_ifp h c9
        exact e_jn_X10_text_78 hR hN h
      · replace h := ev_ifn h c9
        refine ev_bipush (pc := 75) (v := (-2)) dX10_text_75 (by decide) ?_
        exact ev_iret (pc := 77) dX10_text_77 rfl rfl (hR _ _ h)
    · replace h := ev_ifp h c7
      refine ev_aload_0 (pc := 50) dX10_text_50 ?_
      refine gt_X10_23 (pc := 51) rfl dX10_text_51 ?_
      refine ev_iload_1 (pc := 54) dX10_text_54 ?_
      obtain ⟨x28, hx28, h⟩ := ev_bindE hN h
      refine ev_iald1 (pc := 55) rfl (by decide) rfl hx28 dX10_text_55 ?_
      refine ev_iload_1 (pc := 56) dX10_text_56 ?_
      refine cl1_X10_222 (pc := 57) rfl dX10_text_57 (by decide) (Nat.le_of_ble_eq_true rfl) (c_X10_mostOf m5 x1_) ?_
      refine ev_icc_ne (pc := 60) (tgt := 78) dX10_text_60 (by decide) (fun c29 => ?_) (fun c29 => ?_)
      · replace h := ev_ifn h c29
        exact e_jn_X10_text_78 hR hN h
      · replace h := ev_ifp h c29
        refine ev_goto (pc := 63) (tgt := 75) dX10_text_63 (by decide) ?_
        refine ev_bipush (pc := 75) (v := (-2)) dX10_text_75 (by decide) ?_
        exact ev_iret (pc := 77) dX10_text_77 rfl rfl (hR _ _ h)
theorem c_X10_text {G : ev_G} {mF : ev_m} {i0 : Nat} {x1_ : Int32} {x2_ : Int32} {r : Int32 × ev_m} (h : f_X10_text mF i0 x1_ x2_ = some r) : ev_CF G K_X10_text B_X10_text [vr 10 (i0), vi (x1_), vi (x2_)] mF (some (vi (r.1))) r.2 :=
  ev_Ct_of rfl rfl (Nat.le_of_ble_eq_true rfl) (e_X10_text (R := some r) (fun x0 m0 q => by cases q; exact ⟨rfl, rfl⟩) (fun q => by cases q) h)
set_option maxRecDepth 20000 in
set_option maxHeartbeats 4000000 in
theorem e_X10_fault {G : ev_G} {Q : Option ev_V → ev_M → Prop} {R : Int32 × ev_m} {mF : ev_m} (hR : ∀ (x0 : Int32) (m0 : ev_m), (x0, m0) = R → Q (some (vi x0)) (ev_emb m0)) {i0 : Nat} {x1_ : Int32} (h : s_X10_fault mF i0 x1_ = R) : ev_E G K_X10_fault B_X10_fault (0, 0) 0 [some (vr 10 (i0)), some (vi (x1_))] [] (ev_emb mF) Q := by
  unfold s_X10_fault at h
  refine ev_aload_0 (pc := 0) dX10_fault_0 ?_
  refine ev_iconst (pc := 1) (v := 0) dX10_fault_1 rfl ?_
  obtain ⟨m1, hm1, h⟩ := ev_letE h
  refine pt_X10_81 (pc := 2) rfl dX10_fault_2 ?_
  refine ev_mem (pc := 5) hm1 ?_
  refine ev_iload_1 (pc := 5) dX10_fault_5 ?_
  refine ev_ifc_ne (pc := 6) (tgt := 18) dX10_fault_6 (by decide) (fun c2 => ?_) (fun c2 => ?_)
  · replace h := ev_ifn h c2
    refine ev_iload_1 (pc := 18) dX10_fault_18 ?_
    refine ev_iconst (pc := 19) (v := 1) dX10_fault_19 rfl ?_
    refine ev_icc_ne (pc := 20) (tgt := 32) dX10_fault_20 (by decide) (fun c3 => ?_) (fun c3 => ?_)
    · replace h := ev_ifn h c3
      refine ev_iconst (pc := 32) (v := (-1)) dX10_fault_32 rfl ?_
      exact ev_iret (pc := 33) dX10_fault_33 rfl rfl (hR _ _ h)
    · replace h := ev_ifp h c3
      refine ev_aload_0 (pc := 23) dX10_fault_23 ?_
      refine gt_X10_20 (pc := 24) rfl dX10_fault_24 ?_
      refine ev_iconst (pc := 27) (v := 0) dX10_fault_27 rfl ?_
      refine ev_ialdS (pc := 28) (j := 0) rfl (by decide) (by decide) (vp_in_iff.mpr (by decide)) dX10_fault_28 ?_
      refine ev_goto (pc := 29) (tgt := 33) dX10_fault_29 (by decide) ?_
      exact ev_iret (pc := 33) dX10_fault_33 rfl rfl (hR _ _ h)
  · replace h := ev_ifp h c2
    refine ev_aload_0 (pc := 9) dX10_fault_9 ?_
    refine gt_X10_17 (pc := 10) rfl dX10_fault_10 ?_
    refine ev_iconst (pc := 13) (v := 0) dX10_fault_13 rfl ?_
    refine ev_ialdS (pc := 14) (j := 0) rfl (by decide) (by decide) (vp_in_iff.mpr (by decide)) dX10_fault_14 ?_
    refine ev_goto (pc := 15) (tgt := 33) dX10_fault_15 (by decide) ?_
    exact ev_iret (pc := 33) dX10_fault_33 rfl rfl (hR _ _ h)
theorem c_X10_fault {G : ev_G} (mF : ev_m) (i0 : Nat) (x1_ : Int32) : ev_CF G K_X10_fault B_X10_fault [vr 10 (i0), vi (x1_)] mF (some (vi ((s_X10_fault mF i0 x1_).1))) (s_X10_fault mF i0 x1_).2 :=
  ev_Ct_of rfl rfl (Nat.le_of_ble_eq_true rfl) (e_X10_fault (R := s_X10_fault mF i0 x1_) (fun x0 m0 q => ⟨by rw [← q], by rw [← q]⟩) rfl)
set_option maxRecDepth 20000 in
set_option maxHeartbeats 4000000 in
theorem e_X10_ship {G : ev_G} {Q : Option ev_V → ev_M → Prop} {R : Option (Int32 × ev_m)} {mF : ev_m} (hR : ∀ (x0 : Int32) (m0 : ev_m), (some ((x0, m0))) = R → Q (some (vi x0)) (ev_emb m0)) (hN : none ≠ R) {i0 : Nat} {x1_ : Int32} {x2_ : Int32} (h : f_X10_ship mF i0 x1_ x2_ = R) : ev_E G K_X10_ship B_X10_ship (0, 0) 0 [some (vr 10 (i0)), some (vi (x1_)), some (vi (x2_))] [] (ev_emb mF) Q := by
  unfold f_X10_ship at h
  refine ev_aload_0 (pc := 0) dX10_ship_0 ?_
  refine ev_iconst (pc := 1) (v := 0) dX10_ship_1 rfl ?_
  obtain ⟨m1, hm1, h⟩ := ev_letE h
  refine pt_X10_81 (pc := 2) rfl dX10_ship_2 ?_
  refine ev_mem (pc := 5) hm1 ?_
  refine ev_aload_0 (pc := 5) dX10_ship_5 ?_
  refine ev_iconst (pc := 6) (v := 0) dX10_ship_6 rfl ?_
  refine ev_iload_1 (pc := 7) dX10_ship_7 ?_
  obtain ⟨x2, hx2, h⟩ := ev_bindE hN h
  refine cl1_X10_226 (pc := 8) rfl dX10_ship_8 (by decide) (Nat.le_of_ble_eq_true rfl) (c_X10_is hx2) ?_
  refine ev_ifb_ne (pc := 11) (tgt := 17) dX10_ship_11 (by decide) (fun c3 => ?_) (fun c3 => ?_)
  · replace h := ev_ifp h c3
    refine ev_iload_2 (pc := 17) dX10_ship_17 ?_
    refine ev_iconst (pc := 18) (v := 0) dX10_ship_18 rfl ?_
    refine ev_bipush (pc := 19) (v := 10) dX10_ship_19 (by decide) ?_
    refine cl1_X10_89 (pc := 21) rfl dX10_ship_21 (by decide) (Nat.le_of_ble_eq_true rfl) (c_X10_in m1 x2_ 0 10) ?_
    refine ev_ifb_eq (pc := 24) (tgt := 41) dX10_ship_24 (by decide) (fun c4 => ?_) (fun c4 => ?_)
    · replace h := ev_ifn h c4
      refine ev_iload_2 (pc := 41) dX10_ship_41 ?_
      refine ev_bipush (pc := 42) (v := 20) dX10_ship_42 (by decide) ?_
      refine ev_bipush (pc := 44) (v := 19) dX10_ship_44 (by decide) ?_
      refine ev_aload_0 (pc := 46) dX10_ship_46 ?_
      refine gt_X10_26 (pc := 47) rfl dX10_ship_47 ?_
      refine ev_bipush (pc := 50) (v := 23) dX10_ship_50 (by decide) ?_
      refine ev_iload_1 (pc := 52) dX10_ship_52 ?_
      refine ev_imul (pc := 53) dX10_ship_53 ?_
      refine ev_bipush (pc := 54) (v := 10) dX10_ship_54 (by decide) ?_
      refine ev_iadd (pc := 56) dX10_ship_56 ?_
      obtain ⟨x5, hx5, h⟩ := ev_bindE hN h
      refine ev_iald1 (pc := 57) rfl (by decide) rfl hx5 dX10_ship_57 ?_
      refine ev_iadd (pc := 58) dX10_ship_58 ?_
      refine cl1_X10_89 (pc := 59) rfl dX10_ship_59 (by decide) (Nat.le_of_ble_eq_true rfl) (c_X10_in m1 x2_ 20 (19 + x5)) ?_
      refine ev_ifb_eq (pc := 62) (tgt := 87) dX10_ship_62 (by decide) (fun c6 => ?_) (fun c6 => ?_)
      · replace h := ev_ifn h c6
        refine ev_ldc (pc := 87) (v := (-100000)) kc_X10_235 dX10_ship_87 ?_
        exact ev_iret (pc := 89) dX10_ship_89 rfl rfl (hR _ _ h)
      · replace h := ev_ifp h c6
        refine ev_aload_0 (pc := 65) dX10_ship_65 ?_
        refine gt_X10_26 (pc := 66) rfl dX10_ship_66 ?_
        refine ev_bipush (pc := 69) (v := 23) dX10_ship_69 (by decide) ?_
        refine ev_iload_1 (pc := 71) dX10_ship_71 ?_
        refine ev_imul (pc := 72) dX10_ship_72 ?_
        refine ev_bipush (pc := 73) (v := 10) dX10_ship_73 (by decide) ?_
        refine ev_iadd (pc := 75) dX10_ship_75 ?_
        refine ev_iconst (pc := 76) (v := 1) dX10_ship_76 rfl ?_
        refine ev_iadd (pc := 77) dX10_ship_77 ?_
        refine ev_iload_2 (pc := 78) dX10_ship_78 ?_
        refine ev_iadd (pc := 79) dX10_ship_79 ?_
        refine ev_bipush (pc := 80) (v := 20) dX10_ship_80 (by decide) ?_
        refine ev_isub (pc := 82) dX10_ship_82 ?_
        obtain ⟨x7, hx7, h⟩ := ev_bindE hN h
        refine ev_iald1 (pc := 83) rfl (by decide) rfl hx7 dX10_ship_83 ?_
        refine ev_goto (pc := 84) (tgt := 89) dX10_ship_84 (by decide) ?_
        exact ev_iret (pc := 89) dX10_ship_89 rfl rfl (hR _ _ h)
    · replace h := ev_ifp h c4
      refine ev_aload_0 (pc := 27) dX10_ship_27 ?_
      refine gt_X10_26 (pc := 28) rfl dX10_ship_28 ?_
      refine ev_bipush (pc := 31) (v := 23) dX10_ship_31 (by decide) ?_
      refine ev_iload_1 (pc := 33) dX10_ship_33 ?_
      refine ev_imul (pc := 34) dX10_ship_34 ?_
      refine ev_iload_2 (pc := 35) dX10_ship_35 ?_
      refine ev_iadd (pc := 36) dX10_ship_36 ?_
      obtain ⟨x8, hx8, h⟩ := ev_bindE hN h
      refine ev_iald1 (pc := 37) rfl (by decide) rfl hx8 dX10_ship_37 ?_
      refine ev_goto (pc := 38) (tgt := 89) dX10_ship_38 (by decide) ?_
      exact ev_iret (pc := 89) dX10_ship_89 rfl rfl (hR _ _ h)
  · replace h := ev_ifn h c3
    refine ev_ldc (pc := 14) (v := (-100000)) kc_X10_235 dX10_ship_14 ?_
    exact ev_iret (pc := 16) dX10_ship_16 rfl rfl (hR _ _ h)
theorem c_X10_ship {G : ev_G} {mF : ev_m} {i0 : Nat} {x1_ : Int32} {x2_ : Int32} {r : Int32 × ev_m} (h : f_X10_ship mF i0 x1_ x2_ = some r) : ev_CF G K_X10_ship B_X10_ship [vr 10 (i0), vi (x1_), vi (x2_)] mF (some (vi (r.1))) r.2 :=
  ev_Ct_of rfl rfl (Nat.le_of_ble_eq_true rfl) (e_X10_ship (R := some r) (fun x0 m0 q => by cases q; exact ⟨rfl, rfl⟩) (fun q => by cases q) h)
set_option maxRecDepth 20000 in
set_option maxHeartbeats 4000000 in
theorem e_X10_hand {G : ev_G} {Q : Option ev_V → ev_M → Prop} {R : Option (Int32 × ev_m)} {mF : ev_m} (hR : ∀ (x0 : Int32) (m0 : ev_m), (some ((x0, m0))) = R → Q (some (vi x0)) (ev_emb m0)) (hN : none ≠ R) {i0 : Nat} {x1_ : Int32} {x2_ : Int32} (h : f_X10_hand mF i0 x1_ x2_ = R) : ev_E G K_X10_hand B_X10_hand (0, 0) 0 [some (vr 10 (i0)), some (vi (x1_)), some (vi (x2_)), none] [] (ev_emb mF) Q := by
  unfold f_X10_hand at h
  refine ev_aload_0 (pc := 0) dX10_hand_0 ?_
  refine ev_iconst (pc := 1) (v := 0) dX10_hand_1 rfl ?_
  obtain ⟨m1, hm1, h⟩ := ev_letE h
  refine pt_X10_81 (pc := 2) rfl dX10_hand_2 ?_
  refine ev_mem (pc := 5) hm1 ?_
  refine ev_aload_0 (pc := 5) dX10_hand_5 ?_
  refine ev_iconst (pc := 6) (v := 1) dX10_hand_6 rfl ?_
  refine ev_iload_1 (pc := 7) dX10_hand_7 ?_
  obtain ⟨x2, hx2, h⟩ := ev_bindE hN h
  refine cl1_X10_226 (pc := 8) rfl dX10_hand_8 (by decide) (Nat.le_of_ble_eq_true rfl) (c_X10_is hx2) ?_
  refine ev_ifb_ne (pc := 11) (tgt := 16) dX10_hand_11 (by decide) (fun c3 => ?_) (fun c3 => ?_)
  · replace h := ev_ifp h c3
    refine ev_aload_0 (pc := 16) dX10_hand_16 ?_
    refine gt_X10_29 (pc := 17) rfl dX10_hand_17 ?_
    refine ev_bipush (pc := 20) (v := 18) dX10_hand_20 (by decide) ?_
    refine ev_iload_1 (pc := 22) dX10_hand_22 ?_
    refine ev_imul (pc := 23) dX10_hand_23 ?_
    refine ev_bipush (pc := 24) (v := 9) dX10_hand_24 (by decide) ?_
    refine ev_iadd (pc := 26) dX10_hand_26 ?_
    obtain ⟨x4, hx4, h⟩ := ev_bindE hN h
    refine ev_iald1 (pc := 27) rfl (by decide) rfl hx4 dX10_hand_27 ?_
    refine ev_istore_3 (pc := 28) dX10_hand_28 (by decide) rfl ?_
    refine ev_iload_2 (pc := 29) dX10_hand_29 ?_
    refine ev_iconst (pc := 30) (v := 0) dX10_hand_30 rfl ?_
    refine ev_bipush (pc := 31) (v := 9) dX10_hand_31 (by decide) ?_
    refine cl1_X10_89 (pc := 33) rfl dX10_hand_33 (by decide) (Nat.le_of_ble_eq_true rfl) (c_X10_in m1 x2_ 0 9) ?_
    refine ev_ifb_eq (pc := 36) (tgt := 51) dX10_hand_36 (by decide) (fun c5 => ?_) (fun c5 => ?_)
    · replace h := ev_ifn h c5
      refine ev_iload_2 (pc := 51) dX10_hand_51 ?_
      refine ev_bipush (pc := 52) (v := 10) dX10_hand_52 (by decide) ?_
      refine ev_bipush (pc := 54) (v := 9) dX10_hand_54 (by decide) ?_
      refine ev_iload_3 (pc := 56) dX10_hand_56 ?_
      refine ev_iadd (pc := 57) dX10_hand_57 ?_
      refine cl1_X10_89 (pc := 58) rfl dX10_hand_58 (by decide) (Nat.le_of_ble_eq_true rfl) (c_X10_in m1 x2_ 10 (9 + x4)) ?_
      refine ev_ifb_eq (pc := 61) (tgt := 88) dX10_hand_61 (by decide) (fun c6 => ?_) (fun c6 => ?_)
      · replace h := ev_ifn h c6
        refine ev_iload_2 (pc := 88) dX10_hand_88 ?_
        refine ev_bipush (pc := 89) (v := 20) dX10_hand_89 (by decide) ?_
        refine ev_bipush (pc := 91) (v := 19) dX10_hand_91 (by decide) ?_
        refine ev_iload_3 (pc := 93) dX10_hand_93 ?_
        refine ev_iadd (pc := 94) dX10_hand_94 ?_
        refine cl1_X10_89 (pc := 95) rfl dX10_hand_95 (by decide) (Nat.le_of_ble_eq_true rfl) (c_X10_in m1 x2_ 20 (19 + x4)) ?_
        refine ev_ifb_eq (pc := 98) (tgt := 125) dX10_hand_98 (by decide) (fun c7 => ?_) (fun c7 => ?_)
        · replace h := ev_ifn h c7
          refine ev_iconst (pc := 125) (v := (-1)) dX10_hand_125 rfl ?_
          exact ev_iret (pc := 126) dX10_hand_126 rfl rfl (hR _ _ h)
        · replace h := ev_ifp h c7
          refine ev_aload_0 (pc := 101) dX10_hand_101 ?_
          refine gt_X10_29 (pc := 102) rfl dX10_hand_102 ?_
          refine ev_bipush (pc := 105) (v := 18) dX10_hand_105 (by decide) ?_
          refine ev_iload_1 (pc := 107) dX10_hand_107 ?_
          refine ev_imul (pc := 108) dX10_hand_108 ?_
          refine ev_bipush (pc := 109) (v := 9) dX10_hand_109 (by decide) ?_
          refine ev_iadd (pc := 111) dX10_hand_111 ?_
          refine ev_iconst (pc := 112) (v := 2) dX10_hand_112 rfl ?_
          refine ev_iadd (pc := 113) dX10_hand_113 ?_
          refine ev_iconst (pc := 114) (v := 2) dX10_hand_114 rfl ?_
          refine ev_iload_2 (pc := 115) dX10_hand_115 ?_
          refine ev_bipush (pc := 116) (v := 20) dX10_hand_116 (by decide) ?_
          refine ev_isub (pc := 118) dX10_hand_118 ?_
          refine ev_imul (pc := 119) dX10_hand_119 ?_
          refine ev_iadd (pc := 120) dX10_hand_120 ?_
          obtain ⟨x8, hx8, h⟩ := ev_bindE hN h
          refine ev_iald1 (pc := 121) rfl (by decide) rfl hx8 dX10_hand_121 ?_
          refine ev_goto (pc := 122) (tgt := 126) dX10_hand_122 (by decide) ?_
          exact ev_iret (pc := 126) dX10_hand_126 rfl rfl (hR _ _ h)
      · replace h := ev_ifp h c6
        refine ev_aload_0 (pc := 64) dX10_hand_64 ?_
        refine gt_X10_29 (pc := 65) rfl dX10_hand_65 ?_
        refine ev_bipush (pc := 68) (v := 18) dX10_hand_68 (by decide) ?_
        refine ev_iload_1 (pc := 70) dX10_hand_70 ?_
        refine ev_imul (pc := 71) dX10_hand_71 ?_
        refine ev_bipush (pc := 72) (v := 9) dX10_hand_72 (by decide) ?_
        refine ev_iadd (pc := 74) dX10_hand_74 ?_
        refine ev_iconst (pc := 75) (v := 1) dX10_hand_75 rfl ?_
        refine ev_iadd (pc := 76) dX10_hand_76 ?_
        refine ev_iconst (pc := 77) (v := 2) dX10_hand_77 rfl ?_
        refine ev_iload_2 (pc := 78) dX10_hand_78 ?_
        refine ev_bipush (pc := 79) (v := 10) dX10_hand_79 (by decide) ?_
        refine ev_isub (pc := 81) dX10_hand_81 ?_
        refine ev_imul (pc := 82) dX10_hand_82 ?_
        refine ev_iadd (pc := 83) dX10_hand_83 ?_
        obtain ⟨x9, hx9, h⟩ := ev_bindE hN h
        refine ev_iald1 (pc := 84) rfl (by decide) rfl hx9 dX10_hand_84 ?_
        refine ev_goto (pc := 85) (tgt := 126) dX10_hand_85 (by decide) ?_
        exact ev_iret (pc := 126) dX10_hand_126 rfl rfl (hR _ _ h)
    · replace h := ev_ifp h c5
      refine ev_aload_0 (pc := 39) dX10_hand_39 ?_
      refine gt_X10_29 (pc := 40) rfl dX10_hand_40 ?_
      refine ev_bipush (pc := 43) (v := 18) dX10_hand_43 (by decide) ?_
      refine ev_iload_1 (pc := 45) dX10_hand_45 ?_
      refine ev_imul (pc := 46) dX10_hand_46 ?_
      refine ev_iload_2 (pc := 47) dX10_hand_47 ?_
      refine ev_iadd (pc := 48) dX10_hand_48 ?_
      obtain ⟨x10, hx10, h⟩ := ev_bindE hN h
      refine ev_iald1 (pc := 49) rfl (by decide) rfl hx10 dX10_hand_49 ?_
      exact ev_iret (pc := 50) dX10_hand_50 rfl rfl (hR _ _ h)
  · replace h := ev_ifn h c3
    refine ev_iconst (pc := 14) (v := (-1)) dX10_hand_14 rfl ?_
    exact ev_iret (pc := 15) dX10_hand_15 rfl rfl (hR _ _ h)
theorem c_X10_hand {G : ev_G} {mF : ev_m} {i0 : Nat} {x1_ : Int32} {x2_ : Int32} {r : Int32 × ev_m} (h : f_X10_hand mF i0 x1_ x2_ = some r) : ev_CF G K_X10_hand B_X10_hand [vr 10 (i0), vi (x1_), vi (x2_)] mF (some (vi (r.1))) r.2 :=
  ev_Ct_of rfl rfl (Nat.le_of_ble_eq_true rfl) (e_X10_hand (R := some r) (fun x0 m0 q => by cases q; exact ⟨rfl, rfl⟩) (fun q => by cases q) h)
set_option maxRecDepth 20000 in
set_option maxHeartbeats 4000000 in
theorem e_X10_paper {G : ev_G} {Q : Option ev_V → ev_M → Prop} {R : Option (Int32 × ev_m)} {mF : ev_m} (hR : ∀ (x0 : Int32) (m0 : ev_m), (some ((x0, m0))) = R → Q (some (vi x0)) (ev_emb m0)) (hN : none ≠ R) {i0 : Nat} {x1_ : Int32} {x2_ : Int32} (h : f_X10_paper mF i0 x1_ x2_ = R) : ev_E G K_X10_paper B_X10_paper (0, 0) 0 [some (vr 10 (i0)), some (vi (x1_)), some (vi (x2_))] [] (ev_emb mF) Q := by
  unfold f_X10_paper at h
  refine ev_aload_0 (pc := 0) dX10_paper_0 ?_
  refine ev_iconst (pc := 1) (v := 0) dX10_paper_1 rfl ?_
  obtain ⟨m1, hm1, h⟩ := ev_letE h
  refine pt_X10_81 (pc := 2) rfl dX10_paper_2 ?_
  refine ev_mem (pc := 5) hm1 ?_
  refine ev_aload_0 (pc := 5) dX10_paper_5 ?_
  refine ev_iconst (pc := 6) (v := 2) dX10_paper_6 rfl ?_
  refine ev_iload_1 (pc := 7) dX10_paper_7 ?_
  obtain ⟨x2, hx2, h⟩ := ev_bindE hN h
  refine cl1_X10_226 (pc := 8) rfl dX10_paper_8 (by decide) (Nat.le_of_ble_eq_true rfl) (c_X10_is hx2) ?_
  refine ev_ifb_ne (pc := 11) (tgt := 17) dX10_paper_11 (by decide) (fun c3 => ?_) (fun c3 => ?_)
  · replace h := ev_ifp h c3
    refine ev_iload_2 (pc := 17) dX10_paper_17 ?_
    refine ev_iconst (pc := 18) (v := (-1)) dX10_paper_18 rfl ?_
    refine ev_icc_ne (pc := 19) (tgt := 34) dX10_paper_19 (by decide) (fun c4 => ?_) (fun c4 => ?_)
    · replace h := ev_ifn h c4
      refine ev_iload_2 (pc := 34) dX10_paper_34 ?_
      refine ev_iconst (pc := 35) (v := 0) dX10_paper_35 rfl ?_
      refine ev_aload_0 (pc := 36) dX10_paper_36 ?_
      refine gt_X10_32 (pc := 37) rfl dX10_paper_37 ?_
      refine ev_bipush (pc := 40) (v := 61) dX10_paper_40 (by decide) ?_
      refine ev_iload_1 (pc := 42) dX10_paper_42 ?_
      refine ev_imul (pc := 43) dX10_paper_43 ?_
      obtain ⟨x5, hx5, h⟩ := ev_bindE hN h
      refine ev_iald1 (pc := 44) rfl (by decide) rfl hx5 dX10_paper_44 ?_
      refine ev_iconst (pc := 45) (v := 1) dX10_paper_45 rfl ?_
      refine ev_isub (pc := 46) dX10_paper_46 ?_
      refine cl1_X10_89 (pc := 47) rfl dX10_paper_47 (by decide) (Nat.le_of_ble_eq_true rfl) (c_X10_in m1 x2_ 0 (x5 - 1)) ?_
      refine ev_ifb_eq (pc := 50) (tgt := 69) dX10_paper_50 (by decide) (fun c6 => ?_) (fun c6 => ?_)
      · replace h := ev_ifn h c6
        refine ev_ldc (pc := 69) (v := (-100000)) kc_X10_235 dX10_paper_69 ?_
        exact ev_iret (pc := 71) dX10_paper_71 rfl rfl (hR _ _ h)
      · replace h := ev_ifp h c6
        refine ev_aload_0 (pc := 53) dX10_paper_53 ?_
        refine gt_X10_32 (pc := 54) rfl dX10_paper_54 ?_
        refine ev_bipush (pc := 57) (v := 61) dX10_paper_57 (by decide) ?_
        refine ev_iload_1 (pc := 59) dX10_paper_59 ?_
        refine ev_imul (pc := 60) dX10_paper_60 ?_
        refine ev_iconst (pc := 61) (v := 1) dX10_paper_61 rfl ?_
        refine ev_iadd (pc := 62) dX10_paper_62 ?_
        refine ev_iload_2 (pc := 63) dX10_paper_63 ?_
        refine ev_iadd (pc := 64) dX10_paper_64 ?_
        obtain ⟨x7, hx7, h⟩ := ev_bindE hN h
        refine ev_iald1 (pc := 65) rfl (by decide) rfl hx7 dX10_paper_65 ?_
        refine ev_goto (pc := 66) (tgt := 71) dX10_paper_66 (by decide) ?_
        exact ev_iret (pc := 71) dX10_paper_71 rfl rfl (hR _ _ h)
    · replace h := ev_ifp h c4
      refine ev_aload_0 (pc := 22) dX10_paper_22 ?_
      refine gt_X10_32 (pc := 23) rfl dX10_paper_23 ?_
      refine ev_bipush (pc := 26) (v := 61) dX10_paper_26 (by decide) ?_
      refine ev_iload_1 (pc := 28) dX10_paper_28 ?_
      refine ev_imul (pc := 29) dX10_paper_29 ?_
      obtain ⟨x8, hx8, h⟩ := ev_bindE hN h
      refine ev_iald1 (pc := 30) rfl (by decide) rfl hx8 dX10_paper_30 ?_
      refine ev_goto (pc := 31) (tgt := 71) dX10_paper_31 (by decide) ?_
      exact ev_iret (pc := 71) dX10_paper_71 rfl rfl (hR _ _ h)
  · replace h := ev_ifn h c3
    refine ev_ldc (pc := 14) (v := (-100000)) kc_X10_235 dX10_paper_14 ?_
    exact ev_iret (pc := 16) dX10_paper_16 rfl rfl (hR _ _ h)
theorem c_X10_paper {G : ev_G} {mF : ev_m} {i0 : Nat} {x1_ : Int32} {x2_ : Int32} {r : Int32 × ev_m} (h : f_X10_paper mF i0 x1_ x2_ = some r) : ev_CF G K_X10_paper B_X10_paper [vr 10 (i0), vi (x1_), vi (x2_)] mF (some (vi (r.1))) r.2 :=
  ev_Ct_of rfl rfl (Nat.le_of_ble_eq_true rfl) (e_X10_paper (R := some r) (fun x0 m0 q => by cases q; exact ⟨rfl, rfl⟩) (fun q => by cases q) h)
