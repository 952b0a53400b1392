/-! lifted methods -/
/-- cells and slots that the constructors have made, once the law's loop begins -/
abbrev ev_uL : Nat × Nat := (184, 11781)
set_option maxRecDepth 20000 in
set_option maxHeartbeats 4000000 in
theorem e_jn_L_law_2336_18 {G : ev_G} {Q : Option ev_V → ev_M → Prop} {R : Option (Bool × ev_m)} (hR : ∀ (x0 : Bool) (m0 : ev_m), (some ((x0, m0))) = R → Q (some (vi (bi x0))) (ev_emb m0)) (hN : none ≠ R) {xs : List Int32} (hxs : G.2.2.2.2 = xs) {m47 : ev_m} {x46 : Int32} {kb : Int32 → ev_m → Option (Bool × ev_m)} {kx : ev_m → Option (Bool × ev_m)} (h : jn_L_law_2336_18 xs m47 x46 kb kx = R) (hkb : ∀ (x1' : Int32) (m2' : ev_m), kb x1' m2' = R → ev_E G K_L_law B_L_law ev_uL 18 [some (vr 64 (0)), some (vr 0 (0)), some (vr 10 (0)), some (vi (x1'))] [] (ev_emb m2') Q) (hkx : ∀ (m2' : ev_m), kx m2' = R → ev_E G K_L_law B_L_law ev_uL 2342 [none, none, none, none] [] (ev_emb m2') Q) : ev_E G K_L_law B_L_law ev_uL 2336 [some (vr 64 (0)), some (vr 0 (0)), some (vr 10 (0)), some (vi (x46))] [] (ev_emb m47) Q := by
  unfold jn_L_law_2336_18 at h
  refine ev_iinc_3 (pc := 2336) (y := x46 + 7) dL_law_2336 rfl (by decide) rfl ?_
  refine ev_goto (pc := 2339) (tgt := 18) dL_law_2339 (by decide) ?_
  exact hkb _ _  h
set_option maxRecDepth 20000 in
set_option maxHeartbeats 4000000 in
theorem e_lp_L_law_18 {G : ev_G} {Q : Option ev_V → ev_M → Prop} {R : Option (Bool × ev_m)} (hR : ∀ (x0 : Bool) (m0 : ev_m), (some ((x0, m0))) = R → Q (some (vi (bi x0))) (ev_emb m0)) (hN : none ≠ R) {xs : List Int32} (hxs : G.2.2.2.2 = xs)  : ∀ (f : Nat) (x1 : Int32) (m2 : ev_m) (kx : ev_m → Option (Bool × ev_m)) (h : lp_L_law_18 xs f x1 m2 kx = R) (hk : ∀ (m2' : ev_m), kx m2' = R → ev_E G K_L_law B_L_law ev_uL 2342 [none, none, none, none] [] (ev_emb m2') Q), ev_E G K_L_law B_L_law ev_uL 18 [some (vr 64 (0)), some (vr 0 (0)), some (vr 10 (0)), some (vi (x1))] [] (ev_emb m2) Q := by
  intro f
  induction f with
  | zero => intro x1 m2 kx h hk; rw [lp_L_law_18] at h; exact absurd h hN
  | succ f ih =>
    intro x1 m2 kx h hk
    rw [lp_L_law_18] at h
    refine ev_iload_3 (pc := 18) dL_law_18 ?_
    refine ev_aload_0 (pc := 19) dL_law_19 ?_
    refine ev_slen64 (pc := 20) hxs rfl dL_law_20 ?_
    refine ev_bipush (pc := 21) (v := 7) dL_law_21 (by decide) ?_
    refine ev_isub (pc := 23) dL_law_23 ?_
    refine ev_icc_gt (pc := 24) (tgt := 2342) dL_law_24 (by decide) (fun c3 => ?_) (fun c3 => ?_)
    · replace h := ev_ifp h c3
      refine ev_E.forget (L' := [none, none, none, none]) trivial ?_
      exact hk _  h
    · replace h := ev_ifn h c3
      refine ev_aload_0 (pc := 27) dL_law_27 ?_
      refine ev_iload_3 (pc := 28) dL_law_28 ?_
      obtain ⟨x4, hx4, h⟩ := ev_bindE hN h
      refine ev_sld (pc := 29) hxs hx4 dL_law_29 ?_
      refine ev_bipush (pc := 30) (v := 63) dL_law_30 (by decide) ?_
      refine ev_iand (pc := 32) dL_law_32 ?_
      by_cases c5 : (x4 &&& 63) = 0
      · replace h := ev_ifp h c5
        refine ev_tin (pc := 33) 0 (tgt := 212) c5 (by decide) dL_law_33 rfl (by decide) ?_
        refine ev_aload_1 (pc := 212) dL_law_212 ?_
        refine ev_aload_0 (pc := 213) dL_law_213 ?_
        refine ev_iload_3 (pc := 214) dL_law_214 ?_
        refine ev_iconst (pc := 215) (v := 1) dL_law_215 rfl ?_
        refine ev_iadd (pc := 216) dL_law_216 ?_
        obtain ⟨x476, hx476, h⟩ := ev_bindE hN h
        refine ev_sld (pc := 217) hxs hx476 dL_law_217 ?_
        refine ev_aload_0 (pc := 218) dL_law_218 ?_
        refine ev_iload_3 (pc := 219) dL_law_219 ?_
        refine ev_iconst (pc := 220) (v := 2) dL_law_220 rfl ?_
        refine ev_iadd (pc := 221) dL_law_221 ?_
        obtain ⟨x477, hx477, h⟩ := ev_bindE hN h
        refine ev_sld (pc := 222) hxs hx477 dL_law_222 ?_
        refine ev_aload_0 (pc := 223) dL_law_223 ?_
        refine ev_iload_3 (pc := 224) dL_law_224 ?_
        refine ev_iconst (pc := 225) (v := 3) dL_law_225 rfl ?_
        refine ev_iadd (pc := 226) dL_law_226 ?_
        obtain ⟨x478, hx478, h⟩ := ev_bindE hN h
        refine ev_sld (pc := 227) hxs hx478 dL_law_227 ?_
        refine ev_aload_0 (pc := 228) dL_law_228 ?_
        refine ev_iload_3 (pc := 229) dL_law_229 ?_
        refine ev_iconst (pc := 230) (v := 4) dL_law_230 rfl ?_
        refine ev_iadd (pc := 231) dL_law_231 ?_
        obtain ⟨x479, hx479, h⟩ := ev_bindE hN h
        refine ev_sld (pc := 232) hxs hx479 dL_law_232 ?_
        refine ev_aload_0 (pc := 233) dL_law_233 ?_
        refine ev_iload_3 (pc := 234) dL_law_234 ?_
        refine ev_iconst (pc := 235) (v := 5) dL_law_235 rfl ?_
        refine ev_iadd (pc := 236) dL_law_236 ?_
        obtain ⟨x480, hx480, h⟩ := ev_bindE hN h
        refine ev_sld (pc := 237) hxs hx480 dL_law_237 ?_
        obtain ⟨p481, hp481, h⟩ := ev_bindE hN h
        refine cl1_L_13 (pc := 238) rfl dL_law_238 (by decide) (Nat.le_of_ble_eq_true rfl) (c_X9_feed hp481) ?_
        refine ev_aload_2 (pc := 241) dL_law_241 ?_
        refine ev_aload_0 (pc := 242) dL_law_242 ?_
        refine ev_iload_3 (pc := 243) dL_law_243 ?_
        refine ev_iconst (pc := 244) (v := 1) dL_law_244 rfl ?_
        refine ev_iadd (pc := 245) dL_law_245 ?_
        obtain ⟨x482, hx482, h⟩ := ev_bindE hN h
        refine ev_sld (pc := 246) hxs hx482 dL_law_246 ?_
        refine ev_aload_0 (pc := 247) dL_law_247 ?_
        refine ev_iload_3 (pc := 248) dL_law_248 ?_
        refine ev_iconst (pc := 249) (v := 2) dL_law_249 rfl ?_
        refine ev_iadd (pc := 250) dL_law_250 ?_
        obtain ⟨x483, hx483, h⟩ := ev_bindE hN h
        refine ev_sld (pc := 251) hxs hx483 dL_law_251 ?_
        refine ev_aload_0 (pc := 252) dL_law_252 ?_
        refine ev_iload_3 (pc := 253) dL_law_253 ?_
        refine ev_iconst (pc := 254) (v := 3) dL_law_254 rfl ?_
        refine ev_iadd (pc := 255) dL_law_255 ?_
        obtain ⟨x484, hx484, h⟩ := ev_bindE hN h
        refine ev_sld (pc := 256) hxs hx484 dL_law_256 ?_
        refine ev_aload_0 (pc := 257) dL_law_257 ?_
        refine ev_iload_3 (pc := 258) dL_law_258 ?_
        refine ev_iconst (pc := 259) (v := 4) dL_law_259 rfl ?_
        refine ev_iadd (pc := 260) dL_law_260 ?_
        obtain ⟨x485, hx485, h⟩ := ev_bindE hN h
        refine ev_sld (pc := 261) hxs hx485 dL_law_261 ?_
        refine ev_aload_0 (pc := 262) dL_law_262 ?_
        refine ev_iload_3 (pc := 263) dL_law_263 ?_
        refine ev_iconst (pc := 264) (v := 5) dL_law_264 rfl ?_
        refine ev_iadd (pc := 265) dL_law_265 ?_
        obtain ⟨x486, hx486, h⟩ := ev_bindE hN h
        refine ev_sld (pc := 266) hxs hx486 dL_law_266 ?_
        obtain ⟨p487, hp487, h⟩ := ev_bindE hN h
        refine cl1_L_17 (pc := 267) rfl dL_law_267 (by decide) (Nat.le_of_ble_eq_true rfl) (c_X10_feed hp487) ?_
        refine ev_icc_eq (pc := 270) (tgt := 2336) dL_law_270 (by decide) (fun c488 => ?_) (fun c488 => ?_)
        · replace h := ev_ifp h c488
          exact e_jn_L_law_2336_18 hR hN hxs h (fun _ _ h => ih _ _ kx h hk) hk
        · replace h := ev_ifn h c488
          refine ev_iconst (pc := 273) (v := 0) dL_law_273 rfl ?_
          exact ev_iret (pc := 274) dL_law_274 rfl rfl (hR _ _ h)
      · replace h := ev_ifn h c5
        by_cases c6 : (x4 &&& 63) = 1
        · replace h := ev_ifp h c6
          refine ev_tin (pc := 33) 1 (tgt := 275) c6 (by decide) dL_law_33 rfl (by decide) ?_
          refine ev_aload_1 (pc := 275) dL_law_275 ?_
          refine ev_aload_0 (pc := 276) dL_law_276 ?_
          refine ev_iload_3 (pc := 277) dL_law_277 ?_
          refine ev_iconst (pc := 278) (v := 1) dL_law_278 rfl ?_
          refine ev_iadd (pc := 279) dL_law_279 ?_
          obtain ⟨x471, hx471, h⟩ := ev_bindE hN h
          refine ev_sld (pc := 280) hxs hx471 dL_law_280 ?_
          obtain ⟨p472, hp472, h⟩ := ev_letE h
          refine cl1_L_18 (pc := 281) (fr := 0) (lo := 0) (m' := p472.2) (v := vi (p472.1)) rfl dL_law_281 (by decide) (Nat.le_of_ble_eq_true rfl) (by rw [hp472]; exact c_X9_end m2 0 x471) ?_
          refine ev_aload_2 (pc := 284) dL_law_284 ?_
          refine ev_aload_0 (pc := 285) dL_law_285 ?_
          refine ev_iload_3 (pc := 286) dL_law_286 ?_
          refine ev_iconst (pc := 287) (v := 1) dL_law_287 rfl ?_
          refine ev_iadd (pc := 288) dL_law_288 ?_
          obtain ⟨x473, hx473, h⟩ := ev_bindE hN h
          refine ev_sld (pc := 289) hxs hx473 dL_law_289 ?_
          obtain ⟨p474, hp474, h⟩ := ev_letE h
          refine cl1_L_22 (pc := 290) (fr := 1) (lo := 22) (m' := p474.2) (v := vi (p474.1)) rfl dL_law_290 (by decide) (Nat.le_of_ble_eq_true rfl) (by rw [hp474]; exact c_X10_end p472.2 0 x473) ?_
          refine ev_icc_eq (pc := 293) (tgt := 2336) dL_law_293 (by decide) (fun c475 => ?_) (fun c475 => ?_)
          · replace h := ev_ifp h c475
            exact e_jn_L_law_2336_18 hR hN hxs h (fun _ _ h => ih _ _ kx h hk) hk
          · replace h := ev_ifn h c475
            refine ev_iconst (pc := 296) (v := 0) dL_law_296 rfl ?_
            exact ev_iret (pc := 297) dL_law_297 rfl rfl (hR _ _ h)
        · replace h := ev_ifn h c6
          by_cases c7 : (x4 &&& 63) = 2
          · replace h := ev_ifp h c7
            refine ev_tin (pc := 33) 2 (tgt := 298) c7 (by decide) dL_law_33 rfl (by decide) ?_
            refine ev_aload_1 (pc := 298) dL_law_298 ?_
            refine ev_aload_0 (pc := 299) dL_law_299 ?_
            refine ev_iload_3 (pc := 300) dL_law_300 ?_
            refine ev_iconst (pc := 301) (v := 1) dL_law_301 rfl ?_
            refine ev_iadd (pc := 302) dL_law_302 ?_
            obtain ⟨x464, hx464, h⟩ := ev_bindE hN h
            refine ev_sld (pc := 303) hxs hx464 dL_law_303 ?_
            refine ev_aload_0 (pc := 304) dL_law_304 ?_
            refine ev_iload_3 (pc := 305) dL_law_305 ?_
            refine ev_iconst (pc := 306) (v := 2) dL_law_306 rfl ?_
            refine ev_iadd (pc := 307) dL_law_307 ?_
            obtain ⟨x465, hx465, h⟩ := ev_bindE hN h
            refine ev_sld (pc := 308) hxs hx465 dL_law_308 ?_
            obtain ⟨p466, hp466, h⟩ := ev_bindE hN h
            refine cl1_L_23 (pc := 309) rfl dL_law_309 (by decide) (Nat.le_of_ble_eq_true rfl) (c_X9_text hp466) ?_
            refine ev_aload_2 (pc := 312) dL_law_312 ?_
            refine ev_aload_0 (pc := 313) dL_law_313 ?_
            refine ev_iload_3 (pc := 314) dL_law_314 ?_
            refine ev_iconst (pc := 315) (v := 1) dL_law_315 rfl ?_
            refine ev_iadd (pc := 316) dL_law_316 ?_
            obtain ⟨x467, hx467, h⟩ := ev_bindE hN h
            refine ev_sld (pc := 317) hxs hx467 dL_law_317 ?_
            refine ev_aload_0 (pc := 318) dL_law_318 ?_
            refine ev_iload_3 (pc := 319) dL_law_319 ?_
            refine ev_iconst (pc := 320) (v := 2) dL_law_320 rfl ?_
            refine ev_iadd (pc := 321) dL_law_321 ?_
            obtain ⟨x468, hx468, h⟩ := ev_bindE hN h
            refine ev_sld (pc := 322) hxs hx468 dL_law_322 ?_
            obtain ⟨p469, hp469, h⟩ := ev_bindE hN h
            refine cl1_L_27 (pc := 323) rfl dL_law_323 (by decide) (Nat.le_of_ble_eq_true rfl) (c_X10_text hp469) ?_
            refine ev_icc_eq (pc := 326) (tgt := 2336) dL_law_326 (by decide) (fun c470 => ?_) (fun c470 => ?_)
            · replace h := ev_ifp h c470
              exact e_jn_L_law_2336_18 hR hN hxs h (fun _ _ h => ih _ _ kx h hk) hk
            · replace h := ev_ifn h c470
              refine ev_iconst (pc := 329) (v := 0) dL_law_329 rfl ?_
              exact ev_iret (pc := 330) dL_law_330 rfl rfl (hR _ _ h)
          · replace h := ev_ifn h c7
            by_cases c8 : (x4 &&& 63) = 3
            · replace h := ev_ifp h c8
              refine ev_tin (pc := 33) 3 (tgt := 331) c8 (by decide) dL_law_33 rfl (by decide) ?_
              refine ev_aload_1 (pc := 331) dL_law_331 ?_
              refine ev_aload_0 (pc := 332) dL_law_332 ?_
              refine ev_iload_3 (pc := 333) dL_law_333 ?_
              refine ev_iconst (pc := 334) (v := 1) dL_law_334 rfl ?_
              refine ev_iadd (pc := 335) dL_law_335 ?_
              obtain ⟨x460, hx460, h⟩ := ev_bindE hN h
              refine ev_sld (pc := 336) hxs hx460 dL_law_336 ?_
              refine cl1_L_28 (pc := 337) rfl dL_law_337 (by decide) (Nat.le_of_ble_eq_true rfl) (c_X9_fault m2 0 x460) ?_
              refine ev_aload_2 (pc := 340) dL_law_340 ?_
              refine ev_aload_0 (pc := 341) dL_law_341 ?_
              refine ev_iload_3 (pc := 342) dL_law_342 ?_
              refine ev_iconst (pc := 343) (v := 1) dL_law_343 rfl ?_
              refine ev_iadd (pc := 344) dL_law_344 ?_
              obtain ⟨x461, hx461, h⟩ := ev_bindE hN h
              refine ev_sld (pc := 345) hxs hx461 dL_law_345 ?_
              obtain ⟨p462, hp462, h⟩ := ev_letE h
              refine cl1_L_31 (pc := 346) (fr := 0) (lo := 0) (m' := p462.2) (v := vi (p462.1)) rfl dL_law_346 (by decide) (Nat.le_of_ble_eq_true rfl) (by rw [hp462]; exact c_X10_fault m2 0 x461) ?_
              refine ev_icc_eq (pc := 349) (tgt := 2336) dL_law_349 (by decide) (fun c463 => ?_) (fun c463 => ?_)
              · replace h := ev_ifp h c463
                exact e_jn_L_law_2336_18 hR hN hxs h (fun _ _ h => ih _ _ kx h hk) hk
              · replace h := ev_ifn h c463
                refine ev_iconst (pc := 352) (v := 0) dL_law_352 rfl ?_
                exact ev_iret (pc := 353) dL_law_353 rfl rfl (hR _ _ h)
            · replace h := ev_ifn h c8
              by_cases c9 : (x4 &&& 63) = 4
              · replace h := ev_ifp h c9
                refine ev_tin (pc := 33) 4 (tgt := 354) c9 (by decide) dL_law_33 rfl (by decide) ?_
                refine ev_aload_1 (pc := 354) dL_law_354 ?_
                refine ev_aload_0 (pc := 355) dL_law_355 ?_
                refine ev_iload_3 (pc := 356) dL_law_356 ?_
                refine ev_iconst (pc := 357) (v := 1) dL_law_357 rfl ?_
                refine ev_iadd (pc := 358) dL_law_358 ?_
                obtain ⟨x453, hx453, h⟩ := ev_bindE hN h
                refine ev_sld (pc := 359) hxs hx453 dL_law_359 ?_
                refine ev_aload_0 (pc := 360) dL_law_360 ?_
                refine ev_iload_3 (pc := 361) dL_law_361 ?_
                refine ev_iconst (pc := 362) (v := 2) dL_law_362 rfl ?_
                refine ev_iadd (pc := 363) dL_law_363 ?_
                obtain ⟨x454, hx454, h⟩ := ev_bindE hN h
                refine ev_sld (pc := 364) hxs hx454 dL_law_364 ?_
                obtain ⟨x455, hx455, h⟩ := ev_bindE hN h
                refine cl1_L_32 (pc := 365) rfl dL_law_365 (by decide) (Nat.le_of_ble_eq_true rfl) (c_X9_ship hx455) ?_
                refine ev_aload_2 (pc := 368) dL_law_368 ?_
                refine ev_aload_0 (pc := 369) dL_law_369 ?_
                refine ev_iload_3 (pc := 370) dL_law_370 ?_
                refine ev_iconst (pc := 371) (v := 1) dL_law_371 rfl ?_
                refine ev_iadd (pc := 372) dL_law_372 ?_
                obtain ⟨x456, hx456, h⟩ := ev_bindE hN h
                refine ev_sld (pc := 373) hxs hx456 dL_law_373 ?_
                refine ev_aload_0 (pc := 374) dL_law_374 ?_
                refine ev_iload_3 (pc := 375) dL_law_375 ?_
                refine ev_iconst (pc := 376) (v := 2) dL_law_376 rfl ?_
                refine ev_iadd (pc := 377) dL_law_377 ?_
                obtain ⟨x457, hx457, h⟩ := ev_bindE hN h
                refine ev_sld (pc := 378) hxs hx457 dL_law_378 ?_
                obtain ⟨p458, hp458, h⟩ := ev_bindE hN h
                refine cl1_L_35 (pc := 379) rfl dL_law_379 (by decide) (Nat.le_of_ble_eq_true rfl) (c_X10_ship hp458) ?_
                refine ev_icc_eq (pc := 382) (tgt := 2336) dL_law_382 (by decide) (fun c459 => ?_) (fun c459 => ?_)
                · replace h := ev_ifp h c459
                  exact e_jn_L_law_2336_18 hR hN hxs h (fun _ _ h => ih _ _ kx h hk) hk
                · replace h := ev_ifn h c459
                  refine ev_iconst (pc := 385) (v := 0) dL_law_385 rfl ?_
                  exact ev_iret (pc := 386) dL_law_386 rfl rfl (hR _ _ h)
              · replace h := ev_ifn h c9
                by_cases c10 : (x4 &&& 63) = 5
                · replace h := ev_ifp h c10
                  refine ev_tin (pc := 33) 5 (tgt := 387) c10 (by decide) dL_law_33 rfl (by decide) ?_
                  refine ev_aload_1 (pc := 387) dL_law_387 ?_
                  refine ev_aload_0 (pc := 388) dL_law_388 ?_
                  refine ev_iload_3 (pc := 389) dL_law_389 ?_
                  refine ev_iconst (pc := 390) (v := 1) dL_law_390 rfl ?_
                  refine ev_iadd (pc := 391) dL_law_391 ?_
                  obtain ⟨x446, hx446, h⟩ := ev_bindE hN h
                  refine ev_sld (pc := 392) hxs hx446 dL_law_392 ?_
                  refine ev_aload_0 (pc := 393) dL_law_393 ?_
                  refine ev_iload_3 (pc := 394) dL_law_394 ?_
                  refine ev_iconst (pc := 395) (v := 2) dL_law_395 rfl ?_
                  refine ev_iadd (pc := 396) dL_law_396 ?_
                  obtain ⟨x447, hx447, h⟩ := ev_bindE hN h
                  refine ev_sld (pc := 397) hxs hx447 dL_law_397 ?_
                  obtain ⟨x448, hx448, h⟩ := ev_bindE hN h
                  refine cl1_L_36 (pc := 398) rfl dL_law_398 (by decide) (Nat.le_of_ble_eq_true rfl) (c_X9_hand hx448) ?_
                  refine ev_aload_2 (pc := 401) dL_law_401 ?_
                  refine ev_aload_0 (pc := 402) dL_law_402 ?_
                  refine ev_iload_3 (pc := 403) dL_law_403 ?_
                  refine ev_iconst (pc := 404) (v := 1) dL_law_404 rfl ?_
                  refine ev_iadd (pc := 405) dL_law_405 ?_
                  obtain ⟨x449, hx449, h⟩ := ev_bindE hN h
                  refine ev_sld (pc := 406) hxs hx449 dL_law_406 ?_
                  refine ev_aload_0 (pc := 407) dL_law_407 ?_
                  refine ev_iload_3 (pc := 408) dL_law_408 ?_
                  refine ev_iconst (pc := 409) (v := 2) dL_law_409 rfl ?_
                  refine ev_iadd (pc := 410) dL_law_410 ?_
                  obtain ⟨x450, hx450, h⟩ := ev_bindE hN h
                  refine ev_sld (pc := 411) hxs hx450 dL_law_411 ?_
                  obtain ⟨p451, hp451, h⟩ := ev_bindE hN h
                  refine cl1_L_39 (pc := 412) rfl dL_law_412 (by decide) (Nat.le_of_ble_eq_true rfl) (c_X10_hand hp451) ?_
                  refine ev_icc_eq (pc := 415) (tgt := 2336) dL_law_415 (by decide) (fun c452 => ?_) (fun c452 => ?_)
                  · replace h := ev_ifp h c452
                    exact e_jn_L_law_2336_18 hR hN hxs h (fun _ _ h => ih _ _ kx h hk) hk
                  · replace h := ev_ifn h c452
                    refine ev_iconst (pc := 418) (v := 0) dL_law_418 rfl ?_
                    exact ev_iret (pc := 419) dL_law_419 rfl rfl (hR _ _ h)
                · replace h := ev_ifn h c10
                  by_cases c11 : (x4 &&& 63) = 6
                  · replace h := ev_ifp h c11
                    refine ev_tin (pc := 33) 6 (tgt := 420) c11 (by decide) dL_law_33 rfl (by decide) ?_
                    refine ev_aload_1 (pc := 420) dL_law_420 ?_
                    refine ev_aload_0 (pc := 421) dL_law_421 ?_
                    refine ev_iload_3 (pc := 422) dL_law_422 ?_
                    refine ev_iconst (pc := 423) (v := 1) dL_law_423 rfl ?_
                    refine ev_iadd (pc := 424) dL_law_424 ?_
                    obtain ⟨x439, hx439, h⟩ := ev_bindE hN h
                    refine ev_sld (pc := 425) hxs hx439 dL_law_425 ?_
                    refine ev_aload_0 (pc := 426) dL_law_426 ?_
                    refine ev_iload_3 (pc := 427) dL_law_427 ?_
                    refine ev_iconst (pc := 428) (v := 2) dL_law_428 rfl ?_
                    refine ev_iadd (pc := 429) dL_law_429 ?_
                    obtain ⟨x440, hx440, h⟩ := ev_bindE hN h
                    refine ev_sld (pc := 430) hxs hx440 dL_law_430 ?_
                    obtain ⟨x441, hx441, h⟩ := ev_bindE hN h
                    refine cl1_L_40 (pc := 431) rfl dL_law_431 (by decide) (Nat.le_of_ble_eq_true rfl) (c_X9_paper hx441) ?_
                    refine ev_aload_2 (pc := 434) dL_law_434 ?_
                    refine ev_aload_0 (pc := 435) dL_law_435 ?_
                    refine ev_iload_3 (pc := 436) dL_law_436 ?_
                    refine ev_iconst (pc := 437) (v := 1) dL_law_437 rfl ?_
                    refine ev_iadd (pc := 438) dL_law_438 ?_
                    obtain ⟨x442, hx442, h⟩ := ev_bindE hN h
                    refine ev_sld (pc := 439) hxs hx442 dL_law_439 ?_
                    refine ev_aload_0 (pc := 440) dL_law_440 ?_
                    refine ev_iload_3 (pc := 441) dL_law_441 ?_
                    refine ev_iconst (pc := 442) (v := 2) dL_law_442 rfl ?_
                    refine ev_iadd (pc := 443) dL_law_443 ?_
                    obtain ⟨x443, hx443, h⟩ := ev_bindE hN h
                    refine ev_sld (pc := 444) hxs hx443 dL_law_444 ?_
                    obtain ⟨p444, hp444, h⟩ := ev_bindE hN h
                    refine cl1_L_43 (pc := 445) rfl dL_law_445 (by decide) (Nat.le_of_ble_eq_true rfl) (c_X10_paper hp444) ?_
                    refine ev_icc_eq (pc := 448) (tgt := 2336) dL_law_448 (by decide) (fun c445 => ?_) (fun c445 => ?_)
                    · replace h := ev_ifp h c445
                      exact e_jn_L_law_2336_18 hR hN hxs h (fun _ _ h => ih _ _ kx h hk) hk
                    · replace h := ev_ifn h c445
                      refine ev_iconst (pc := 451) (v := 0) dL_law_451 rfl ?_
                      exact ev_iret (pc := 452) dL_law_452 rfl rfl (hR _ _ h)
                  · replace h := ev_ifn h c11
                    by_cases c12 : (x4 &&& 63) = 7
                    · replace h := ev_ifp h c12
                      refine ev_tin (pc := 33) 7 (tgt := 453) c12 (by decide) dL_law_33 rfl (by decide) ?_
                      refine ev_aload_1 (pc := 453) dL_law_453 ?_
                      refine ev_aload_0 (pc := 454) dL_law_454 ?_
                      refine ev_iload_3 (pc := 455) dL_law_455 ?_
                      refine ev_iconst (pc := 456) (v := 1) dL_law_456 rfl ?_
                      refine ev_iadd (pc := 457) dL_law_457 ?_
                      obtain ⟨x430, hx430, h⟩ := ev_bindE hN h
                      refine ev_sld (pc := 458) hxs hx430 dL_law_458 ?_
                      refine ev_aload_0 (pc := 459) dL_law_459 ?_
                      refine ev_iload_3 (pc := 460) dL_law_460 ?_
                      refine ev_iconst (pc := 461) (v := 2) dL_law_461 rfl ?_
                      refine ev_iadd (pc := 462) dL_law_462 ?_
                      obtain ⟨x431, hx431, h⟩ := ev_bindE hN h
                      refine ev_sld (pc := 463) hxs hx431 dL_law_463 ?_
                      refine ev_aload_0 (pc := 464) dL_law_464 ?_
                      refine ev_iload_3 (pc := 465) dL_law_465 ?_
                      refine ev_iconst (pc := 466) (v := 3) dL_law_466 rfl ?_
                      refine ev_iadd (pc := 467) dL_law_467 ?_
                      obtain ⟨x432, hx432, h⟩ := ev_bindE hN h
                      refine ev_sld (pc := 468) hxs hx432 dL_law_468 ?_
                      obtain ⟨x433, hx433, h⟩ := ev_bindE hN h
                      refine cl1_L_44 (pc := 469) rfl dL_law_469 (by decide) (Nat.le_of_ble_eq_true rfl) (c_X9_watch hx433) ?_
                      refine ev_aload_2 (pc := 472) dL_law_472 ?_
                      refine ev_aload_0 (pc := 473) dL_law_473 ?_
                      refine ev_iload_3 (pc := 474) dL_law_474 ?_
                      refine ev_iconst (pc := 475) (v := 1) dL_law_475 rfl ?_
                      refine ev_iadd (pc := 476) dL_law_476 ?_
                      obtain ⟨x434, hx434, h⟩ := ev_bindE hN h
                      refine ev_sld (pc := 477) hxs hx434 dL_law_477 ?_
                      refine ev_aload_0 (pc := 478) dL_law_478 ?_
                      refine ev_iload_3 (pc := 479) dL_law_479 ?_
                      refine ev_iconst (pc := 480) (v := 2) dL_law_480 rfl ?_
                      refine ev_iadd (pc := 481) dL_law_481 ?_
                      obtain ⟨x435, hx435, h⟩ := ev_bindE hN h
                      refine ev_sld (pc := 482) hxs hx435 dL_law_482 ?_
                      refine ev_aload_0 (pc := 483) dL_law_483 ?_
                      refine ev_iload_3 (pc := 484) dL_law_484 ?_
                      refine ev_iconst (pc := 485) (v := 3) dL_law_485 rfl ?_
                      refine ev_iadd (pc := 486) dL_law_486 ?_
                      obtain ⟨x436, hx436, h⟩ := ev_bindE hN h
                      refine ev_sld (pc := 487) hxs hx436 dL_law_487 ?_
                      obtain ⟨p437, hp437, h⟩ := ev_bindE hN h
                      refine cl1_L_48 (pc := 488) rfl dL_law_488 (by decide) (Nat.le_of_ble_eq_true rfl) (c_X10_watch hp437) ?_
                      refine ev_icc_eq (pc := 491) (tgt := 2336) dL_law_491 (by decide) (fun c438 => ?_) (fun c438 => ?_)
                      · replace h := ev_ifp h c438
                        exact e_jn_L_law_2336_18 hR hN hxs h (fun _ _ h => ih _ _ kx h hk) hk
                      · replace h := ev_ifn h c438
                        refine ev_iconst (pc := 494) (v := 0) dL_law_494 rfl ?_
                        exact ev_iret (pc := 495) dL_law_495 rfl rfl (hR _ _ h)
                    · replace h := ev_ifn h c12
                      by_cases c13 : (x4 &&& 63) = 8
                      · replace h := ev_ifp h c13
                        refine ev_tin (pc := 33) 8 (tgt := 496) c13 (by decide) dL_law_33 rfl (by decide) ?_
                        refine ev_aload_1 (pc := 496) dL_law_496 ?_
                        refine ev_aload_0 (pc := 497) dL_law_497 ?_
                        refine ev_iload_3 (pc := 498) dL_law_498 ?_
                        refine ev_iconst (pc := 499) (v := 1) dL_law_499 rfl ?_
                        refine ev_iadd (pc := 500) dL_law_500 ?_
                        obtain ⟨x417, hx417, h⟩ := ev_bindE hN h
                        refine ev_sld (pc := 501) hxs hx417 dL_law_501 ?_
                        refine ev_aload_0 (pc := 502) dL_law_502 ?_
                        refine ev_iload_3 (pc := 503) dL_law_503 ?_
                        refine ev_iconst (pc := 504) (v := 2) dL_law_504 rfl ?_
                        refine ev_iadd (pc := 505) dL_law_505 ?_
                        obtain ⟨x418, hx418, h⟩ := ev_bindE hN h
                        refine ev_sld (pc := 506) hxs hx418 dL_law_506 ?_
                        refine ev_aload_0 (pc := 507) dL_law_507 ?_
                        refine ev_iload_3 (pc := 508) dL_law_508 ?_
                        refine ev_iconst (pc := 509) (v := 3) dL_law_509 rfl ?_
                        refine ev_iadd (pc := 510) dL_law_510 ?_
                        obtain ⟨x419, hx419, h⟩ := ev_bindE hN h
                        refine ev_sld (pc := 511) hxs hx419 dL_law_511 ?_
                        refine ev_aload_0 (pc := 512) dL_law_512 ?_
                        refine ev_iload_3 (pc := 513) dL_law_513 ?_
                        refine ev_iconst (pc := 514) (v := 4) dL_law_514 rfl ?_
                        refine ev_iadd (pc := 515) dL_law_515 ?_
                        obtain ⟨x420, hx420, h⟩ := ev_bindE hN h
                        refine ev_sld (pc := 516) hxs hx420 dL_law_516 ?_
                        refine ev_aload_0 (pc := 517) dL_law_517 ?_
                        refine ev_iload_3 (pc := 518) dL_law_518 ?_
                        refine ev_iconst (pc := 519) (v := 5) dL_law_519 rfl ?_
                        refine ev_iadd (pc := 520) dL_law_520 ?_
                        obtain ⟨x421, hx421, h⟩ := ev_bindE hN h
                        refine ev_sld (pc := 521) hxs hx421 dL_law_521 ?_
                        obtain ⟨p422, hp422, h⟩ := ev_bindE hN h
                        refine cl1_L_49 (pc := 522) rfl dL_law_522 (by decide) (Nat.le_of_ble_eq_true rfl) (c_X9_second hp422) ?_
                        refine ev_aload_2 (pc := 525) dL_law_525 ?_
                        refine ev_aload_0 (pc := 526) dL_law_526 ?_
                        refine ev_iload_3 (pc := 527) dL_law_527 ?_
                        refine ev_iconst (pc := 528) (v := 1) dL_law_528 rfl ?_
                        refine ev_iadd (pc := 529) dL_law_529 ?_
                        obtain ⟨x423, hx423, h⟩ := ev_bindE hN h
                        refine ev_sld (pc := 530) hxs hx423 dL_law_530 ?_
                        refine ev_aload_0 (pc := 531) dL_law_531 ?_
                        refine ev_iload_3 (pc := 532) dL_law_532 ?_
                        refine ev_iconst (pc := 533) (v := 2) dL_law_533 rfl ?_
                        refine ev_iadd (pc := 534) dL_law_534 ?_
                        obtain ⟨x424, hx424, h⟩ := ev_bindE hN h
                        refine ev_sld (pc := 535) hxs hx424 dL_law_535 ?_
                        refine ev_aload_0 (pc := 536) dL_law_536 ?_
                        refine ev_iload_3 (pc := 537) dL_law_537 ?_
                        refine ev_iconst (pc := 538) (v := 3) dL_law_538 rfl ?_
                        refine ev_iadd (pc := 539) dL_law_539 ?_
                        obtain ⟨x425, hx425, h⟩ := ev_bindE hN h
                        refine ev_sld (pc := 540) hxs hx425 dL_law_540 ?_
                        refine ev_aload_0 (pc := 541) dL_law_541 ?_
                        refine ev_iload_3 (pc := 542) dL_law_542 ?_
                        refine ev_iconst (pc := 543) (v := 4) dL_law_543 rfl ?_
                        refine ev_iadd (pc := 544) dL_law_544 ?_
                        obtain ⟨x426, hx426, h⟩ := ev_bindE hN h
                        refine ev_sld (pc := 545) hxs hx426 dL_law_545 ?_
                        refine ev_aload_0 (pc := 546) dL_law_546 ?_
                        refine ev_iload_3 (pc := 547) dL_law_547 ?_
                        refine ev_iconst (pc := 548) (v := 5) dL_law_548 rfl ?_
                        refine ev_iadd (pc := 549) dL_law_549 ?_
                        obtain ⟨x427, hx427, h⟩ := ev_bindE hN h
                        refine ev_sld (pc := 550) hxs hx427 dL_law_550 ?_
                        obtain ⟨p428, hp428, h⟩ := ev_bindE hN h
                        refine cl1_L_52 (pc := 551) rfl dL_law_551 (by decide) (Nat.le_of_ble_eq_true rfl) (c_X10_second hp428) ?_
                        refine ev_icc_eq (pc := 554) (tgt := 2336) dL_law_554 (by decide) (fun c429 => ?_) (fun c429 => ?_)
                        · replace h := ev_ifp h c429
                          exact e_jn_L_law_2336_18 hR hN hxs h (fun _ _ h => ih _ _ kx h hk) hk
                        · replace h := ev_ifn h c429
                          refine ev_iconst (pc := 557) (v := 0) dL_law_557 rfl ?_
                          exact ev_iret (pc := 558) dL_law_558 rfl rfl (hR _ _ h)
                      · replace h := ev_ifn h c13
                        by_cases c14 : (x4 &&& 63) = 9
                        · replace h := ev_ifp h c14
                          refine ev_tin (pc := 33) 9 (tgt := 559) c14 (by decide) dL_law_33 rfl (by decide) ?_
                          refine ev_aload_1 (pc := 559) dL_law_559 ?_
                          refine ev_aload_0 (pc := 560) dL_law_560 ?_
                          refine ev_iload_3 (pc := 561) dL_law_561 ?_
                          refine ev_iconst (pc := 562) (v := 1) dL_law_562 rfl ?_
                          refine ev_iadd (pc := 563) dL_law_563 ?_
                          obtain ⟨x404, hx404, h⟩ := ev_bindE hN h
                          refine ev_sld (pc := 564) hxs hx404 dL_law_564 ?_
                          refine ev_aload_0 (pc := 565) dL_law_565 ?_
                          refine ev_iload_3 (pc := 566) dL_law_566 ?_
                          refine ev_iconst (pc := 567) (v := 2) dL_law_567 rfl ?_
                          refine ev_iadd (pc := 568) dL_law_568 ?_
                          obtain ⟨x405, hx405, h⟩ := ev_bindE hN h
                          refine ev_sld (pc := 569) hxs hx405 dL_law_569 ?_
                          refine ev_aload_0 (pc := 570) dL_law_570 ?_
                          refine ev_iload_3 (pc := 571) dL_law_571 ?_
                          refine ev_iconst (pc := 572) (v := 3) dL_law_572 rfl ?_
                          refine ev_iadd (pc := 573) dL_law_573 ?_
                          obtain ⟨x406, hx406, h⟩ := ev_bindE hN h
                          refine ev_sld (pc := 574) hxs hx406 dL_law_574 ?_
                          refine ev_aload_0 (pc := 575) dL_law_575 ?_
                          refine ev_iload_3 (pc := 576) dL_law_576 ?_
                          refine ev_iconst (pc := 577) (v := 4) dL_law_577 rfl ?_
                          refine ev_iadd (pc := 578) dL_law_578 ?_
                          obtain ⟨x407, hx407, h⟩ := ev_bindE hN h
                          refine ev_sld (pc := 579) hxs hx407 dL_law_579 ?_
                          refine ev_aload_0 (pc := 580) dL_law_580 ?_
                          refine ev_iload_3 (pc := 581) dL_law_581 ?_
                          refine ev_iconst (pc := 582) (v := 5) dL_law_582 rfl ?_
                          refine ev_iadd (pc := 583) dL_law_583 ?_
                          obtain ⟨x408, hx408, h⟩ := ev_bindE hN h
                          refine ev_sld (pc := 584) hxs hx408 dL_law_584 ?_
                          obtain ⟨p409, hp409, h⟩ := ev_bindE hN h
                          refine cl1_L_53 (pc := 585) rfl dL_law_585 (by decide) (Nat.le_of_ble_eq_true rfl) (c_X9_run hp409) ?_
                          refine ev_aload_2 (pc := 588) dL_law_588 ?_
                          refine ev_aload_0 (pc := 589) dL_law_589 ?_
                          refine ev_iload_3 (pc := 590) dL_law_590 ?_
                          refine ev_iconst (pc := 591) (v := 1) dL_law_591 rfl ?_
                          refine ev_iadd (pc := 592) dL_law_592 ?_
                          obtain ⟨x410, hx410, h⟩ := ev_bindE hN h
                          refine ev_sld (pc := 593) hxs hx410 dL_law_593 ?_
                          refine ev_aload_0 (pc := 594) dL_law_594 ?_
                          refine ev_iload_3 (pc := 595) dL_law_595 ?_
                          refine ev_iconst (pc := 596) (v := 2) dL_law_596 rfl ?_
                          refine ev_iadd (pc := 597) dL_law_597 ?_
                          obtain ⟨x411, hx411, h⟩ := ev_bindE hN h
                          refine ev_sld (pc := 598) hxs hx411 dL_law_598 ?_
                          refine ev_aload_0 (pc := 599) dL_law_599 ?_
                          refine ev_iload_3 (pc := 600) dL_law_600 ?_
                          refine ev_iconst (pc := 601) (v := 3) dL_law_601 rfl ?_
                          refine ev_iadd (pc := 602) dL_law_602 ?_
                          obtain ⟨x412, hx412, h⟩ := ev_bindE hN h
                          refine ev_sld (pc := 603) hxs hx412 dL_law_603 ?_
                          refine ev_aload_0 (pc := 604) dL_law_604 ?_
                          refine ev_iload_3 (pc := 605) dL_law_605 ?_
                          refine ev_iconst (pc := 606) (v := 4) dL_law_606 rfl ?_
                          refine ev_iadd (pc := 607) dL_law_607 ?_
                          obtain ⟨x413, hx413, h⟩ := ev_bindE hN h
                          refine ev_sld (pc := 608) hxs hx413 dL_law_608 ?_
                          refine ev_aload_0 (pc := 609) dL_law_609 ?_
                          refine ev_iload_3 (pc := 610) dL_law_610 ?_
                          refine ev_iconst (pc := 611) (v := 5) dL_law_611 rfl ?_
                          refine ev_iadd (pc := 612) dL_law_612 ?_
                          obtain ⟨x414, hx414, h⟩ := ev_bindE hN h
                          refine ev_sld (pc := 613) hxs hx414 dL_law_613 ?_
                          obtain ⟨p415, hp415, h⟩ := ev_bindE hN h
                          refine cl1_L_57 (pc := 614) rfl dL_law_614 (by decide) (Nat.le_of_ble_eq_true rfl) (c_X10_run hp415) ?_
                          refine ev_lcc_eq (pc := 617) (tgt := 2336) dL_law_617 dL_law_618 (by decide) (fun c416 => ?_) (fun c416 => ?_)
                          · replace h := ev_ifp h c416
                            exact e_jn_L_law_2336_18 hR hN hxs h (fun _ _ h => ih _ _ kx h hk) hk
                          · replace h := ev_ifn h c416
                            refine ev_iconst (pc := 621) (v := 0) dL_law_621 rfl ?_
                            exact ev_iret (pc := 622) dL_law_622 rfl rfl (hR _ _ h)
                        · replace h := ev_ifn h c14
                          by_cases c15 : (x4 &&& 63) = 10
                          · replace h := ev_ifp h c15
                            refine ev_tin (pc := 33) 10 (tgt := 623) c15 (by decide) dL_law_33 rfl (by decide) ?_
                            refine ev_aload_1 (pc := 623) dL_law_623 ?_
                            refine ev_aload_0 (pc := 624) dL_law_624 ?_
                            refine ev_iload_3 (pc := 625) dL_law_625 ?_
                            refine ev_iconst (pc := 626) (v := 1) dL_law_626 rfl ?_
                            refine ev_iadd (pc := 627) dL_law_627 ?_
                            obtain ⟨x391, hx391, h⟩ := ev_bindE hN h
                            refine ev_sld (pc := 628) hxs hx391 dL_law_628 ?_
                            refine ev_aload_0 (pc := 629) dL_law_629 ?_
                            refine ev_iload_3 (pc := 630) dL_law_630 ?_
                            refine ev_iconst (pc := 631) (v := 2) dL_law_631 rfl ?_
                            refine ev_iadd (pc := 632) dL_law_632 ?_
                            obtain ⟨x392, hx392, h⟩ := ev_bindE hN h
                            refine ev_sld (pc := 633) hxs hx392 dL_law_633 ?_
                            refine ev_aload_0 (pc := 634) dL_law_634 ?_
                            refine ev_iload_3 (pc := 635) dL_law_635 ?_
                            refine ev_iconst (pc := 636) (v := 3) dL_law_636 rfl ?_
                            refine ev_iadd (pc := 637) dL_law_637 ?_
                            obtain ⟨x393, hx393, h⟩ := ev_bindE hN h
                            refine ev_sld (pc := 638) hxs hx393 dL_law_638 ?_
                            refine ev_aload_0 (pc := 639) dL_law_639 ?_
                            refine ev_iload_3 (pc := 640) dL_law_640 ?_
                            refine ev_iconst (pc := 641) (v := 4) dL_law_641 rfl ?_
                            refine ev_iadd (pc := 642) dL_law_642 ?_
                            obtain ⟨x394, hx394, h⟩ := ev_bindE hN h
                            refine ev_sld (pc := 643) hxs hx394 dL_law_643 ?_
                            refine ev_aload_0 (pc := 644) dL_law_644 ?_
                            refine ev_iload_3 (pc := 645) dL_law_645 ?_
                            refine ev_iconst (pc := 646) (v := 5) dL_law_646 rfl ?_
                            refine ev_iadd (pc := 647) dL_law_647 ?_
                            obtain ⟨x395, hx395, h⟩ := ev_bindE hN h
                            refine ev_sld (pc := 648) hxs hx395 dL_law_648 ?_
                            obtain ⟨p396, hp396, h⟩ := ev_bindE hN h
                            refine cl1_L_58 (pc := 649) rfl dL_law_649 (by decide) (Nat.le_of_ble_eq_true rfl) (c_X9_peak hp396) ?_
                            refine ev_aload_2 (pc := 652) dL_law_652 ?_
                            refine ev_aload_0 (pc := 653) dL_law_653 ?_
                            refine ev_iload_3 (pc := 654) dL_law_654 ?_
                            refine ev_iconst (pc := 655) (v := 1) dL_law_655 rfl ?_
                            refine ev_iadd (pc := 656) dL_law_656 ?_
                            obtain ⟨x397, hx397, h⟩ := ev_bindE hN h
                            refine ev_sld (pc := 657) hxs hx397 dL_law_657 ?_
                            refine ev_aload_0 (pc := 658) dL_law_658 ?_
                            refine ev_iload_3 (pc := 659) dL_law_659 ?_
                            refine ev_iconst (pc := 660) (v := 2) dL_law_660 rfl ?_
                            refine ev_iadd (pc := 661) dL_law_661 ?_
                            obtain ⟨x398, hx398, h⟩ := ev_bindE hN h
                            refine ev_sld (pc := 662) hxs hx398 dL_law_662 ?_
                            refine ev_aload_0 (pc := 663) dL_law_663 ?_
                            refine ev_iload_3 (pc := 664) dL_law_664 ?_
                            refine ev_iconst (pc := 665) (v := 3) dL_law_665 rfl ?_
                            refine ev_iadd (pc := 666) dL_law_666 ?_
                            obtain ⟨x399, hx399, h⟩ := ev_bindE hN h
                            refine ev_sld (pc := 667) hxs hx399 dL_law_667 ?_
                            refine ev_aload_0 (pc := 668) dL_law_668 ?_
                            refine ev_iload_3 (pc := 669) dL_law_669 ?_
                            refine ev_iconst (pc := 670) (v := 4) dL_law_670 rfl ?_
                            refine ev_iadd (pc := 671) dL_law_671 ?_
                            obtain ⟨x400, hx400, h⟩ := ev_bindE hN h
                            refine ev_sld (pc := 672) hxs hx400 dL_law_672 ?_
                            refine ev_aload_0 (pc := 673) dL_law_673 ?_
                            refine ev_iload_3 (pc := 674) dL_law_674 ?_
                            refine ev_iconst (pc := 675) (v := 5) dL_law_675 rfl ?_
                            refine ev_iadd (pc := 676) dL_law_676 ?_
                            obtain ⟨x401, hx401, h⟩ := ev_bindE hN h
                            refine ev_sld (pc := 677) hxs hx401 dL_law_677 ?_
                            obtain ⟨p402, hp402, h⟩ := ev_bindE hN h
                            refine cl1_L_61 (pc := 678) rfl dL_law_678 (by decide) (Nat.le_of_ble_eq_true rfl) (c_X10_peak hp402) ?_
                            refine ev_icc_eq (pc := 681) (tgt := 2336) dL_law_681 (by decide) (fun c403 => ?_) (fun c403 => ?_)
                            · replace h := ev_ifp h c403
                              exact e_jn_L_law_2336_18 hR hN hxs h (fun _ _ h => ih _ _ kx h hk) hk
                            · replace h := ev_ifn h c403
                              refine ev_iconst (pc := 684) (v := 0) dL_law_684 rfl ?_
                              exact ev_iret (pc := 685) dL_law_685 rfl rfl (hR _ _ h)
                          · replace h := ev_ifn h c15
                            by_cases c16 : (x4 &&& 63) = 11
                            · replace h := ev_ifp h c16
                              refine ev_tin (pc := 33) 11 (tgt := 686) c16 (by decide) dL_law_33 rfl (by decide) ?_
                              refine ev_aload_1 (pc := 686) dL_law_686 ?_
                              refine ev_aload_0 (pc := 687) dL_law_687 ?_
                              refine ev_iload_3 (pc := 688) dL_law_688 ?_
                              refine ev_iconst (pc := 689) (v := 1) dL_law_689 rfl ?_
                              refine ev_iadd (pc := 690) dL_law_690 ?_
                              obtain ⟨x376, hx376, h⟩ := ev_bindE hN h
                              refine ev_sld (pc := 691) hxs hx376 dL_law_691 ?_
                              refine ev_aload_0 (pc := 692) dL_law_692 ?_
                              refine ev_iload_3 (pc := 693) dL_law_693 ?_
                              refine ev_iconst (pc := 694) (v := 2) dL_law_694 rfl ?_
                              refine ev_iadd (pc := 695) dL_law_695 ?_
                              obtain ⟨x377, hx377, h⟩ := ev_bindE hN h
                              refine ev_sld (pc := 696) hxs hx377 dL_law_696 ?_
                              refine ev_aload_0 (pc := 697) dL_law_697 ?_
                              refine ev_iload_3 (pc := 698) dL_law_698 ?_
                              refine ev_iconst (pc := 699) (v := 3) dL_law_699 rfl ?_
                              refine ev_iadd (pc := 700) dL_law_700 ?_
                              obtain ⟨x378, hx378, h⟩ := ev_bindE hN h
                              refine ev_sld (pc := 701) hxs hx378 dL_law_701 ?_
                              refine ev_aload_0 (pc := 702) dL_law_702 ?_
                              refine ev_iload_3 (pc := 703) dL_law_703 ?_
                              refine ev_iconst (pc := 704) (v := 4) dL_law_704 rfl ?_
                              refine ev_iadd (pc := 705) dL_law_705 ?_
                              obtain ⟨x379, hx379, h⟩ := ev_bindE hN h
                              refine ev_sld (pc := 706) hxs hx379 dL_law_706 ?_
                              refine ev_aload_0 (pc := 707) dL_law_707 ?_
                              refine ev_iload_3 (pc := 708) dL_law_708 ?_
                              refine ev_iconst (pc := 709) (v := 5) dL_law_709 rfl ?_
                              refine ev_iadd (pc := 710) dL_law_710 ?_
                              obtain ⟨x380, hx380, h⟩ := ev_bindE hN h
                              refine ev_sld (pc := 711) hxs hx380 dL_law_711 ?_
                              refine ev_aload_0 (pc := 712) dL_law_712 ?_
                              refine ev_iload_3 (pc := 713) dL_law_713 ?_
                              refine ev_bipush (pc := 714) (v := 6) dL_law_714 (by decide) ?_
                              refine ev_iadd (pc := 716) dL_law_716 ?_
                              obtain ⟨x381, hx381, h⟩ := ev_bindE hN h
                              refine ev_sld (pc := 717) hxs hx381 dL_law_717 ?_
                              obtain ⟨p382, hp382, h⟩ := ev_bindE hN h
                              refine cl1_L_62 (pc := 718) rfl dL_law_718 (by decide) (Nat.le_of_ble_eq_true rfl) (c_X9_found hp382) ?_
                              refine ev_aload_2 (pc := 721) dL_law_721 ?_
                              refine ev_aload_0 (pc := 722) dL_law_722 ?_
                              refine ev_iload_3 (pc := 723) dL_law_723 ?_
                              refine ev_iconst (pc := 724) (v := 1) dL_law_724 rfl ?_
                              refine ev_iadd (pc := 725) dL_law_725 ?_
                              obtain ⟨x383, hx383, h⟩ := ev_bindE hN h
                              refine ev_sld (pc := 726) hxs hx383 dL_law_726 ?_
                              refine ev_aload_0 (pc := 727) dL_law_727 ?_
                              refine ev_iload_3 (pc := 728) dL_law_728 ?_
                              refine ev_iconst (pc := 729) (v := 2) dL_law_729 rfl ?_
                              refine ev_iadd (pc := 730) dL_law_730 ?_
                              obtain ⟨x384, hx384, h⟩ := ev_bindE hN h
                              refine ev_sld (pc := 731) hxs hx384 dL_law_731 ?_
                              refine ev_aload_0 (pc := 732) dL_law_732 ?_
                              refine ev_iload_3 (pc := 733) dL_law_733 ?_
                              refine ev_iconst (pc := 734) (v := 3) dL_law_734 rfl ?_
                              refine ev_iadd (pc := 735) dL_law_735 ?_
                              obtain ⟨x385, hx385, h⟩ := ev_bindE hN h
                              refine ev_sld (pc := 736) hxs hx385 dL_law_736 ?_
                              refine ev_aload_0 (pc := 737) dL_law_737 ?_
                              refine ev_iload_3 (pc := 738) dL_law_738 ?_
                              refine ev_iconst (pc := 739) (v := 4) dL_law_739 rfl ?_
                              refine ev_iadd (pc := 740) dL_law_740 ?_
                              obtain ⟨x386, hx386, h⟩ := ev_bindE hN h
                              refine ev_sld (pc := 741) hxs hx386 dL_law_741 ?_
                              refine ev_aload_0 (pc := 742) dL_law_742 ?_
                              refine ev_iload_3 (pc := 743) dL_law_743 ?_
                              refine ev_iconst (pc := 744) (v := 5) dL_law_744 rfl ?_
                              refine ev_iadd (pc := 745) dL_law_745 ?_
                              obtain ⟨x387, hx387, h⟩ := ev_bindE hN h
                              refine ev_sld (pc := 746) hxs hx387 dL_law_746 ?_
                              refine ev_aload_0 (pc := 747) dL_law_747 ?_
                              refine ev_iload_3 (pc := 748) dL_law_748 ?_
                              refine ev_bipush (pc := 749) (v := 6) dL_law_749 (by decide) ?_
                              refine ev_iadd (pc := 751) dL_law_751 ?_
                              obtain ⟨x388, hx388, h⟩ := ev_bindE hN h
                              refine ev_sld (pc := 752) hxs hx388 dL_law_752 ?_
                              obtain ⟨p389, hp389, h⟩ := ev_bindE hN h
                              refine cl1_L_66 (pc := 753) rfl dL_law_753 (by decide) (Nat.le_of_ble_eq_true rfl) (c_X10_found hp389) ?_
                              refine ev_lcc_eq (pc := 756) (tgt := 2336) dL_law_756 dL_law_757 (by decide) (fun c390 => ?_) (fun c390 => ?_)
                              · replace h := ev_ifp h c390
                                exact e_jn_L_law_2336_18 hR hN hxs h (fun _ _ h => ih _ _ kx h hk) hk
                              · replace h := ev_ifn h c390
                                refine ev_iconst (pc := 760) (v := 0) dL_law_760 rfl ?_
                                exact ev_iret (pc := 761) dL_law_761 rfl rfl (hR _ _ h)
                            · replace h := ev_ifn h c16
                              by_cases c17 : (x4 &&& 63) = 12
                              · replace h := ev_ifp h c17
                                refine ev_tin (pc := 33) 12 (tgt := 762) c17 (by decide) dL_law_33 rfl (by decide) ?_
                                refine ev_aload_1 (pc := 762) dL_law_762 ?_
                                refine ev_aload_0 (pc := 763) dL_law_763 ?_
                                refine ev_iload_3 (pc := 764) dL_law_764 ?_
                                refine ev_iconst (pc := 765) (v := 1) dL_law_765 rfl ?_
                                refine ev_iadd (pc := 766) dL_law_766 ?_
                                obtain ⟨x361, hx361, h⟩ := ev_bindE hN h
                                refine ev_sld (pc := 767) hxs hx361 dL_law_767 ?_
                                refine ev_aload_0 (pc := 768) dL_law_768 ?_
                                refine ev_iload_3 (pc := 769) dL_law_769 ?_
                                refine ev_iconst (pc := 770) (v := 2) dL_law_770 rfl ?_
                                refine ev_iadd (pc := 771) dL_law_771 ?_
                                obtain ⟨x362, hx362, h⟩ := ev_bindE hN h
                                refine ev_sld (pc := 772) hxs hx362 dL_law_772 ?_
                                refine ev_aload_0 (pc := 773) dL_law_773 ?_
                                refine ev_iload_3 (pc := 774) dL_law_774 ?_
                                refine ev_iconst (pc := 775) (v := 3) dL_law_775 rfl ?_
                                refine ev_iadd (pc := 776) dL_law_776 ?_
                                obtain ⟨x363, hx363, h⟩ := ev_bindE hN h
                                refine ev_sld (pc := 777) hxs hx363 dL_law_777 ?_
                                refine ev_aload_0 (pc := 778) dL_law_778 ?_
                                refine ev_iload_3 (pc := 779) dL_law_779 ?_
                                refine ev_iconst (pc := 780) (v := 4) dL_law_780 rfl ?_
                                refine ev_iadd (pc := 781) dL_law_781 ?_
                                obtain ⟨x364, hx364, h⟩ := ev_bindE hN h
                                refine ev_sld (pc := 782) hxs hx364 dL_law_782 ?_
                                obtain ⟨x366, hx366, h⟩ := ev_letE h
                                have hJ12 : ev_E G K_L_law B_L_law ev_uL 791 [some (vr 64 (0)), some (vr 0 (0)), some (vr 10 (0)), some (vi (x1))] [vi (x366), vi (x363), vi (x362), vi (x361), vr 0 (0)] (ev_emb m2) Q := by
                                  obtain ⟨p367, hp367, h⟩ := ev_bindE hN h
                                  refine cl1_L_67 (pc := 791) rfl dL_law_791 (by decide) (Nat.le_of_ble_eq_true rfl) (c_X9_iron hp367) ?_
                                  refine ev_aload_2 (pc := 794) dL_law_794 ?_
                                  refine ev_aload_0 (pc := 795) dL_law_795 ?_
                                  refine ev_iload_3 (pc := 796) dL_law_796 ?_
                                  refine ev_iconst (pc := 797) (v := 1) dL_law_797 rfl ?_
                                  refine ev_iadd (pc := 798) dL_law_798 ?_
                                  obtain ⟨x368, hx368, h⟩ := ev_bindE hN h
                                  refine ev_sld (pc := 799) hxs hx368 dL_law_799 ?_
                                  refine ev_aload_0 (pc := 800) dL_law_800 ?_
                                  refine ev_iload_3 (pc := 801) dL_law_801 ?_
                                  refine ev_iconst (pc := 802) (v := 2) dL_law_802 rfl ?_
                                  refine ev_iadd (pc := 803) dL_law_803 ?_
                                  obtain ⟨x369, hx369, h⟩ := ev_bindE hN h
                                  refine ev_sld (pc := 804) hxs hx369 dL_law_804 ?_
                                  refine ev_aload_0 (pc := 805) dL_law_805 ?_
                                  refine ev_iload_3 (pc := 806) dL_law_806 ?_
                                  refine ev_iconst (pc := 807) (v := 3) dL_law_807 rfl ?_
                                  refine ev_iadd (pc := 808) dL_law_808 ?_
                                  obtain ⟨x370, hx370, h⟩ := ev_bindE hN h
                                  refine ev_sld (pc := 809) hxs hx370 dL_law_809 ?_
                                  refine ev_aload_0 (pc := 810) dL_law_810 ?_
                                  refine ev_iload_3 (pc := 811) dL_law_811 ?_
                                  refine ev_iconst (pc := 812) (v := 4) dL_law_812 rfl ?_
                                  refine ev_iadd (pc := 813) dL_law_813 ?_
                                  obtain ⟨x371, hx371, h⟩ := ev_bindE hN h
                                  refine ev_sld (pc := 814) hxs hx371 dL_law_814 ?_
                                  obtain ⟨x373, hx373, h⟩ := ev_letE h
                                  have hJ11 : ev_E G K_L_law B_L_law ev_uL 823 [some (vr 64 (0)), some (vr 0 (0)), some (vr 10 (0)), some (vi (x1))] [vi (x373), vi (x370), vi (x369), vi (x368), vr 10 (0), vl (p367.1)] (ev_emb p367.2) Q := by
                                    obtain ⟨p374, hp374, h⟩ := ev_bindE hN h
                                    refine cl1_L_71 (pc := 823) rfl dL_law_823 (by decide) (Nat.le_of_ble_eq_true rfl) (c_X10_iron hp374) ?_
                                    refine ev_lcc_eq (pc := 826) (tgt := 2336) dL_law_826 dL_law_827 (by decide) (fun c375 => ?_) (fun c375 => ?_)
                                    · replace h := ev_ifp h c375
                                      exact e_jn_L_law_2336_18 hR hN hxs h (fun _ _ h => ih _ _ kx h hk) hk
                                    · replace h := ev_ifn h c375
                                      refine ev_iconst (pc := 830) (v := 0) dL_law_830 rfl ?_
                                      exact ev_iret (pc := 831) dL_law_831 rfl rfl (hR _ _ h)
                                  refine ev_ifc_eq (pc := 815) (tgt := 822) dL_law_815 (by decide) (fun c372 => ?_) (fun c372 => ?_)
                                  · refine ev_iconst (pc := 822) (v := 0) dL_law_822 rfl ?_
                                    replace hx373 := (hx373.trans (if_pos c372))
                                    subst hx373
                                    exact hJ11
                                  · refine ev_iconst (pc := 818) (v := 1) dL_law_818 rfl ?_
                                    refine ev_goto (pc := 819) (tgt := 823) dL_law_819 (by decide) ?_
                                    replace hx373 := (hx373.trans (if_neg c372))
                                    subst hx373
                                    exact hJ11
                                refine ev_ifc_eq (pc := 783) (tgt := 790) dL_law_783 (by decide) (fun c365 => ?_) (fun c365 => ?_)
                                · refine ev_iconst (pc := 790) (v := 0) dL_law_790 rfl ?_
                                  replace hx366 := (hx366.trans (if_pos c365))
                                  subst hx366
                                  exact hJ12
                                · refine ev_iconst (pc := 786) (v := 1) dL_law_786 rfl ?_
                                  refine ev_goto (pc := 787) (tgt := 791) dL_law_787 (by decide) ?_
                                  replace hx366 := (hx366.trans (if_neg c365))
                                  subst hx366
                                  exact hJ12
                              · replace h := ev_ifn h c17
                                by_cases c18 : (x4 &&& 63) = 13
                                · replace h := ev_ifp h c18
                                  refine ev_tin (pc := 33) 13 (tgt := 832) c18 (by decide) dL_law_33 rfl (by decide) ?_
                                  refine ev_aload_1 (pc := 832) dL_law_832 ?_
                                  refine ev_aload_0 (pc := 833) dL_law_833 ?_
                                  refine ev_iload_3 (pc := 834) dL_law_834 ?_
                                  refine ev_iconst (pc := 835) (v := 1) dL_law_835 rfl ?_
                                  refine ev_iadd (pc := 836) dL_law_836 ?_
                                  obtain ⟨x350, hx350, h⟩ := ev_bindE hN h
                                  refine ev_sld (pc := 837) hxs hx350 dL_law_837 ?_
                                  refine ev_aload_0 (pc := 838) dL_law_838 ?_
                                  refine ev_iload_3 (pc := 839) dL_law_839 ?_
                                  refine ev_iconst (pc := 840) (v := 2) dL_law_840 rfl ?_
                                  refine ev_iadd (pc := 841) dL_law_841 ?_
                                  obtain ⟨x351, hx351, h⟩ := ev_bindE hN h
                                  refine ev_sld (pc := 842) hxs hx351 dL_law_842 ?_
                                  refine ev_aload_0 (pc := 843) dL_law_843 ?_
                                  refine ev_iload_3 (pc := 844) dL_law_844 ?_
                                  refine ev_iconst (pc := 845) (v := 3) dL_law_845 rfl ?_
                                  refine ev_iadd (pc := 846) dL_law_846 ?_
                                  obtain ⟨x352, hx352, h⟩ := ev_bindE hN h
                                  refine ev_sld (pc := 847) hxs hx352 dL_law_847 ?_
                                  refine ev_aload_0 (pc := 848) dL_law_848 ?_
                                  refine ev_iload_3 (pc := 849) dL_law_849 ?_
                                  refine ev_iconst (pc := 850) (v := 4) dL_law_850 rfl ?_
                                  refine ev_iadd (pc := 851) dL_law_851 ?_
                                  obtain ⟨x353, hx353, h⟩ := ev_bindE hN h
                                  refine ev_sld (pc := 852) hxs hx353 dL_law_852 ?_
                                  obtain ⟨p354, hp354, h⟩ := ev_bindE hN h
                                  refine cl1_L_72 (pc := 853) rfl dL_law_853 (by decide) (Nat.le_of_ble_eq_true rfl) (c_X9_line hp354) ?_
                                  refine ev_aload_2 (pc := 856) dL_law_856 ?_
                                  refine ev_aload_0 (pc := 857) dL_law_857 ?_
                                  refine ev_iload_3 (pc := 858) dL_law_858 ?_
                                  refine ev_iconst (pc := 859) (v := 1) dL_law_859 rfl ?_
                                  refine ev_iadd (pc := 860) dL_law_860 ?_
                                  obtain ⟨x355, hx355, h⟩ := ev_bindE hN h
                                  refine ev_sld (pc := 861) hxs hx355 dL_law_861 ?_
                                  refine ev_aload_0 (pc := 862) dL_law_862 ?_
                                  refine ev_iload_3 (pc := 863) dL_law_863 ?_
                                  refine ev_iconst (pc := 864) (v := 2) dL_law_864 rfl ?_
                                  refine ev_iadd (pc := 865) dL_law_865 ?_
                                  obtain ⟨x356, hx356, h⟩ := ev_bindE hN h
                                  refine ev_sld (pc := 866) hxs hx356 dL_law_866 ?_
                                  refine ev_aload_0 (pc := 867) dL_law_867 ?_
                                  refine ev_iload_3 (pc := 868) dL_law_868 ?_
                                  refine ev_iconst (pc := 869) (v := 3) dL_law_869 rfl ?_
                                  refine ev_iadd (pc := 870) dL_law_870 ?_
                                  obtain ⟨x357, hx357, h⟩ := ev_bindE hN h
                                  refine ev_sld (pc := 871) hxs hx357 dL_law_871 ?_
                                  refine ev_aload_0 (pc := 872) dL_law_872 ?_
                                  refine ev_iload_3 (pc := 873) dL_law_873 ?_
                                  refine ev_iconst (pc := 874) (v := 4) dL_law_874 rfl ?_
                                  refine ev_iadd (pc := 875) dL_law_875 ?_
                                  obtain ⟨x358, hx358, h⟩ := ev_bindE hN h
                                  refine ev_sld (pc := 876) hxs hx358 dL_law_876 ?_
                                  obtain ⟨p359, hp359, h⟩ := ev_bindE hN h
                                  refine cl1_L_76 (pc := 877) rfl dL_law_877 (by decide) (Nat.le_of_ble_eq_true rfl) (c_X10_line hp359) ?_
                                  refine ev_icc_eq (pc := 880) (tgt := 2336) dL_law_880 (by decide) (fun c360 => ?_) (fun c360 => ?_)
                                  · replace h := ev_ifp h c360
                                    exact e_jn_L_law_2336_18 hR hN hxs h (fun _ _ h => ih _ _ kx h hk) hk
                                  · replace h := ev_ifn h c360
                                    refine ev_iconst (pc := 883) (v := 0) dL_law_883 rfl ?_
                                    exact ev_iret (pc := 884) dL_law_884 rfl rfl (hR _ _ h)
                                · replace h := ev_ifn h c18
                                  by_cases c19 : (x4 &&& 63) = 14
                                  · replace h := ev_ifp h c19
                                    refine ev_tin (pc := 33) 14 (tgt := 885) c19 (by decide) dL_law_33 rfl (by decide) ?_
                                    refine ev_aload_1 (pc := 885) dL_law_885 ?_
                                    refine ev_aload_0 (pc := 886) dL_law_886 ?_
                                    refine ev_iload_3 (pc := 887) dL_law_887 ?_
                                    refine ev_iconst (pc := 888) (v := 1) dL_law_888 rfl ?_
                                    refine ev_iadd (pc := 889) dL_law_889 ?_
                                    obtain ⟨x341, hx341, h⟩ := ev_bindE hN h
                                    refine ev_sld (pc := 890) hxs hx341 dL_law_890 ?_
                                    refine ev_aload_0 (pc := 891) dL_law_891 ?_
                                    refine ev_iload_3 (pc := 892) dL_law_892 ?_
                                    refine ev_iconst (pc := 893) (v := 2) dL_law_893 rfl ?_
                                    refine ev_iadd (pc := 894) dL_law_894 ?_
                                    obtain ⟨x342, hx342, h⟩ := ev_bindE hN h
                                    refine ev_sld (pc := 895) hxs hx342 dL_law_895 ?_
                                    refine ev_aload_0 (pc := 896) dL_law_896 ?_
                                    refine ev_iload_3 (pc := 897) dL_law_897 ?_
                                    refine ev_iconst (pc := 898) (v := 3) dL_law_898 rfl ?_
                                    refine ev_iadd (pc := 899) dL_law_899 ?_
                                    obtain ⟨x343, hx343, h⟩ := ev_bindE hN h
                                    refine ev_sld (pc := 900) hxs hx343 dL_law_900 ?_
                                    obtain ⟨p344, hp344, h⟩ := ev_bindE hN h
                                    refine cl1_L_77 (pc := 901) rfl dL_law_901 (by decide) (Nat.le_of_ble_eq_true rfl) (c_X9_alone hp344) ?_
                                    refine ev_aload_2 (pc := 904) dL_law_904 ?_
                                    refine ev_aload_0 (pc := 905) dL_law_905 ?_
                                    refine ev_iload_3 (pc := 906) dL_law_906 ?_
                                    refine ev_iconst (pc := 907) (v := 1) dL_law_907 rfl ?_
                                    refine ev_iadd (pc := 908) dL_law_908 ?_
                                    obtain ⟨x345, hx345, h⟩ := ev_bindE hN h
                                    refine ev_sld (pc := 909) hxs hx345 dL_law_909 ?_
                                    refine ev_aload_0 (pc := 910) dL_law_910 ?_
                                    refine ev_iload_3 (pc := 911) dL_law_911 ?_
                                    refine ev_iconst (pc := 912) (v := 2) dL_law_912 rfl ?_
                                    refine ev_iadd (pc := 913) dL_law_913 ?_
                                    obtain ⟨x346, hx346, h⟩ := ev_bindE hN h
                                    refine ev_sld (pc := 914) hxs hx346 dL_law_914 ?_
                                    refine ev_aload_0 (pc := 915) dL_law_915 ?_
                                    refine ev_iload_3 (pc := 916) dL_law_916 ?_
                                    refine ev_iconst (pc := 917) (v := 3) dL_law_917 rfl ?_
                                    refine ev_iadd (pc := 918) dL_law_918 ?_
                                    obtain ⟨x347, hx347, h⟩ := ev_bindE hN h
                                    refine ev_sld (pc := 919) hxs hx347 dL_law_919 ?_
                                    obtain ⟨p348, hp348, h⟩ := ev_bindE hN h
                                    refine cl1_L_80 (pc := 920) rfl dL_law_920 (by decide) (Nat.le_of_ble_eq_true rfl) (c_X10_alone hp348) ?_
                                    refine ev_icc_eq (pc := 923) (tgt := 2336) dL_law_923 (by decide) (fun c349 => ?_) (fun c349 => ?_)
                                    · replace h := ev_ifp h c349
                                      exact e_jn_L_law_2336_18 hR hN hxs h (fun _ _ h => ih _ _ kx h hk) hk
                                    · replace h := ev_ifn h c349
                                      refine ev_iconst (pc := 926) (v := 0) dL_law_926 rfl ?_
                                      exact ev_iret (pc := 927) dL_law_927 rfl rfl (hR _ _ h)
                                  · replace h := ev_ifn h c19
                                    by_cases c20 : (x4 &&& 63) = 15
                                    · replace h := ev_ifp h c20
                                      refine ev_tin (pc := 33) 15 (tgt := 928) c20 (by decide) dL_law_33 rfl (by decide) ?_
                                      refine ev_aload_1 (pc := 928) dL_law_928 ?_
                                      refine ev_aload_0 (pc := 929) dL_law_929 ?_
                                      refine ev_iload_3 (pc := 930) dL_law_930 ?_
                                      refine ev_iconst (pc := 931) (v := 1) dL_law_931 rfl ?_
                                      refine ev_iadd (pc := 932) dL_law_932 ?_
                                      obtain ⟨x330, hx330, h⟩ := ev_bindE hN h
                                      refine ev_sld (pc := 933) hxs hx330 dL_law_933 ?_
                                      refine ev_aload_0 (pc := 934) dL_law_934 ?_
                                      refine ev_iload_3 (pc := 935) dL_law_935 ?_
                                      refine ev_iconst (pc := 936) (v := 2) dL_law_936 rfl ?_
                                      refine ev_iadd (pc := 937) dL_law_937 ?_
                                      obtain ⟨x331, hx331, h⟩ := ev_bindE hN h
                                      refine ev_sld (pc := 938) hxs hx331 dL_law_938 ?_
                                      refine ev_aload_0 (pc := 939) dL_law_939 ?_
                                      refine ev_iload_3 (pc := 940) dL_law_940 ?_
                                      refine ev_iconst (pc := 941) (v := 3) dL_law_941 rfl ?_
                                      refine ev_iadd (pc := 942) dL_law_942 ?_
                                      obtain ⟨x332, hx332, h⟩ := ev_bindE hN h
                                      refine ev_sld (pc := 943) hxs hx332 dL_law_943 ?_
                                      refine ev_aload_0 (pc := 944) dL_law_944 ?_
                                      refine ev_iload_3 (pc := 945) dL_law_945 ?_
                                      refine ev_iconst (pc := 946) (v := 4) dL_law_946 rfl ?_
                                      refine ev_iadd (pc := 947) dL_law_947 ?_
                                      obtain ⟨x333, hx333, h⟩ := ev_bindE hN h
                                      refine ev_sld (pc := 948) hxs hx333 dL_law_948 ?_
                                      obtain ⟨p334, hp334, h⟩ := ev_bindE hN h
                                      refine cl1_L_81 (pc := 949) rfl dL_law_949 (by decide) (Nat.le_of_ble_eq_true rfl) (c_X9_hard hp334) ?_
                                      refine ev_aload_2 (pc := 952) dL_law_952 ?_
                                      refine ev_aload_0 (pc := 953) dL_law_953 ?_
                                      refine ev_iload_3 (pc := 954) dL_law_954 ?_
                                      refine ev_iconst (pc := 955) (v := 1) dL_law_955 rfl ?_
                                      refine ev_iadd (pc := 956) dL_law_956 ?_
                                      obtain ⟨x335, hx335, h⟩ := ev_bindE hN h
                                      refine ev_sld (pc := 957) hxs hx335 dL_law_957 ?_
                                      refine ev_aload_0 (pc := 958) dL_law_958 ?_
                                      refine ev_iload_3 (pc := 959) dL_law_959 ?_
                                      refine ev_iconst (pc := 960) (v := 2) dL_law_960 rfl ?_
                                      refine ev_iadd (pc := 961) dL_law_961 ?_
                                      obtain ⟨x336, hx336, h⟩ := ev_bindE hN h
                                      refine ev_sld (pc := 962) hxs hx336 dL_law_962 ?_
                                      refine ev_aload_0 (pc := 963) dL_law_963 ?_
                                      refine ev_iload_3 (pc := 964) dL_law_964 ?_
                                      refine ev_iconst (pc := 965) (v := 3) dL_law_965 rfl ?_
                                      refine ev_iadd (pc := 966) dL_law_966 ?_
                                      obtain ⟨x337, hx337, h⟩ := ev_bindE hN h
                                      refine ev_sld (pc := 967) hxs hx337 dL_law_967 ?_
                                      refine ev_aload_0 (pc := 968) dL_law_968 ?_
                                      refine ev_iload_3 (pc := 969) dL_law_969 ?_
                                      refine ev_iconst (pc := 970) (v := 4) dL_law_970 rfl ?_
                                      refine ev_iadd (pc := 971) dL_law_971 ?_
                                      obtain ⟨x338, hx338, h⟩ := ev_bindE hN h
                                      refine ev_sld (pc := 972) hxs hx338 dL_law_972 ?_
                                      obtain ⟨p339, hp339, h⟩ := ev_bindE hN h
                                      refine cl1_L_84 (pc := 973) rfl dL_law_973 (by decide) (Nat.le_of_ble_eq_true rfl) (c_X10_hard hp339) ?_
                                      refine ev_icc_eq (pc := 976) (tgt := 2336) dL_law_976 (by decide) (fun c340 => ?_) (fun c340 => ?_)
                                      · replace h := ev_ifp h c340
                                        exact e_jn_L_law_2336_18 hR hN hxs h (fun _ _ h => ih _ _ kx h hk) hk
                                      · replace h := ev_ifn h c340
                                        refine ev_iconst (pc := 979) (v := 0) dL_law_979 rfl ?_
                                        exact ev_iret (pc := 980) dL_law_980 rfl rfl (hR _ _ h)
                                    · replace h := ev_ifn h c20
                                      by_cases c21 : (x4 &&& 63) = 16
                                      · replace h := ev_ifp h c21
                                        refine ev_tin (pc := 33) 16 (tgt := 981) c21 (by decide) dL_law_33 rfl (by decide) ?_
                                        refine ev_aload_1 (pc := 981) dL_law_981 ?_
                                        refine ev_aload_0 (pc := 982) dL_law_982 ?_
                                        refine ev_iload_3 (pc := 983) dL_law_983 ?_
                                        refine ev_iconst (pc := 984) (v := 1) dL_law_984 rfl ?_
                                        refine ev_iadd (pc := 985) dL_law_985 ?_
                                        obtain ⟨x321, hx321, h⟩ := ev_bindE hN h
                                        refine ev_sld (pc := 986) hxs hx321 dL_law_986 ?_
                                        refine ev_aload_0 (pc := 987) dL_law_987 ?_
                                        refine ev_iload_3 (pc := 988) dL_law_988 ?_
                                        refine ev_iconst (pc := 989) (v := 2) dL_law_989 rfl ?_
                                        refine ev_iadd (pc := 990) dL_law_990 ?_
                                        obtain ⟨x322, hx322, h⟩ := ev_bindE hN h
                                        refine ev_sld (pc := 991) hxs hx322 dL_law_991 ?_
                                        refine ev_aload_0 (pc := 992) dL_law_992 ?_
                                        refine ev_iload_3 (pc := 993) dL_law_993 ?_
                                        refine ev_iconst (pc := 994) (v := 3) dL_law_994 rfl ?_
                                        refine ev_iadd (pc := 995) dL_law_995 ?_
                                        obtain ⟨x323, hx323, h⟩ := ev_bindE hN h
                                        refine ev_sld (pc := 996) hxs hx323 dL_law_996 ?_
                                        obtain ⟨p324, hp324, h⟩ := ev_bindE hN h
                                        refine cl1_L_85 (pc := 997) rfl dL_law_997 (by decide) (Nat.le_of_ble_eq_true rfl) (c_X9_set hp324) ?_
                                        refine ev_aload_2 (pc := 1000) dL_law_1000 ?_
                                        refine ev_aload_0 (pc := 1001) dL_law_1001 ?_
                                        refine ev_iload_3 (pc := 1002) dL_law_1002 ?_
                                        refine ev_iconst (pc := 1003) (v := 1) dL_law_1003 rfl ?_
                                        refine ev_iadd (pc := 1004) dL_law_1004 ?_
                                        obtain ⟨x325, hx325, h⟩ := ev_bindE hN h
                                        refine ev_sld (pc := 1005) hxs hx325 dL_law_1005 ?_
                                        refine ev_aload_0 (pc := 1006) dL_law_1006 ?_
                                        refine ev_iload_3 (pc := 1007) dL_law_1007 ?_
                                        refine ev_iconst (pc := 1008) (v := 2) dL_law_1008 rfl ?_
                                        refine ev_iadd (pc := 1009) dL_law_1009 ?_
                                        obtain ⟨x326, hx326, h⟩ := ev_bindE hN h
                                        refine ev_sld (pc := 1010) hxs hx326 dL_law_1010 ?_
                                        refine ev_aload_0 (pc := 1011) dL_law_1011 ?_
                                        refine ev_iload_3 (pc := 1012) dL_law_1012 ?_
                                        refine ev_iconst (pc := 1013) (v := 3) dL_law_1013 rfl ?_
                                        refine ev_iadd (pc := 1014) dL_law_1014 ?_
                                        obtain ⟨x327, hx327, h⟩ := ev_bindE hN h
                                        refine ev_sld (pc := 1015) hxs hx327 dL_law_1015 ?_
                                        obtain ⟨p328, hp328, h⟩ := ev_bindE hN h
                                        refine cl1_L_88 (pc := 1016) rfl dL_law_1016 (by decide) (Nat.le_of_ble_eq_true rfl) (c_X10_set hp328) ?_
                                        refine ev_icc_eq (pc := 1019) (tgt := 2336) dL_law_1019 (by decide) (fun c329 => ?_) (fun c329 => ?_)
                                        · replace h := ev_ifp h c329
                                          exact e_jn_L_law_2336_18 hR hN hxs h (fun _ _ h => ih _ _ kx h hk) hk
                                        · replace h := ev_ifn h c329
                                          refine ev_iconst (pc := 1022) (v := 0) dL_law_1022 rfl ?_
                                          exact ev_iret (pc := 1023) dL_law_1023 rfl rfl (hR _ _ h)
                                      · replace h := ev_ifn h c21
                                        by_cases c22 : (x4 &&& 63) = 17
                                        · replace h := ev_ifp h c22
                                          refine ev_tin (pc := 33) 17 (tgt := 1024) c22 (by decide) dL_law_33 rfl (by decide) ?_
                                          refine ev_aload_1 (pc := 1024) dL_law_1024 ?_
                                          refine ev_aload_0 (pc := 1025) dL_law_1025 ?_
                                          refine ev_iload_3 (pc := 1026) dL_law_1026 ?_
                                          refine ev_iconst (pc := 1027) (v := 1) dL_law_1027 rfl ?_
                                          refine ev_iadd (pc := 1028) dL_law_1028 ?_
                                          obtain ⟨x310, hx310, h⟩ := ev_bindE hN h
                                          refine ev_sld (pc := 1029) hxs hx310 dL_law_1029 ?_
                                          refine ev_aload_0 (pc := 1030) dL_law_1030 ?_
                                          refine ev_iload_3 (pc := 1031) dL_law_1031 ?_
                                          refine ev_iconst (pc := 1032) (v := 2) dL_law_1032 rfl ?_
                                          refine ev_iadd (pc := 1033) dL_law_1033 ?_
                                          obtain ⟨x311, hx311, h⟩ := ev_bindE hN h
                                          refine ev_sld (pc := 1034) hxs hx311 dL_law_1034 ?_
                                          refine ev_aload_0 (pc := 1035) dL_law_1035 ?_
                                          refine ev_iload_3 (pc := 1036) dL_law_1036 ?_
                                          refine ev_iconst (pc := 1037) (v := 3) dL_law_1037 rfl ?_
                                          refine ev_iadd (pc := 1038) dL_law_1038 ?_
                                          obtain ⟨x312, hx312, h⟩ := ev_bindE hN h
                                          refine ev_sld (pc := 1039) hxs hx312 dL_law_1039 ?_
                                          refine ev_aload_0 (pc := 1040) dL_law_1040 ?_
                                          refine ev_iload_3 (pc := 1041) dL_law_1041 ?_
                                          refine ev_iconst (pc := 1042) (v := 4) dL_law_1042 rfl ?_
                                          refine ev_iadd (pc := 1043) dL_law_1043 ?_
                                          obtain ⟨x313, hx313, h⟩ := ev_bindE hN h
                                          refine ev_sld (pc := 1044) hxs hx313 dL_law_1044 ?_
                                          obtain ⟨p314, hp314, h⟩ := ev_bindE hN h
                                          refine cl1_L_89 (pc := 1045) rfl dL_law_1045 (by decide) (Nat.le_of_ble_eq_true rfl) (c_X9_worth hp314) ?_
                                          refine ev_aload_2 (pc := 1048) dL_law_1048 ?_
                                          refine ev_aload_0 (pc := 1049) dL_law_1049 ?_
                                          refine ev_iload_3 (pc := 1050) dL_law_1050 ?_
                                          refine ev_iconst (pc := 1051) (v := 1) dL_law_1051 rfl ?_
                                          refine ev_iadd (pc := 1052) dL_law_1052 ?_
                                          obtain ⟨x315, hx315, h⟩ := ev_bindE hN h
                                          refine ev_sld (pc := 1053) hxs hx315 dL_law_1053 ?_
                                          refine ev_aload_0 (pc := 1054) dL_law_1054 ?_
                                          refine ev_iload_3 (pc := 1055) dL_law_1055 ?_
                                          refine ev_iconst (pc := 1056) (v := 2) dL_law_1056 rfl ?_
                                          refine ev_iadd (pc := 1057) dL_law_1057 ?_
                                          obtain ⟨x316, hx316, h⟩ := ev_bindE hN h
                                          refine ev_sld (pc := 1058) hxs hx316 dL_law_1058 ?_
                                          refine ev_aload_0 (pc := 1059) dL_law_1059 ?_
                                          refine ev_iload_3 (pc := 1060) dL_law_1060 ?_
                                          refine ev_iconst (pc := 1061) (v := 3) dL_law_1061 rfl ?_
                                          refine ev_iadd (pc := 1062) dL_law_1062 ?_
                                          obtain ⟨x317, hx317, h⟩ := ev_bindE hN h
                                          refine ev_sld (pc := 1063) hxs hx317 dL_law_1063 ?_
                                          refine ev_aload_0 (pc := 1064) dL_law_1064 ?_
                                          refine ev_iload_3 (pc := 1065) dL_law_1065 ?_
                                          refine ev_iconst (pc := 1066) (v := 4) dL_law_1066 rfl ?_
                                          refine ev_iadd (pc := 1067) dL_law_1067 ?_
                                          obtain ⟨x318, hx318, h⟩ := ev_bindE hN h
                                          refine ev_sld (pc := 1068) hxs hx318 dL_law_1068 ?_
                                          obtain ⟨p319, hp319, h⟩ := ev_bindE hN h
                                          refine cl1_L_93 (pc := 1069) rfl dL_law_1069 (by decide) (Nat.le_of_ble_eq_true rfl) (c_X10_worth hp319) ?_
                                          refine ev_lcc_eq (pc := 1072) (tgt := 2336) dL_law_1072 dL_law_1073 (by decide) (fun c320 => ?_) (fun c320 => ?_)
                                          · replace h := ev_ifp h c320
                                            exact e_jn_L_law_2336_18 hR hN hxs h (fun _ _ h => ih _ _ kx h hk) hk
                                          · replace h := ev_ifn h c320
                                            refine ev_iconst (pc := 1076) (v := 0) dL_law_1076 rfl ?_
                                            exact ev_iret (pc := 1077) dL_law_1077 rfl rfl (hR _ _ h)
                                        · replace h := ev_ifn h c22
                                          by_cases c23 : (x4 &&& 63) = 18
                                          · replace h := ev_ifp h c23
                                            refine ev_tin (pc := 33) 18 (tgt := 1078) c23 (by decide) dL_law_33 rfl (by decide) ?_
                                            refine ev_aload_1 (pc := 1078) dL_law_1078 ?_
                                            refine ev_aload_0 (pc := 1079) dL_law_1079 ?_
                                            refine ev_iload_3 (pc := 1080) dL_law_1080 ?_
                                            refine ev_iconst (pc := 1081) (v := 1) dL_law_1081 rfl ?_
                                            refine ev_iadd (pc := 1082) dL_law_1082 ?_
                                            obtain ⟨x299, hx299, h⟩ := ev_bindE hN h
                                            refine ev_sld (pc := 1083) hxs hx299 dL_law_1083 ?_
                                            refine ev_aload_0 (pc := 1084) dL_law_1084 ?_
                                            refine ev_iload_3 (pc := 1085) dL_law_1085 ?_
                                            refine ev_iconst (pc := 1086) (v := 2) dL_law_1086 rfl ?_
                                            refine ev_iadd (pc := 1087) dL_law_1087 ?_
                                            obtain ⟨x300, hx300, h⟩ := ev_bindE hN h
                                            refine ev_sld (pc := 1088) hxs hx300 dL_law_1088 ?_
                                            refine ev_aload_0 (pc := 1089) dL_law_1089 ?_
                                            refine ev_iload_3 (pc := 1090) dL_law_1090 ?_
                                            refine ev_iconst (pc := 1091) (v := 3) dL_law_1091 rfl ?_
                                            refine ev_iadd (pc := 1092) dL_law_1092 ?_
                                            obtain ⟨x301, hx301, h⟩ := ev_bindE hN h
                                            refine ev_sld (pc := 1093) hxs hx301 dL_law_1093 ?_
                                            refine ev_aload_0 (pc := 1094) dL_law_1094 ?_
                                            refine ev_iload_3 (pc := 1095) dL_law_1095 ?_
                                            refine ev_iconst (pc := 1096) (v := 4) dL_law_1096 rfl ?_
                                            refine ev_iadd (pc := 1097) dL_law_1097 ?_
                                            obtain ⟨x302, hx302, h⟩ := ev_bindE hN h
                                            refine ev_sld (pc := 1098) hxs hx302 dL_law_1098 ?_
                                            obtain ⟨p303, hp303, h⟩ := ev_bindE hN h
                                            refine cl1_L_94 (pc := 1099) rfl dL_law_1099 (by decide) (Nat.le_of_ble_eq_true rfl) (c_X9_night hp303) ?_
                                            refine ev_aload_2 (pc := 1102) dL_law_1102 ?_
                                            refine ev_aload_0 (pc := 1103) dL_law_1103 ?_
                                            refine ev_iload_3 (pc := 1104) dL_law_1104 ?_
                                            refine ev_iconst (pc := 1105) (v := 1) dL_law_1105 rfl ?_
                                            refine ev_iadd (pc := 1106) dL_law_1106 ?_
                                            obtain ⟨x304, hx304, h⟩ := ev_bindE hN h
                                            refine ev_sld (pc := 1107) hxs hx304 dL_law_1107 ?_
                                            refine ev_aload_0 (pc := 1108) dL_law_1108 ?_
                                            refine ev_iload_3 (pc := 1109) dL_law_1109 ?_
                                            refine ev_iconst (pc := 1110) (v := 2) dL_law_1110 rfl ?_
                                            refine ev_iadd (pc := 1111) dL_law_1111 ?_
                                            obtain ⟨x305, hx305, h⟩ := ev_bindE hN h
                                            refine ev_sld (pc := 1112) hxs hx305 dL_law_1112 ?_
                                            refine ev_aload_0 (pc := 1113) dL_law_1113 ?_
                                            refine ev_iload_3 (pc := 1114) dL_law_1114 ?_
                                            refine ev_iconst (pc := 1115) (v := 3) dL_law_1115 rfl ?_
                                            refine ev_iadd (pc := 1116) dL_law_1116 ?_
                                            obtain ⟨x306, hx306, h⟩ := ev_bindE hN h
                                            refine ev_sld (pc := 1117) hxs hx306 dL_law_1117 ?_
                                            refine ev_aload_0 (pc := 1118) dL_law_1118 ?_
                                            refine ev_iload_3 (pc := 1119) dL_law_1119 ?_
                                            refine ev_iconst (pc := 1120) (v := 4) dL_law_1120 rfl ?_
                                            refine ev_iadd (pc := 1121) dL_law_1121 ?_
                                            obtain ⟨x307, hx307, h⟩ := ev_bindE hN h
                                            refine ev_sld (pc := 1122) hxs hx307 dL_law_1122 ?_
                                            obtain ⟨p308, hp308, h⟩ := ev_bindE hN h
                                            refine cl1_L_97 (pc := 1123) rfl dL_law_1123 (by decide) (Nat.le_of_ble_eq_true rfl) (c_X10_night hp308) ?_
                                            refine ev_lcc_eq (pc := 1126) (tgt := 2336) dL_law_1126 dL_law_1127 (by decide) (fun c309 => ?_) (fun c309 => ?_)
                                            · replace h := ev_ifp h c309
                                              exact e_jn_L_law_2336_18 hR hN hxs h (fun _ _ h => ih _ _ kx h hk) hk
                                            · replace h := ev_ifn h c309
                                              refine ev_iconst (pc := 1130) (v := 0) dL_law_1130 rfl ?_
                                              exact ev_iret (pc := 1131) dL_law_1131 rfl rfl (hR _ _ h)
                                          · replace h := ev_ifn h c23
                                            by_cases c24 : (x4 &&& 63) = 19
                                            · replace h := ev_ifp h c24
                                              refine ev_tin (pc := 33) 19 (tgt := 1132) c24 (by decide) dL_law_33 rfl (by decide) ?_
                                              refine ev_aload_1 (pc := 1132) dL_law_1132 ?_
                                              refine ev_aload_0 (pc := 1133) dL_law_1133 ?_
                                              refine ev_iload_3 (pc := 1134) dL_law_1134 ?_
                                              refine ev_iconst (pc := 1135) (v := 1) dL_law_1135 rfl ?_
                                              refine ev_iadd (pc := 1136) dL_law_1136 ?_
                                              obtain ⟨x288, hx288, h⟩ := ev_bindE hN h
                                              refine ev_sld (pc := 1137) hxs hx288 dL_law_1137 ?_
                                              refine ev_aload_0 (pc := 1138) dL_law_1138 ?_
                                              refine ev_iload_3 (pc := 1139) dL_law_1139 ?_
                                              refine ev_iconst (pc := 1140) (v := 2) dL_law_1140 rfl ?_
                                              refine ev_iadd (pc := 1141) dL_law_1141 ?_
                                              obtain ⟨x289, hx289, h⟩ := ev_bindE hN h
                                              refine ev_sld (pc := 1142) hxs hx289 dL_law_1142 ?_
                                              refine ev_aload_0 (pc := 1143) dL_law_1143 ?_
                                              refine ev_iload_3 (pc := 1144) dL_law_1144 ?_
                                              refine ev_iconst (pc := 1145) (v := 3) dL_law_1145 rfl ?_
                                              refine ev_iadd (pc := 1146) dL_law_1146 ?_
                                              obtain ⟨x290, hx290, h⟩ := ev_bindE hN h
                                              refine ev_sld (pc := 1147) hxs hx290 dL_law_1147 ?_
                                              refine ev_aload_0 (pc := 1148) dL_law_1148 ?_
                                              refine ev_iload_3 (pc := 1149) dL_law_1149 ?_
                                              refine ev_iconst (pc := 1150) (v := 4) dL_law_1150 rfl ?_
                                              refine ev_iadd (pc := 1151) dL_law_1151 ?_
                                              obtain ⟨x291, hx291, h⟩ := ev_bindE hN h
                                              refine ev_sld (pc := 1152) hxs hx291 dL_law_1152 ?_
                                              obtain ⟨p292, hp292, h⟩ := ev_bindE hN h
                                              refine cl1_L_98 (pc := 1153) rfl dL_law_1153 (by decide) (Nat.le_of_ble_eq_true rfl) (c_X9_cloud hp292) ?_
                                              refine ev_aload_2 (pc := 1156) dL_law_1156 ?_
                                              refine ev_aload_0 (pc := 1157) dL_law_1157 ?_
                                              refine ev_iload_3 (pc := 1158) dL_law_1158 ?_
                                              refine ev_iconst (pc := 1159) (v := 1) dL_law_1159 rfl ?_
                                              refine ev_iadd (pc := 1160) dL_law_1160 ?_
                                              obtain ⟨x293, hx293, h⟩ := ev_bindE hN h
                                              refine ev_sld (pc := 1161) hxs hx293 dL_law_1161 ?_
                                              refine ev_aload_0 (pc := 1162) dL_law_1162 ?_
                                              refine ev_iload_3 (pc := 1163) dL_law_1163 ?_
                                              refine ev_iconst (pc := 1164) (v := 2) dL_law_1164 rfl ?_
                                              refine ev_iadd (pc := 1165) dL_law_1165 ?_
                                              obtain ⟨x294, hx294, h⟩ := ev_bindE hN h
                                              refine ev_sld (pc := 1166) hxs hx294 dL_law_1166 ?_
                                              refine ev_aload_0 (pc := 1167) dL_law_1167 ?_
                                              refine ev_iload_3 (pc := 1168) dL_law_1168 ?_
                                              refine ev_iconst (pc := 1169) (v := 3) dL_law_1169 rfl ?_
                                              refine ev_iadd (pc := 1170) dL_law_1170 ?_
                                              obtain ⟨x295, hx295, h⟩ := ev_bindE hN h
                                              refine ev_sld (pc := 1171) hxs hx295 dL_law_1171 ?_
                                              refine ev_aload_0 (pc := 1172) dL_law_1172 ?_
                                              refine ev_iload_3 (pc := 1173) dL_law_1173 ?_
                                              refine ev_iconst (pc := 1174) (v := 4) dL_law_1174 rfl ?_
                                              refine ev_iadd (pc := 1175) dL_law_1175 ?_
                                              obtain ⟨x296, hx296, h⟩ := ev_bindE hN h
                                              refine ev_sld (pc := 1176) hxs hx296 dL_law_1176 ?_
                                              obtain ⟨p297, hp297, h⟩ := ev_bindE hN h
                                              refine cl1_L_101 (pc := 1177) rfl dL_law_1177 (by decide) (Nat.le_of_ble_eq_true rfl) (c_X10_cloud hp297) ?_
                                              refine ev_icc_eq (pc := 1180) (tgt := 2336) dL_law_1180 (by decide) (fun c298 => ?_) (fun c298 => ?_)
                                              · replace h := ev_ifp h c298
                                                exact e_jn_L_law_2336_18 hR hN hxs h (fun _ _ h => ih _ _ kx h hk) hk
                                              · replace h := ev_ifn h c298
                                                refine ev_iconst (pc := 1183) (v := 0) dL_law_1183 rfl ?_
                                                exact ev_iret (pc := 1184) dL_law_1184 rfl rfl (hR _ _ h)
                                            · replace h := ev_ifn h c24
                                              by_cases c25 : (x4 &&& 63) = 20
                                              · replace h := ev_ifp h c25
                                                refine ev_tin (pc := 33) 20 (tgt := 1185) c25 (by decide) dL_law_33 rfl (by decide) ?_
                                                refine ev_aload_1 (pc := 1185) dL_law_1185 ?_
                                                refine ev_aload_0 (pc := 1186) dL_law_1186 ?_
                                                refine ev_iload_3 (pc := 1187) dL_law_1187 ?_
                                                refine ev_iconst (pc := 1188) (v := 1) dL_law_1188 rfl ?_
                                                refine ev_iadd (pc := 1189) dL_law_1189 ?_
                                                obtain ⟨x277, hx277, h⟩ := ev_bindE hN h
                                                refine ev_sld (pc := 1190) hxs hx277 dL_law_1190 ?_
                                                refine ev_aload_0 (pc := 1191) dL_law_1191 ?_
                                                refine ev_iload_3 (pc := 1192) dL_law_1192 ?_
                                                refine ev_iconst (pc := 1193) (v := 2) dL_law_1193 rfl ?_
                                                refine ev_iadd (pc := 1194) dL_law_1194 ?_
                                                obtain ⟨x278, hx278, h⟩ := ev_bindE hN h
                                                refine ev_sld (pc := 1195) hxs hx278 dL_law_1195 ?_
                                                refine ev_aload_0 (pc := 1196) dL_law_1196 ?_
                                                refine ev_iload_3 (pc := 1197) dL_law_1197 ?_
                                                refine ev_iconst (pc := 1198) (v := 3) dL_law_1198 rfl ?_
                                                refine ev_iadd (pc := 1199) dL_law_1199 ?_
                                                obtain ⟨x279, hx279, h⟩ := ev_bindE hN h
                                                refine ev_sld (pc := 1200) hxs hx279 dL_law_1200 ?_
                                                refine ev_aload_0 (pc := 1201) dL_law_1201 ?_
                                                refine ev_iload_3 (pc := 1202) dL_law_1202 ?_
                                                refine ev_iconst (pc := 1203) (v := 4) dL_law_1203 rfl ?_
                                                refine ev_iadd (pc := 1204) dL_law_1204 ?_
                                                obtain ⟨x280, hx280, h⟩ := ev_bindE hN h
                                                refine ev_sld (pc := 1205) hxs hx280 dL_law_1205 ?_
                                                obtain ⟨p281, hp281, h⟩ := ev_bindE hN h
                                                refine cl1_L_102 (pc := 1206) rfl dL_law_1206 (by decide) (Nat.le_of_ble_eq_true rfl) (c_X9_coarse hp281) ?_
                                                refine ev_aload_2 (pc := 1209) dL_law_1209 ?_
                                                refine ev_aload_0 (pc := 1210) dL_law_1210 ?_
                                                refine ev_iload_3 (pc := 1211) dL_law_1211 ?_
                                                refine ev_iconst (pc := 1212) (v := 1) dL_law_1212 rfl ?_
                                                refine ev_iadd (pc := 1213) dL_law_1213 ?_
                                                obtain ⟨x282, hx282, h⟩ := ev_bindE hN h
                                                refine ev_sld (pc := 1214) hxs hx282 dL_law_1214 ?_
                                                refine ev_aload_0 (pc := 1215) dL_law_1215 ?_
                                                refine ev_iload_3 (pc := 1216) dL_law_1216 ?_
                                                refine ev_iconst (pc := 1217) (v := 2) dL_law_1217 rfl ?_
                                                refine ev_iadd (pc := 1218) dL_law_1218 ?_
                                                obtain ⟨x283, hx283, h⟩ := ev_bindE hN h
                                                refine ev_sld (pc := 1219) hxs hx283 dL_law_1219 ?_
                                                refine ev_aload_0 (pc := 1220) dL_law_1220 ?_
                                                refine ev_iload_3 (pc := 1221) dL_law_1221 ?_
                                                refine ev_iconst (pc := 1222) (v := 3) dL_law_1222 rfl ?_
                                                refine ev_iadd (pc := 1223) dL_law_1223 ?_
                                                obtain ⟨x284, hx284, h⟩ := ev_bindE hN h
                                                refine ev_sld (pc := 1224) hxs hx284 dL_law_1224 ?_
                                                refine ev_aload_0 (pc := 1225) dL_law_1225 ?_
                                                refine ev_iload_3 (pc := 1226) dL_law_1226 ?_
                                                refine ev_iconst (pc := 1227) (v := 4) dL_law_1227 rfl ?_
                                                refine ev_iadd (pc := 1228) dL_law_1228 ?_
                                                obtain ⟨x285, hx285, h⟩ := ev_bindE hN h
                                                refine ev_sld (pc := 1229) hxs hx285 dL_law_1229 ?_
                                                obtain ⟨p286, hp286, h⟩ := ev_bindE hN h
                                                refine cl1_L_105 (pc := 1230) rfl dL_law_1230 (by decide) (Nat.le_of_ble_eq_true rfl) (c_X10_coarse hp286) ?_
                                                refine ev_icc_eq (pc := 1233) (tgt := 2336) dL_law_1233 (by decide) (fun c287 => ?_) (fun c287 => ?_)
                                                · replace h := ev_ifp h c287
                                                  exact e_jn_L_law_2336_18 hR hN hxs h (fun _ _ h => ih _ _ kx h hk) hk
                                                · replace h := ev_ifn h c287
                                                  refine ev_iconst (pc := 1236) (v := 0) dL_law_1236 rfl ?_
                                                  exact ev_iret (pc := 1237) dL_law_1237 rfl rfl (hR _ _ h)
                                              · replace h := ev_ifn h c25
                                                by_cases c26 : (x4 &&& 63) = 21
                                                · replace h := ev_ifp h c26
                                                  refine ev_tin (pc := 33) 21 (tgt := 1238) c26 (by decide) dL_law_33 rfl (by decide) ?_
                                                  refine ev_aload_1 (pc := 1238) dL_law_1238 ?_
                                                  refine ev_aload_0 (pc := 1239) dL_law_1239 ?_
                                                  refine ev_iload_3 (pc := 1240) dL_law_1240 ?_
                                                  refine ev_iconst (pc := 1241) (v := 1) dL_law_1241 rfl ?_
                                                  refine ev_iadd (pc := 1242) dL_law_1242 ?_
                                                  obtain ⟨x260, hx260, h⟩ := ev_bindE hN h
                                                  refine ev_sld (pc := 1243) hxs hx260 dL_law_1243 ?_
                                                  refine ev_aload_0 (pc := 1244) dL_law_1244 ?_
                                                  refine ev_iload_3 (pc := 1245) dL_law_1245 ?_
                                                  refine ev_iconst (pc := 1246) (v := 2) dL_law_1246 rfl ?_
                                                  refine ev_iadd (pc := 1247) dL_law_1247 ?_
                                                  obtain ⟨x261, hx261, h⟩ := ev_bindE hN h
                                                  refine ev_sld (pc := 1248) hxs hx261 dL_law_1248 ?_
                                                  refine ev_aload_0 (pc := 1249) dL_law_1249 ?_
                                                  refine ev_iload_3 (pc := 1250) dL_law_1250 ?_
                                                  refine ev_iconst (pc := 1251) (v := 3) dL_law_1251 rfl ?_
                                                  refine ev_iadd (pc := 1252) dL_law_1252 ?_
                                                  obtain ⟨x262, hx262, h⟩ := ev_bindE hN h
                                                  refine ev_sld (pc := 1253) hxs hx262 dL_law_1253 ?_
                                                  refine ev_aload_0 (pc := 1254) dL_law_1254 ?_
                                                  refine ev_iload_3 (pc := 1255) dL_law_1255 ?_
                                                  refine ev_iconst (pc := 1256) (v := 4) dL_law_1256 rfl ?_
                                                  refine ev_iadd (pc := 1257) dL_law_1257 ?_
                                                  obtain ⟨x263, hx263, h⟩ := ev_bindE hN h
                                                  refine ev_sld (pc := 1258) hxs hx263 dL_law_1258 ?_
                                                  refine ev_aload_0 (pc := 1259) dL_law_1259 ?_
                                                  refine ev_iload_3 (pc := 1260) dL_law_1260 ?_
                                                  refine ev_iconst (pc := 1261) (v := 5) dL_law_1261 rfl ?_
                                                  refine ev_iadd (pc := 1262) dL_law_1262 ?_
                                                  obtain ⟨x264, hx264, h⟩ := ev_bindE hN h
                                                  refine ev_sld (pc := 1263) hxs hx264 dL_law_1263 ?_
                                                  obtain ⟨x266, hx266, h⟩ := ev_letE h
                                                  have hJ10 : ev_E G K_L_law B_L_law ev_uL 1272 [some (vr 64 (0)), some (vr 0 (0)), some (vr 10 (0)), some (vi (x1))] [vi (x266), vi (x263), vi (x262), vi (x261), vi (x260), vr 0 (0)] (ev_emb m2) Q := by
                                                    obtain ⟨p267, hp267, h⟩ := ev_bindE hN h
                                                    refine cl1_L_106 (pc := 1272) rfl dL_law_1272 (by decide) (Nat.le_of_ble_eq_true rfl) (c_X9_weary hp267) ?_
                                                    refine ev_aload_2 (pc := 1275) dL_law_1275 ?_
                                                    refine ev_aload_0 (pc := 1276) dL_law_1276 ?_
                                                    refine ev_iload_3 (pc := 1277) dL_law_1277 ?_
                                                    refine ev_iconst (pc := 1278) (v := 1) dL_law_1278 rfl ?_
                                                    refine ev_iadd (pc := 1279) dL_law_1279 ?_
                                                    obtain ⟨x268, hx268, h⟩ := ev_bindE hN h
                                                    refine ev_sld (pc := 1280) hxs hx268 dL_law_1280 ?_
                                                    refine ev_aload_0 (pc := 1281) dL_law_1281 ?_
                                                    refine ev_iload_3 (pc := 1282) dL_law_1282 ?_
                                                    refine ev_iconst (pc := 1283) (v := 2) dL_law_1283 rfl ?_
                                                    refine ev_iadd (pc := 1284) dL_law_1284 ?_
                                                    obtain ⟨x269, hx269, h⟩ := ev_bindE hN h
                                                    refine ev_sld (pc := 1285) hxs hx269 dL_law_1285 ?_
                                                    refine ev_aload_0 (pc := 1286) dL_law_1286 ?_
                                                    refine ev_iload_3 (pc := 1287) dL_law_1287 ?_
                                                    refine ev_iconst (pc := 1288) (v := 3) dL_law_1288 rfl ?_
                                                    refine ev_iadd (pc := 1289) dL_law_1289 ?_
                                                    obtain ⟨x270, hx270, h⟩ := ev_bindE hN h
                                                    refine ev_sld (pc := 1290) hxs hx270 dL_law_1290 ?_
                                                    refine ev_aload_0 (pc := 1291) dL_law_1291 ?_
                                                    refine ev_iload_3 (pc := 1292) dL_law_1292 ?_
                                                    refine ev_iconst (pc := 1293) (v := 4) dL_law_1293 rfl ?_
                                                    refine ev_iadd (pc := 1294) dL_law_1294 ?_
                                                    obtain ⟨x271, hx271, h⟩ := ev_bindE hN h
                                                    refine ev_sld (pc := 1295) hxs hx271 dL_law_1295 ?_
                                                    refine ev_aload_0 (pc := 1296) dL_law_1296 ?_
                                                    refine ev_iload_3 (pc := 1297) dL_law_1297 ?_
                                                    refine ev_iconst (pc := 1298) (v := 5) dL_law_1298 rfl ?_
                                                    refine ev_iadd (pc := 1299) dL_law_1299 ?_
                                                    obtain ⟨x272, hx272, h⟩ := ev_bindE hN h
                                                    refine ev_sld (pc := 1300) hxs hx272 dL_law_1300 ?_
                                                    obtain ⟨x274, hx274, h⟩ := ev_letE h
                                                    have hJ9 : ev_E G K_L_law B_L_law ev_uL 1309 [some (vr 64 (0)), some (vr 0 (0)), some (vr 10 (0)), some (vi (x1))] [vi (x274), vi (x271), vi (x270), vi (x269), vi (x268), vr 10 (0), vi (p267.1)] (ev_emb p267.2) Q := by
                                                      obtain ⟨p275, hp275, h⟩ := ev_bindE hN h
                                                      refine cl1_L_110 (pc := 1309) rfl dL_law_1309 (by decide) (Nat.le_of_ble_eq_true rfl) (c_X10_weary hp275) ?_
                                                      refine ev_icc_eq (pc := 1312) (tgt := 2336) dL_law_1312 (by decide) (fun c276 => ?_) (fun c276 => ?_)
                                                      · replace h := ev_ifp h c276
                                                        exact e_jn_L_law_2336_18 hR hN hxs h (fun _ _ h => ih _ _ kx h hk) hk
                                                      · replace h := ev_ifn h c276
                                                        refine ev_iconst (pc := 1315) (v := 0) dL_law_1315 rfl ?_
                                                        exact ev_iret (pc := 1316) dL_law_1316 rfl rfl (hR _ _ h)
                                                    refine ev_ifc_eq (pc := 1301) (tgt := 1308) dL_law_1301 (by decide) (fun c273 => ?_) (fun c273 => ?_)
                                                    · refine ev_iconst (pc := 1308) (v := 0) dL_law_1308 rfl ?_
                                                      replace hx274 := (hx274.trans (if_pos c273))
                                                      subst hx274
                                                      exact hJ9
                                                    · refine ev_iconst (pc := 1304) (v := 1) dL_law_1304 rfl ?_
                                                      refine ev_goto (pc := 1305) (tgt := 1309) dL_law_1305 (by decide) ?_
                                                      replace hx274 := (hx274.trans (if_neg c273))
                                                      subst hx274
                                                      exact hJ9
                                                  refine ev_ifc_eq (pc := 1264) (tgt := 1271) dL_law_1264 (by decide) (fun c265 => ?_) (fun c265 => ?_)
                                                  · refine ev_iconst (pc := 1271) (v := 0) dL_law_1271 rfl ?_
                                                    replace hx266 := (hx266.trans (if_pos c265))
                                                    subst hx266
                                                    exact hJ10
                                                  · refine ev_iconst (pc := 1267) (v := 1) dL_law_1267 rfl ?_
                                                    refine ev_goto (pc := 1268) (tgt := 1272) dL_law_1268 (by decide) ?_
                                                    replace hx266 := (hx266.trans (if_neg c265))
                                                    subst hx266
                                                    exact hJ10
                                                · replace h := ev_ifn h c26
                                                  by_cases c27 : (x4 &&& 63) = 22
                                                  · replace h := ev_ifp h c27
                                                    refine ev_tin (pc := 33) 22 (tgt := 1317) c27 (by decide) dL_law_33 rfl (by decide) ?_
                                                    refine ev_aload_1 (pc := 1317) dL_law_1317 ?_
                                                    refine ev_aload_0 (pc := 1318) dL_law_1318 ?_
                                                    refine ev_iload_3 (pc := 1319) dL_law_1319 ?_
                                                    refine ev_iconst (pc := 1320) (v := 1) dL_law_1320 rfl ?_
                                                    refine ev_iadd (pc := 1321) dL_law_1321 ?_
                                                    obtain ⟨x245, hx245, h⟩ := ev_bindE hN h
                                                    refine ev_sld (pc := 1322) hxs hx245 dL_law_1322 ?_
                                                    refine ev_aload_0 (pc := 1323) dL_law_1323 ?_
                                                    refine ev_iload_3 (pc := 1324) dL_law_1324 ?_
                                                    refine ev_iconst (pc := 1325) (v := 2) dL_law_1325 rfl ?_
                                                    refine ev_iadd (pc := 1326) dL_law_1326 ?_
                                                    obtain ⟨x246, hx246, h⟩ := ev_bindE hN h
                                                    refine ev_sld (pc := 1327) hxs hx246 dL_law_1327 ?_
                                                    refine ev_aload_0 (pc := 1328) dL_law_1328 ?_
                                                    refine ev_iload_3 (pc := 1329) dL_law_1329 ?_
                                                    refine ev_iconst (pc := 1330) (v := 3) dL_law_1330 rfl ?_
                                                    refine ev_iadd (pc := 1331) dL_law_1331 ?_
                                                    obtain ⟨x247, hx247, h⟩ := ev_bindE hN h
                                                    refine ev_sld (pc := 1332) hxs hx247 dL_law_1332 ?_
                                                    refine ev_aload_0 (pc := 1333) dL_law_1333 ?_
                                                    refine ev_iload_3 (pc := 1334) dL_law_1334 ?_
                                                    refine ev_iconst (pc := 1335) (v := 4) dL_law_1335 rfl ?_
                                                    refine ev_iadd (pc := 1336) dL_law_1336 ?_
                                                    obtain ⟨x248, hx248, h⟩ := ev_bindE hN h
                                                    refine ev_sld (pc := 1337) hxs hx248 dL_law_1337 ?_
                                                    obtain ⟨x250, hx250, h⟩ := ev_letE h
                                                    have hJ8 : ev_E G K_L_law B_L_law ev_uL 1346 [some (vr 64 (0)), some (vr 0 (0)), some (vr 10 (0)), some (vi (x1))] [vi (x250), vi (x247), vi (x246), vi (x245), vr 0 (0)] (ev_emb m2) Q := by
                                                      obtain ⟨p251, hp251, h⟩ := ev_bindE hN h
                                                      refine cl1_L_111 (pc := 1346) rfl dL_law_1346 (by decide) (Nat.le_of_ble_eq_true rfl) (c_X9_tries hp251) ?_
                                                      refine ev_aload_2 (pc := 1349) dL_law_1349 ?_
                                                      refine ev_aload_0 (pc := 1350) dL_law_1350 ?_
                                                      refine ev_iload_3 (pc := 1351) dL_law_1351 ?_
                                                      refine ev_iconst (pc := 1352) (v := 1) dL_law_1352 rfl ?_
                                                      refine ev_iadd (pc := 1353) dL_law_1353 ?_
                                                      obtain ⟨x252, hx252, h⟩ := ev_bindE hN h
                                                      refine ev_sld (pc := 1354) hxs hx252 dL_law_1354 ?_
                                                      refine ev_aload_0 (pc := 1355) dL_law_1355 ?_
                                                      refine ev_iload_3 (pc := 1356) dL_law_1356 ?_
                                                      refine ev_iconst (pc := 1357) (v := 2) dL_law_1357 rfl ?_
                                                      refine ev_iadd (pc := 1358) dL_law_1358 ?_
                                                      obtain ⟨x253, hx253, h⟩ := ev_bindE hN h
                                                      refine ev_sld (pc := 1359) hxs hx253 dL_law_1359 ?_
                                                      refine ev_aload_0 (pc := 1360) dL_law_1360 ?_
                                                      refine ev_iload_3 (pc := 1361) dL_law_1361 ?_
                                                      refine ev_iconst (pc := 1362) (v := 3) dL_law_1362 rfl ?_
                                                      refine ev_iadd (pc := 1363) dL_law_1363 ?_
                                                      obtain ⟨x254, hx254, h⟩ := ev_bindE hN h
                                                      refine ev_sld (pc := 1364) hxs hx254 dL_law_1364 ?_
                                                      refine ev_aload_0 (pc := 1365) dL_law_1365 ?_
                                                      refine ev_iload_3 (pc := 1366) dL_law_1366 ?_
                                                      refine ev_iconst (pc := 1367) (v := 4) dL_law_1367 rfl ?_
                                                      refine ev_iadd (pc := 1368) dL_law_1368 ?_
                                                      obtain ⟨x255, hx255, h⟩ := ev_bindE hN h
                                                      refine ev_sld (pc := 1369) hxs hx255 dL_law_1369 ?_
                                                      obtain ⟨x257, hx257, h⟩ := ev_letE h
                                                      have hJ7 : ev_E G K_L_law B_L_law ev_uL 1378 [some (vr 64 (0)), some (vr 0 (0)), some (vr 10 (0)), some (vi (x1))] [vi (x257), vi (x254), vi (x253), vi (x252), vr 10 (0), vl (p251.1)] (ev_emb p251.2) Q := by
                                                        obtain ⟨p258, hp258, h⟩ := ev_bindE hN h
                                                        refine cl1_L_114 (pc := 1378) rfl dL_law_1378 (by decide) (Nat.le_of_ble_eq_true rfl) (c_X10_tries hp258) ?_
                                                        refine ev_lcc_eq (pc := 1381) (tgt := 2336) dL_law_1381 dL_law_1382 (by decide) (fun c259 => ?_) (fun c259 => ?_)
                                                        · replace h := ev_ifp h c259
                                                          exact e_jn_L_law_2336_18 hR hN hxs h (fun _ _ h => ih _ _ kx h hk) hk
                                                        · replace h := ev_ifn h c259
                                                          refine ev_iconst (pc := 1385) (v := 0) dL_law_1385 rfl ?_
                                                          exact ev_iret (pc := 1386) dL_law_1386 rfl rfl (hR _ _ h)
                                                      refine ev_ifc_eq (pc := 1370) (tgt := 1377) dL_law_1370 (by decide) (fun c256 => ?_) (fun c256 => ?_)
                                                      · refine ev_iconst (pc := 1377) (v := 0) dL_law_1377 rfl ?_
                                                        replace hx257 := (hx257.trans (if_pos c256))
                                                        subst hx257
                                                        exact hJ7
                                                      · refine ev_iconst (pc := 1373) (v := 1) dL_law_1373 rfl ?_
                                                        refine ev_goto (pc := 1374) (tgt := 1378) dL_law_1374 (by decide) ?_
                                                        replace hx257 := (hx257.trans (if_neg c256))
                                                        subst hx257
                                                        exact hJ7
                                                    refine ev_ifc_eq (pc := 1338) (tgt := 1345) dL_law_1338 (by decide) (fun c249 => ?_) (fun c249 => ?_)
                                                    · refine ev_iconst (pc := 1345) (v := 0) dL_law_1345 rfl ?_
                                                      replace hx250 := (hx250.trans (if_pos c249))
                                                      subst hx250
                                                      exact hJ8
                                                    · refine ev_iconst (pc := 1341) (v := 1) dL_law_1341 rfl ?_
                                                      refine ev_goto (pc := 1342) (tgt := 1346) dL_law_1342 (by decide) ?_
                                                      replace hx250 := (hx250.trans (if_neg c249))
                                                      subst hx250
                                                      exact hJ8
                                                  · replace h := ev_ifn h c27
                                                    by_cases c28 : (x4 &&& 63) = 23
                                                    · replace h := ev_ifp h c28
                                                      refine ev_tin (pc := 33) 23 (tgt := 1387) c28 (by decide) dL_law_33 rfl (by decide) ?_
                                                      refine ev_aload_1 (pc := 1387) dL_law_1387 ?_
                                                      refine ev_aload_0 (pc := 1388) dL_law_1388 ?_
                                                      refine ev_iload_3 (pc := 1389) dL_law_1389 ?_
                                                      refine ev_iconst (pc := 1390) (v := 1) dL_law_1390 rfl ?_
                                                      refine ev_iadd (pc := 1391) dL_law_1391 ?_
                                                      obtain ⟨x234, hx234, h⟩ := ev_bindE hN h
                                                      refine ev_sld (pc := 1392) hxs hx234 dL_law_1392 ?_
                                                      refine ev_aload_0 (pc := 1393) dL_law_1393 ?_
                                                      refine ev_iload_3 (pc := 1394) dL_law_1394 ?_
                                                      refine ev_iconst (pc := 1395) (v := 2) dL_law_1395 rfl ?_
                                                      refine ev_iadd (pc := 1396) dL_law_1396 ?_
                                                      obtain ⟨x235, hx235, h⟩ := ev_bindE hN h
                                                      refine ev_sld (pc := 1397) hxs hx235 dL_law_1397 ?_
                                                      refine ev_aload_0 (pc := 1398) dL_law_1398 ?_
                                                      refine ev_iload_3 (pc := 1399) dL_law_1399 ?_
                                                      refine ev_iconst (pc := 1400) (v := 3) dL_law_1400 rfl ?_
                                                      refine ev_iadd (pc := 1401) dL_law_1401 ?_
                                                      obtain ⟨x236, hx236, h⟩ := ev_bindE hN h
                                                      refine ev_sld (pc := 1402) hxs hx236 dL_law_1402 ?_
                                                      refine ev_aload_0 (pc := 1403) dL_law_1403 ?_
                                                      refine ev_iload_3 (pc := 1404) dL_law_1404 ?_
                                                      refine ev_iconst (pc := 1405) (v := 4) dL_law_1405 rfl ?_
                                                      refine ev_iadd (pc := 1406) dL_law_1406 ?_
                                                      obtain ⟨x237, hx237, h⟩ := ev_bindE hN h
                                                      refine ev_sld (pc := 1407) hxs hx237 dL_law_1407 ?_
                                                      obtain ⟨p238, hp238, h⟩ := ev_bindE hN h
                                                      refine cl1_L_115 (pc := 1408) rfl dL_law_1408 (by decide) (Nat.le_of_ble_eq_true rfl) (c_X9_learning hp238) ?_
                                                      refine ev_aload_2 (pc := 1411) dL_law_1411 ?_
                                                      refine ev_aload_0 (pc := 1412) dL_law_1412 ?_
                                                      refine ev_iload_3 (pc := 1413) dL_law_1413 ?_
                                                      refine ev_iconst (pc := 1414) (v := 1) dL_law_1414 rfl ?_
                                                      refine ev_iadd (pc := 1415) dL_law_1415 ?_
                                                      obtain ⟨x239, hx239, h⟩ := ev_bindE hN h
                                                      refine ev_sld (pc := 1416) hxs hx239 dL_law_1416 ?_
                                                      refine ev_aload_0 (pc := 1417) dL_law_1417 ?_
                                                      refine ev_iload_3 (pc := 1418) dL_law_1418 ?_
                                                      refine ev_iconst (pc := 1419) (v := 2) dL_law_1419 rfl ?_
                                                      refine ev_iadd (pc := 1420) dL_law_1420 ?_
                                                      obtain ⟨x240, hx240, h⟩ := ev_bindE hN h
                                                      refine ev_sld (pc := 1421) hxs hx240 dL_law_1421 ?_
                                                      refine ev_aload_0 (pc := 1422) dL_law_1422 ?_
                                                      refine ev_iload_3 (pc := 1423) dL_law_1423 ?_
                                                      refine ev_iconst (pc := 1424) (v := 3) dL_law_1424 rfl ?_
                                                      refine ev_iadd (pc := 1425) dL_law_1425 ?_
                                                      obtain ⟨x241, hx241, h⟩ := ev_bindE hN h
                                                      refine ev_sld (pc := 1426) hxs hx241 dL_law_1426 ?_
                                                      refine ev_aload_0 (pc := 1427) dL_law_1427 ?_
                                                      refine ev_iload_3 (pc := 1428) dL_law_1428 ?_
                                                      refine ev_iconst (pc := 1429) (v := 4) dL_law_1429 rfl ?_
                                                      refine ev_iadd (pc := 1430) dL_law_1430 ?_
                                                      obtain ⟨x242, hx242, h⟩ := ev_bindE hN h
                                                      refine ev_sld (pc := 1431) hxs hx242 dL_law_1431 ?_
                                                      obtain ⟨p243, hp243, h⟩ := ev_bindE hN h
                                                      refine cl1_L_118 (pc := 1432) rfl dL_law_1432 (by decide) (Nat.le_of_ble_eq_true rfl) (c_X10_learning hp243) ?_
                                                      refine ev_icc_eq (pc := 1435) (tgt := 2336) dL_law_1435 (by decide) (fun c244 => ?_) (fun c244 => ?_)
                                                      · replace h := ev_ifp h c244
                                                        exact e_jn_L_law_2336_18 hR hN hxs h (fun _ _ h => ih _ _ kx h hk) hk
                                                      · replace h := ev_ifn h c244
                                                        refine ev_iconst (pc := 1438) (v := 0) dL_law_1438 rfl ?_
                                                        exact ev_iret (pc := 1439) dL_law_1439 rfl rfl (hR _ _ h)
                                                    · replace h := ev_ifn h c28
                                                      by_cases c29 : (x4 &&& 63) = 24
                                                      · replace h := ev_ifp h c29
                                                        refine ev_tin (pc := 33) 24 (tgt := 1440) c29 (by decide) dL_law_33 rfl (by decide) ?_
                                                        refine ev_aload_1 (pc := 1440) dL_law_1440 ?_
                                                        refine ev_aload_0 (pc := 1441) dL_law_1441 ?_
                                                        refine ev_iload_3 (pc := 1442) dL_law_1442 ?_
                                                        refine ev_iconst (pc := 1443) (v := 1) dL_law_1443 rfl ?_
                                                        refine ev_iadd (pc := 1444) dL_law_1444 ?_
                                                        obtain ⟨x223, hx223, h⟩ := ev_bindE hN h
                                                        refine ev_sld (pc := 1445) hxs hx223 dL_law_1445 ?_
                                                        refine ev_aload_0 (pc := 1446) dL_law_1446 ?_
                                                        refine ev_iload_3 (pc := 1447) dL_law_1447 ?_
                                                        refine ev_iconst (pc := 1448) (v := 2) dL_law_1448 rfl ?_
                                                        refine ev_iadd (pc := 1449) dL_law_1449 ?_
                                                        obtain ⟨x224, hx224, h⟩ := ev_bindE hN h
                                                        refine ev_sld (pc := 1450) hxs hx224 dL_law_1450 ?_
                                                        refine ev_aload_0 (pc := 1451) dL_law_1451 ?_
                                                        refine ev_iload_3 (pc := 1452) dL_law_1452 ?_
                                                        refine ev_iconst (pc := 1453) (v := 3) dL_law_1453 rfl ?_
                                                        refine ev_iadd (pc := 1454) dL_law_1454 ?_
                                                        obtain ⟨x225, hx225, h⟩ := ev_bindE hN h
                                                        refine ev_sld (pc := 1455) hxs hx225 dL_law_1455 ?_
                                                        refine ev_aload_0 (pc := 1456) dL_law_1456 ?_
                                                        refine ev_iload_3 (pc := 1457) dL_law_1457 ?_
                                                        refine ev_iconst (pc := 1458) (v := 4) dL_law_1458 rfl ?_
                                                        refine ev_iadd (pc := 1459) dL_law_1459 ?_
                                                        obtain ⟨x226, hx226, h⟩ := ev_bindE hN h
                                                        refine ev_sld (pc := 1460) hxs hx226 dL_law_1460 ?_
                                                        obtain ⟨p227, hp227, h⟩ := ev_bindE hN h
                                                        refine cl1_L_119 (pc := 1461) rfl dL_law_1461 (by decide) (Nat.le_of_ble_eq_true rfl) (c_X9_steers hp227) ?_
                                                        refine ev_aload_2 (pc := 1464) dL_law_1464 ?_
                                                        refine ev_aload_0 (pc := 1465) dL_law_1465 ?_
                                                        refine ev_iload_3 (pc := 1466) dL_law_1466 ?_
                                                        refine ev_iconst (pc := 1467) (v := 1) dL_law_1467 rfl ?_
                                                        refine ev_iadd (pc := 1468) dL_law_1468 ?_
                                                        obtain ⟨x228, hx228, h⟩ := ev_bindE hN h
                                                        refine ev_sld (pc := 1469) hxs hx228 dL_law_1469 ?_
                                                        refine ev_aload_0 (pc := 1470) dL_law_1470 ?_
                                                        refine ev_iload_3 (pc := 1471) dL_law_1471 ?_
                                                        refine ev_iconst (pc := 1472) (v := 2) dL_law_1472 rfl ?_
                                                        refine ev_iadd (pc := 1473) dL_law_1473 ?_
                                                        obtain ⟨x229, hx229, h⟩ := ev_bindE hN h
                                                        refine ev_sld (pc := 1474) hxs hx229 dL_law_1474 ?_
                                                        refine ev_aload_0 (pc := 1475) dL_law_1475 ?_
                                                        refine ev_iload_3 (pc := 1476) dL_law_1476 ?_
                                                        refine ev_iconst (pc := 1477) (v := 3) dL_law_1477 rfl ?_
                                                        refine ev_iadd (pc := 1478) dL_law_1478 ?_
                                                        obtain ⟨x230, hx230, h⟩ := ev_bindE hN h
                                                        refine ev_sld (pc := 1479) hxs hx230 dL_law_1479 ?_
                                                        refine ev_aload_0 (pc := 1480) dL_law_1480 ?_
                                                        refine ev_iload_3 (pc := 1481) dL_law_1481 ?_
                                                        refine ev_iconst (pc := 1482) (v := 4) dL_law_1482 rfl ?_
                                                        refine ev_iadd (pc := 1483) dL_law_1483 ?_
                                                        obtain ⟨x231, hx231, h⟩ := ev_bindE hN h
                                                        refine ev_sld (pc := 1484) hxs hx231 dL_law_1484 ?_
                                                        obtain ⟨p232, hp232, h⟩ := ev_bindE hN h
                                                        refine cl1_L_122 (pc := 1485) rfl dL_law_1485 (by decide) (Nat.le_of_ble_eq_true rfl) (c_X10_steers hp232) ?_
                                                        refine ev_lcc_eq (pc := 1488) (tgt := 2336) dL_law_1488 dL_law_1489 (by decide) (fun c233 => ?_) (fun c233 => ?_)
                                                        · replace h := ev_ifp h c233
                                                          exact e_jn_L_law_2336_18 hR hN hxs h (fun _ _ h => ih _ _ kx h hk) hk
                                                        · replace h := ev_ifn h c233
                                                          refine ev_iconst (pc := 1492) (v := 0) dL_law_1492 rfl ?_
                                                          exact ev_iret (pc := 1493) dL_law_1493 rfl rfl (hR _ _ h)
                                                      · replace h := ev_ifn h c29
                                                        by_cases c30 : (x4 &&& 63) = 25
                                                        · replace h := ev_ifp h c30
                                                          refine ev_tin (pc := 33) 25 (tgt := 1494) c30 (by decide) dL_law_33 rfl (by decide) ?_
                                                          refine ev_aload_1 (pc := 1494) dL_law_1494 ?_
                                                          refine ev_aload_0 (pc := 1495) dL_law_1495 ?_
                                                          refine ev_iload_3 (pc := 1496) dL_law_1496 ?_
                                                          refine ev_iconst (pc := 1497) (v := 1) dL_law_1497 rfl ?_
                                                          refine ev_iadd (pc := 1498) dL_law_1498 ?_
                                                          obtain ⟨x212, hx212, h⟩ := ev_bindE hN h
                                                          refine ev_sld (pc := 1499) hxs hx212 dL_law_1499 ?_
                                                          refine ev_aload_0 (pc := 1500) dL_law_1500 ?_
                                                          refine ev_iload_3 (pc := 1501) dL_law_1501 ?_
                                                          refine ev_iconst (pc := 1502) (v := 2) dL_law_1502 rfl ?_
                                                          refine ev_iadd (pc := 1503) dL_law_1503 ?_
                                                          obtain ⟨x213, hx213, h⟩ := ev_bindE hN h
                                                          refine ev_sld (pc := 1504) hxs hx213 dL_law_1504 ?_
                                                          refine ev_aload_0 (pc := 1505) dL_law_1505 ?_
                                                          refine ev_iload_3 (pc := 1506) dL_law_1506 ?_
                                                          refine ev_iconst (pc := 1507) (v := 3) dL_law_1507 rfl ?_
                                                          refine ev_iadd (pc := 1508) dL_law_1508 ?_
                                                          obtain ⟨x214, hx214, h⟩ := ev_bindE hN h
                                                          refine ev_sld (pc := 1509) hxs hx214 dL_law_1509 ?_
                                                          refine ev_aload_0 (pc := 1510) dL_law_1510 ?_
                                                          refine ev_iload_3 (pc := 1511) dL_law_1511 ?_
                                                          refine ev_iconst (pc := 1512) (v := 4) dL_law_1512 rfl ?_
                                                          refine ev_iadd (pc := 1513) dL_law_1513 ?_
                                                          obtain ⟨x215, hx215, h⟩ := ev_bindE hN h
                                                          refine ev_sld (pc := 1514) hxs hx215 dL_law_1514 ?_
                                                          obtain ⟨p216, hp216, h⟩ := ev_bindE hN h
                                                          refine cl1_L_123 (pc := 1515) rfl dL_law_1515 (by decide) (Nat.le_of_ble_eq_true rfl) (c_X9_change hp216) ?_
                                                          refine ev_aload_2 (pc := 1518) dL_law_1518 ?_
                                                          refine ev_aload_0 (pc := 1519) dL_law_1519 ?_
                                                          refine ev_iload_3 (pc := 1520) dL_law_1520 ?_
                                                          refine ev_iconst (pc := 1521) (v := 1) dL_law_1521 rfl ?_
                                                          refine ev_iadd (pc := 1522) dL_law_1522 ?_
                                                          obtain ⟨x217, hx217, h⟩ := ev_bindE hN h
                                                          refine ev_sld (pc := 1523) hxs hx217 dL_law_1523 ?_
                                                          refine ev_aload_0 (pc := 1524) dL_law_1524 ?_
                                                          refine ev_iload_3 (pc := 1525) dL_law_1525 ?_
                                                          refine ev_iconst (pc := 1526) (v := 2) dL_law_1526 rfl ?_
                                                          refine ev_iadd (pc := 1527) dL_law_1527 ?_
                                                          obtain ⟨x218, hx218, h⟩ := ev_bindE hN h
                                                          refine ev_sld (pc := 1528) hxs hx218 dL_law_1528 ?_
                                                          refine ev_aload_0 (pc := 1529) dL_law_1529 ?_
                                                          refine ev_iload_3 (pc := 1530) dL_law_1530 ?_
                                                          refine ev_iconst (pc := 1531) (v := 3) dL_law_1531 rfl ?_
                                                          refine ev_iadd (pc := 1532) dL_law_1532 ?_
                                                          obtain ⟨x219, hx219, h⟩ := ev_bindE hN h
                                                          refine ev_sld (pc := 1533) hxs hx219 dL_law_1533 ?_
                                                          refine ev_aload_0 (pc := 1534) dL_law_1534 ?_
                                                          refine ev_iload_3 (pc := 1535) dL_law_1535 ?_
                                                          refine ev_iconst (pc := 1536) (v := 4) dL_law_1536 rfl ?_
                                                          refine ev_iadd (pc := 1537) dL_law_1537 ?_
                                                          obtain ⟨x220, hx220, h⟩ := ev_bindE hN h
                                                          refine ev_sld (pc := 1538) hxs hx220 dL_law_1538 ?_
                                                          obtain ⟨p221, hp221, h⟩ := ev_bindE hN h
                                                          refine cl1_L_126 (pc := 1539) rfl dL_law_1539 (by decide) (Nat.le_of_ble_eq_true rfl) (c_X10_change hp221) ?_
                                                          refine ev_icc_eq (pc := 1542) (tgt := 2336) dL_law_1542 (by decide) (fun c222 => ?_) (fun c222 => ?_)
                                                          · replace h := ev_ifp h c222
                                                            exact e_jn_L_law_2336_18 hR hN hxs h (fun _ _ h => ih _ _ kx h hk) hk
                                                          · replace h := ev_ifn h c222
                                                            refine ev_iconst (pc := 1545) (v := 0) dL_law_1545 rfl ?_
                                                            exact ev_iret (pc := 1546) dL_law_1546 rfl rfl (hR _ _ h)
                                                        · replace h := ev_ifn h c30
                                                          by_cases c31 : (x4 &&& 63) = 26
                                                          · replace h := ev_ifp h c31
                                                            refine ev_tin (pc := 33) 26 (tgt := 1547) c31 (by decide) dL_law_33 rfl (by decide) ?_
                                                            refine ev_aload_1 (pc := 1547) dL_law_1547 ?_
                                                            refine ev_aload_0 (pc := 1548) dL_law_1548 ?_
                                                            refine ev_iload_3 (pc := 1549) dL_law_1549 ?_
                                                            refine ev_iconst (pc := 1550) (v := 1) dL_law_1550 rfl ?_
                                                            refine ev_iadd (pc := 1551) dL_law_1551 ?_
                                                            obtain ⟨x201, hx201, h⟩ := ev_bindE hN h
                                                            refine ev_sld (pc := 1552) hxs hx201 dL_law_1552 ?_
                                                            refine ev_aload_0 (pc := 1553) dL_law_1553 ?_
                                                            refine ev_iload_3 (pc := 1554) dL_law_1554 ?_
                                                            refine ev_iconst (pc := 1555) (v := 2) dL_law_1555 rfl ?_
                                                            refine ev_iadd (pc := 1556) dL_law_1556 ?_
                                                            obtain ⟨x202, hx202, h⟩ := ev_bindE hN h
                                                            refine ev_sld (pc := 1557) hxs hx202 dL_law_1557 ?_
                                                            refine ev_aload_0 (pc := 1558) dL_law_1558 ?_
                                                            refine ev_iload_3 (pc := 1559) dL_law_1559 ?_
                                                            refine ev_iconst (pc := 1560) (v := 3) dL_law_1560 rfl ?_
                                                            refine ev_iadd (pc := 1561) dL_law_1561 ?_
                                                            obtain ⟨x203, hx203, h⟩ := ev_bindE hN h
                                                            refine ev_sld (pc := 1562) hxs hx203 dL_law_1562 ?_
                                                            refine ev_aload_0 (pc := 1563) dL_law_1563 ?_
                                                            refine ev_iload_3 (pc := 1564) dL_law_1564 ?_
                                                            refine ev_iconst (pc := 1565) (v := 4) dL_law_1565 rfl ?_
                                                            refine ev_iadd (pc := 1566) dL_law_1566 ?_
                                                            obtain ⟨x204, hx204, h⟩ := ev_bindE hN h
                                                            refine ev_sld (pc := 1567) hxs hx204 dL_law_1567 ?_
                                                            obtain ⟨p205, hp205, h⟩ := ev_bindE hN h
                                                            refine cl1_L_127 (pc := 1568) rfl dL_law_1568 (by decide) (Nat.le_of_ble_eq_true rfl) (c_X9_order hp205) ?_
                                                            refine ev_aload_2 (pc := 1571) dL_law_1571 ?_
                                                            refine ev_aload_0 (pc := 1572) dL_law_1572 ?_
                                                            refine ev_iload_3 (pc := 1573) dL_law_1573 ?_
                                                            refine ev_iconst (pc := 1574) (v := 1) dL_law_1574 rfl ?_
                                                            refine ev_iadd (pc := 1575) dL_law_1575 ?_
                                                            obtain ⟨x206, hx206, h⟩ := ev_bindE hN h
                                                            refine ev_sld (pc := 1576) hxs hx206 dL_law_1576 ?_
                                                            refine ev_aload_0 (pc := 1577) dL_law_1577 ?_
                                                            refine ev_iload_3 (pc := 1578) dL_law_1578 ?_
                                                            refine ev_iconst (pc := 1579) (v := 2) dL_law_1579 rfl ?_
                                                            refine ev_iadd (pc := 1580) dL_law_1580 ?_
                                                            obtain ⟨x207, hx207, h⟩ := ev_bindE hN h
                                                            refine ev_sld (pc := 1581) hxs hx207 dL_law_1581 ?_
                                                            refine ev_aload_0 (pc := 1582) dL_law_1582 ?_
                                                            refine ev_iload_3 (pc := 1583) dL_law_1583 ?_
                                                            refine ev_iconst (pc := 1584) (v := 3) dL_law_1584 rfl ?_
                                                            refine ev_iadd (pc := 1585) dL_law_1585 ?_
                                                            obtain ⟨x208, hx208, h⟩ := ev_bindE hN h
                                                            refine ev_sld (pc := 1586) hxs hx208 dL_law_1586 ?_
                                                            refine ev_aload_0 (pc := 1587) dL_law_1587 ?_
                                                            refine ev_iload_3 (pc := 1588) dL_law_1588 ?_
                                                            refine ev_iconst (pc := 1589) (v := 4) dL_law_1589 rfl ?_
                                                            refine ev_iadd (pc := 1590) dL_law_1590 ?_
                                                            obtain ⟨x209, hx209, h⟩ := ev_bindE hN h
                                                            refine ev_sld (pc := 1591) hxs hx209 dL_law_1591 ?_
                                                            obtain ⟨p210, hp210, h⟩ := ev_bindE hN h
                                                            refine cl1_L_130 (pc := 1592) rfl dL_law_1592 (by decide) (Nat.le_of_ble_eq_true rfl) (c_X10_order hp210) ?_
                                                            refine ev_icc_eq (pc := 1595) (tgt := 2336) dL_law_1595 (by decide) (fun c211 => ?_) (fun c211 => ?_)
                                                            · replace h := ev_ifp h c211
                                                              exact e_jn_L_law_2336_18 hR hN hxs h (fun _ _ h => ih _ _ kx h hk) hk
                                                            · replace h := ev_ifn h c211
                                                              refine ev_iconst (pc := 1598) (v := 0) dL_law_1598 rfl ?_
                                                              exact ev_iret (pc := 1599) dL_law_1599 rfl rfl (hR _ _ h)
                                                          · replace h := ev_ifn h c31
                                                            by_cases c32 : (x4 &&& 63) = 27
                                                            · replace h := ev_ifp h c32
                                                              refine ev_tin (pc := 33) 27 (tgt := 1600) c32 (by decide) dL_law_33 rfl (by decide) ?_
                                                              refine ev_aload_1 (pc := 1600) dL_law_1600 ?_
                                                              refine ev_aload_0 (pc := 1601) dL_law_1601 ?_
                                                              refine ev_iload_3 (pc := 1602) dL_law_1602 ?_
                                                              refine ev_iconst (pc := 1603) (v := 1) dL_law_1603 rfl ?_
                                                              refine ev_iadd (pc := 1604) dL_law_1604 ?_
                                                              obtain ⟨x184, hx184, h⟩ := ev_bindE hN h
                                                              refine ev_sld (pc := 1605) hxs hx184 dL_law_1605 ?_
                                                              refine ev_aload_0 (pc := 1606) dL_law_1606 ?_
                                                              refine ev_iload_3 (pc := 1607) dL_law_1607 ?_
                                                              refine ev_iconst (pc := 1608) (v := 2) dL_law_1608 rfl ?_
                                                              refine ev_iadd (pc := 1609) dL_law_1609 ?_
                                                              obtain ⟨x185, hx185, h⟩ := ev_bindE hN h
                                                              refine ev_sld (pc := 1610) hxs hx185 dL_law_1610 ?_
                                                              refine ev_aload_0 (pc := 1611) dL_law_1611 ?_
                                                              refine ev_iload_3 (pc := 1612) dL_law_1612 ?_
                                                              refine ev_iconst (pc := 1613) (v := 3) dL_law_1613 rfl ?_
                                                              refine ev_iadd (pc := 1614) dL_law_1614 ?_
                                                              obtain ⟨x186, hx186, h⟩ := ev_bindE hN h
                                                              refine ev_sld (pc := 1615) hxs hx186 dL_law_1615 ?_
                                                              refine ev_aload_0 (pc := 1616) dL_law_1616 ?_
                                                              refine ev_iload_3 (pc := 1617) dL_law_1617 ?_
                                                              refine ev_iconst (pc := 1618) (v := 4) dL_law_1618 rfl ?_
                                                              refine ev_iadd (pc := 1619) dL_law_1619 ?_
                                                              obtain ⟨x187, hx187, h⟩ := ev_bindE hN h
                                                              refine ev_sld (pc := 1620) hxs hx187 dL_law_1620 ?_
                                                              refine ev_aload_0 (pc := 1621) dL_law_1621 ?_
                                                              refine ev_iload_3 (pc := 1622) dL_law_1622 ?_
                                                              refine ev_iconst (pc := 1623) (v := 5) dL_law_1623 rfl ?_
                                                              refine ev_iadd (pc := 1624) dL_law_1624 ?_
                                                              obtain ⟨x188, hx188, h⟩ := ev_bindE hN h
                                                              refine ev_sld (pc := 1625) hxs hx188 dL_law_1625 ?_
                                                              obtain ⟨x190, hx190, h⟩ := ev_letE h
                                                              have hJ6 : ev_E G K_L_law B_L_law ev_uL 1634 [some (vr 64 (0)), some (vr 0 (0)), some (vr 10 (0)), some (vi (x1))] [vi (x190), vi (x187), vi (x186), vi (x185), vi (x184), vr 0 (0)] (ev_emb m2) Q := by
                                                                obtain ⟨p191, hp191, h⟩ := ev_bindE hN h
                                                                refine cl1_L_131 (pc := 1634) rfl dL_law_1634 (by decide) (Nat.le_of_ble_eq_true rfl) (c_X9_both hp191) ?_
                                                                refine ev_aload_2 (pc := 1637) dL_law_1637 ?_
                                                                refine ev_aload_0 (pc := 1638) dL_law_1638 ?_
                                                                refine ev_iload_3 (pc := 1639) dL_law_1639 ?_
                                                                refine ev_iconst (pc := 1640) (v := 1) dL_law_1640 rfl ?_
                                                                refine ev_iadd (pc := 1641) dL_law_1641 ?_
                                                                obtain ⟨x192, hx192, h⟩ := ev_bindE hN h
                                                                refine ev_sld (pc := 1642) hxs hx192 dL_law_1642 ?_
                                                                refine ev_aload_0 (pc := 1643) dL_law_1643 ?_
                                                                refine ev_iload_3 (pc := 1644) dL_law_1644 ?_
                                                                refine ev_iconst (pc := 1645) (v := 2) dL_law_1645 rfl ?_
                                                                refine ev_iadd (pc := 1646) dL_law_1646 ?_
                                                                obtain ⟨x193, hx193, h⟩ := ev_bindE hN h
                                                                refine ev_sld (pc := 1647) hxs hx193 dL_law_1647 ?_
                                                                refine ev_aload_0 (pc := 1648) dL_law_1648 ?_
                                                                refine ev_iload_3 (pc := 1649) dL_law_1649 ?_
                                                                refine ev_iconst (pc := 1650) (v := 3) dL_law_1650 rfl ?_
                                                                refine ev_iadd (pc := 1651) dL_law_1651 ?_
                                                                obtain ⟨x194, hx194, h⟩ := ev_bindE hN h
                                                                refine ev_sld (pc := 1652) hxs hx194 dL_law_1652 ?_
                                                                refine ev_aload_0 (pc := 1653) dL_law_1653 ?_
                                                                refine ev_iload_3 (pc := 1654) dL_law_1654 ?_
                                                                refine ev_iconst (pc := 1655) (v := 4) dL_law_1655 rfl ?_
                                                                refine ev_iadd (pc := 1656) dL_law_1656 ?_
                                                                obtain ⟨x195, hx195, h⟩ := ev_bindE hN h
                                                                refine ev_sld (pc := 1657) hxs hx195 dL_law_1657 ?_
                                                                refine ev_aload_0 (pc := 1658) dL_law_1658 ?_
                                                                refine ev_iload_3 (pc := 1659) dL_law_1659 ?_
                                                                refine ev_iconst (pc := 1660) (v := 5) dL_law_1660 rfl ?_
                                                                refine ev_iadd (pc := 1661) dL_law_1661 ?_
                                                                obtain ⟨x196, hx196, h⟩ := ev_bindE hN h
                                                                refine ev_sld (pc := 1662) hxs hx196 dL_law_1662 ?_
                                                                obtain ⟨x198, hx198, h⟩ := ev_letE h
                                                                have hJ5 : ev_E G K_L_law B_L_law ev_uL 1671 [some (vr 64 (0)), some (vr 0 (0)), some (vr 10 (0)), some (vi (x1))] [vi (x198), vi (x195), vi (x194), vi (x193), vi (x192), vr 10 (0), vl (p191.1)] (ev_emb p191.2) Q := by
                                                                  obtain ⟨p199, hp199, h⟩ := ev_bindE hN h
                                                                  refine cl1_L_135 (pc := 1671) rfl dL_law_1671 (by decide) (Nat.le_of_ble_eq_true rfl) (c_X10_both hp199) ?_
                                                                  refine ev_lcc_eq (pc := 1674) (tgt := 2336) dL_law_1674 dL_law_1675 (by decide) (fun c200 => ?_) (fun c200 => ?_)
                                                                  · replace h := ev_ifp h c200
                                                                    exact e_jn_L_law_2336_18 hR hN hxs h (fun _ _ h => ih _ _ kx h hk) hk
                                                                  · replace h := ev_ifn h c200
                                                                    refine ev_iconst (pc := 1678) (v := 0) dL_law_1678 rfl ?_
                                                                    exact ev_iret (pc := 1679) dL_law_1679 rfl rfl (hR _ _ h)
                                                                refine ev_ifc_eq (pc := 1663) (tgt := 1670) dL_law_1663 (by decide) (fun c197 => ?_) (fun c197 => ?_)
                                                                · refine ev_iconst (pc := 1670) (v := 0) dL_law_1670 rfl ?_
                                                                  replace hx198 := (hx198.trans (if_pos c197))
                                                                  subst hx198
                                                                  exact hJ5
                                                                · refine ev_iconst (pc := 1666) (v := 1) dL_law_1666 rfl ?_
                                                                  refine ev_goto (pc := 1667) (tgt := 1671) dL_law_1667 (by decide) ?_
                                                                  replace hx198 := (hx198.trans (if_neg c197))
                                                                  subst hx198
                                                                  exact hJ5
                                                              refine ev_ifc_eq (pc := 1626) (tgt := 1633) dL_law_1626 (by decide) (fun c189 => ?_) (fun c189 => ?_)
                                                              · refine ev_iconst (pc := 1633) (v := 0) dL_law_1633 rfl ?_
                                                                replace hx190 := (hx190.trans (if_pos c189))
                                                                subst hx190
                                                                exact hJ6
                                                              · refine ev_iconst (pc := 1629) (v := 1) dL_law_1629 rfl ?_
                                                                refine ev_goto (pc := 1630) (tgt := 1634) dL_law_1630 (by decide) ?_
                                                                replace hx190 := (hx190.trans (if_neg c189))
                                                                subst hx190
                                                                exact hJ6
                                                            · replace h := ev_ifn h c32
                                                              by_cases c33 : (x4 &&& 63) = 28
                                                              · replace h := ev_ifp h c33
                                                                refine ev_tin (pc := 33) 28 (tgt := 1680) c33 (by decide) dL_law_33 rfl (by decide) ?_
                                                                refine ev_aload_1 (pc := 1680) dL_law_1680 ?_
                                                                refine ev_aload_0 (pc := 1681) dL_law_1681 ?_
                                                                refine ev_iload_3 (pc := 1682) dL_law_1682 ?_
                                                                refine ev_iconst (pc := 1683) (v := 1) dL_law_1683 rfl ?_
                                                                refine ev_iadd (pc := 1684) dL_law_1684 ?_
                                                                obtain ⟨x169, hx169, h⟩ := ev_bindE hN h
                                                                refine ev_sld (pc := 1685) hxs hx169 dL_law_1685 ?_
                                                                refine ev_aload_0 (pc := 1686) dL_law_1686 ?_
                                                                refine ev_iload_3 (pc := 1687) dL_law_1687 ?_
                                                                refine ev_iconst (pc := 1688) (v := 2) dL_law_1688 rfl ?_
                                                                refine ev_iadd (pc := 1689) dL_law_1689 ?_
                                                                obtain ⟨x170, hx170, h⟩ := ev_bindE hN h
                                                                refine ev_sld (pc := 1690) hxs hx170 dL_law_1690 ?_
                                                                refine ev_aload_0 (pc := 1691) dL_law_1691 ?_
                                                                refine ev_iload_3 (pc := 1692) dL_law_1692 ?_
                                                                refine ev_iconst (pc := 1693) (v := 3) dL_law_1693 rfl ?_
                                                                refine ev_iadd (pc := 1694) dL_law_1694 ?_
                                                                obtain ⟨x171, hx171, h⟩ := ev_bindE hN h
                                                                refine ev_sld (pc := 1695) hxs hx171 dL_law_1695 ?_
                                                                refine ev_aload_0 (pc := 1696) dL_law_1696 ?_
                                                                refine ev_iload_3 (pc := 1697) dL_law_1697 ?_
                                                                refine ev_iconst (pc := 1698) (v := 4) dL_law_1698 rfl ?_
                                                                refine ev_iadd (pc := 1699) dL_law_1699 ?_
                                                                obtain ⟨x172, hx172, h⟩ := ev_bindE hN h
                                                                refine ev_sld (pc := 1700) hxs hx172 dL_law_1700 ?_
                                                                obtain ⟨x174, hx174, h⟩ := ev_letE h
                                                                have hJ4 : ev_E G K_L_law B_L_law ev_uL 1709 [some (vr 64 (0)), some (vr 0 (0)), some (vr 10 (0)), some (vi (x1))] [vi (x174), vi (x171), vi (x170), vi (x169), vr 0 (0)] (ev_emb m2) Q := by
                                                                  obtain ⟨p175, hp175, h⟩ := ev_bindE hN h
                                                                  refine cl1_L_136 (pc := 1709) rfl dL_law_1709 (by decide) (Nat.le_of_ble_eq_true rfl) (c_X9_apart hp175) ?_
                                                                  refine ev_aload_2 (pc := 1712) dL_law_1712 ?_
                                                                  refine ev_aload_0 (pc := 1713) dL_law_1713 ?_
                                                                  refine ev_iload_3 (pc := 1714) dL_law_1714 ?_
                                                                  refine ev_iconst (pc := 1715) (v := 1) dL_law_1715 rfl ?_
                                                                  refine ev_iadd (pc := 1716) dL_law_1716 ?_
                                                                  obtain ⟨x176, hx176, h⟩ := ev_bindE hN h
                                                                  refine ev_sld (pc := 1717) hxs hx176 dL_law_1717 ?_
                                                                  refine ev_aload_0 (pc := 1718) dL_law_1718 ?_
                                                                  refine ev_iload_3 (pc := 1719) dL_law_1719 ?_
                                                                  refine ev_iconst (pc := 1720) (v := 2) dL_law_1720 rfl ?_
                                                                  refine ev_iadd (pc := 1721) dL_law_1721 ?_
                                                                  obtain ⟨x177, hx177, h⟩ := ev_bindE hN h
                                                                  refine ev_sld (pc := 1722) hxs hx177 dL_law_1722 ?_
                                                                  refine ev_aload_0 (pc := 1723) dL_law_1723 ?_
                                                                  refine ev_iload_3 (pc := 1724) dL_law_1724 ?_
                                                                  refine ev_iconst (pc := 1725) (v := 3) dL_law_1725 rfl ?_
                                                                  refine ev_iadd (pc := 1726) dL_law_1726 ?_
                                                                  obtain ⟨x178, hx178, h⟩ := ev_bindE hN h
                                                                  refine ev_sld (pc := 1727) hxs hx178 dL_law_1727 ?_
                                                                  refine ev_aload_0 (pc := 1728) dL_law_1728 ?_
                                                                  refine ev_iload_3 (pc := 1729) dL_law_1729 ?_
                                                                  refine ev_iconst (pc := 1730) (v := 4) dL_law_1730 rfl ?_
                                                                  refine ev_iadd (pc := 1731) dL_law_1731 ?_
                                                                  obtain ⟨x179, hx179, h⟩ := ev_bindE hN h
                                                                  refine ev_sld (pc := 1732) hxs hx179 dL_law_1732 ?_
                                                                  obtain ⟨x181, hx181, h⟩ := ev_letE h
                                                                  have hJ3 : ev_E G K_L_law B_L_law ev_uL 1741 [some (vr 64 (0)), some (vr 0 (0)), some (vr 10 (0)), some (vi (x1))] [vi (x181), vi (x178), vi (x177), vi (x176), vr 10 (0), vi (p175.1)] (ev_emb p175.2) Q := by
                                                                    obtain ⟨p182, hp182, h⟩ := ev_bindE hN h
                                                                    refine cl1_L_140 (pc := 1741) rfl dL_law_1741 (by decide) (Nat.le_of_ble_eq_true rfl) (c_X10_apart hp182) ?_
                                                                    refine ev_icc_eq (pc := 1744) (tgt := 2336) dL_law_1744 (by decide) (fun c183 => ?_) (fun c183 => ?_)
                                                                    · replace h := ev_ifp h c183
                                                                      exact e_jn_L_law_2336_18 hR hN hxs h (fun _ _ h => ih _ _ kx h hk) hk
                                                                    · replace h := ev_ifn h c183
                                                                      refine ev_iconst (pc := 1747) (v := 0) dL_law_1747 rfl ?_
                                                                      exact ev_iret (pc := 1748) dL_law_1748 rfl rfl (hR _ _ h)
                                                                  refine ev_ifc_eq (pc := 1733) (tgt := 1740) dL_law_1733 (by decide) (fun c180 => ?_) (fun c180 => ?_)
                                                                  · refine ev_iconst (pc := 1740) (v := 0) dL_law_1740 rfl ?_
                                                                    replace hx181 := (hx181.trans (if_pos c180))
                                                                    subst hx181
                                                                    exact hJ3
                                                                  · refine ev_iconst (pc := 1736) (v := 1) dL_law_1736 rfl ?_
                                                                    refine ev_goto (pc := 1737) (tgt := 1741) dL_law_1737 (by decide) ?_
                                                                    replace hx181 := (hx181.trans (if_neg c180))
                                                                    subst hx181
                                                                    exact hJ3
                                                                refine ev_ifc_eq (pc := 1701) (tgt := 1708) dL_law_1701 (by decide) (fun c173 => ?_) (fun c173 => ?_)
                                                                · refine ev_iconst (pc := 1708) (v := 0) dL_law_1708 rfl ?_
                                                                  replace hx174 := (hx174.trans (if_pos c173))
                                                                  subst hx174
                                                                  exact hJ4
                                                                · refine ev_iconst (pc := 1704) (v := 1) dL_law_1704 rfl ?_
                                                                  refine ev_goto (pc := 1705) (tgt := 1709) dL_law_1705 (by decide) ?_
                                                                  replace hx174 := (hx174.trans (if_neg c173))
                                                                  subst hx174
                                                                  exact hJ4
                                                              · replace h := ev_ifn h c33
                                                                by_cases c34 : (x4 &&& 63) = 29
                                                                · replace h := ev_ifp h c34
                                                                  refine ev_tin (pc := 33) 29 (tgt := 1749) c34 (by decide) dL_law_33 rfl (by decide) ?_
                                                                  refine ev_aload_1 (pc := 1749) dL_law_1749 ?_
                                                                  refine ev_aload_0 (pc := 1750) dL_law_1750 ?_
                                                                  refine ev_iload_3 (pc := 1751) dL_law_1751 ?_
                                                                  refine ev_iconst (pc := 1752) (v := 1) dL_law_1752 rfl ?_
                                                                  refine ev_iadd (pc := 1753) dL_law_1753 ?_
                                                                  obtain ⟨x162, hx162, h⟩ := ev_bindE hN h
                                                                  refine ev_sld (pc := 1754) hxs hx162 dL_law_1754 ?_
                                                                  refine ev_aload_0 (pc := 1755) dL_law_1755 ?_
                                                                  refine ev_iload_3 (pc := 1756) dL_law_1756 ?_
                                                                  refine ev_iconst (pc := 1757) (v := 2) dL_law_1757 rfl ?_
                                                                  refine ev_iadd (pc := 1758) dL_law_1758 ?_
                                                                  obtain ⟨x163, hx163, h⟩ := ev_bindE hN h
                                                                  refine ev_sld (pc := 1759) hxs hx163 dL_law_1759 ?_
                                                                  obtain ⟨p164, hp164, h⟩ := ev_bindE hN h
                                                                  refine cl1_L_141 (pc := 1760) rfl dL_law_1760 (by decide) (Nat.le_of_ble_eq_true rfl) (c_X9_whose hp164) ?_
                                                                  refine ev_aload_2 (pc := 1763) dL_law_1763 ?_
                                                                  refine ev_aload_0 (pc := 1764) dL_law_1764 ?_
                                                                  refine ev_iload_3 (pc := 1765) dL_law_1765 ?_
                                                                  refine ev_iconst (pc := 1766) (v := 1) dL_law_1766 rfl ?_
                                                                  refine ev_iadd (pc := 1767) dL_law_1767 ?_
                                                                  obtain ⟨x165, hx165, h⟩ := ev_bindE hN h
                                                                  refine ev_sld (pc := 1768) hxs hx165 dL_law_1768 ?_
                                                                  refine ev_aload_0 (pc := 1769) dL_law_1769 ?_
                                                                  refine ev_iload_3 (pc := 1770) dL_law_1770 ?_
                                                                  refine ev_iconst (pc := 1771) (v := 2) dL_law_1771 rfl ?_
                                                                  refine ev_iadd (pc := 1772) dL_law_1772 ?_
                                                                  obtain ⟨x166, hx166, h⟩ := ev_bindE hN h
                                                                  refine ev_sld (pc := 1773) hxs hx166 dL_law_1773 ?_
                                                                  obtain ⟨p167, hp167, h⟩ := ev_bindE hN h
                                                                  refine cl1_L_144 (pc := 1774) rfl dL_law_1774 (by decide) (Nat.le_of_ble_eq_true rfl) (c_X10_whose hp167) ?_
                                                                  refine ev_icc_eq (pc := 1777) (tgt := 2336) dL_law_1777 (by decide) (fun c168 => ?_) (fun c168 => ?_)
                                                                  · replace h := ev_ifp h c168
                                                                    exact e_jn_L_law_2336_18 hR hN hxs h (fun _ _ h => ih _ _ kx h hk) hk
                                                                  · replace h := ev_ifn h c168
                                                                    refine ev_iconst (pc := 1780) (v := 0) dL_law_1780 rfl ?_
                                                                    exact ev_iret (pc := 1781) dL_law_1781 rfl rfl (hR _ _ h)
                                                                · replace h := ev_ifn h c34
                                                                  by_cases c35 : (x4 &&& 63) = 30
                                                                  · replace h := ev_ifp h c35
                                                                    refine ev_tin (pc := 33) 30 (tgt := 1782) c35 (by decide) dL_law_33 rfl (by decide) ?_
                                                                    refine ev_aload_1 (pc := 1782) dL_law_1782 ?_
                                                                    refine ev_aload_0 (pc := 1783) dL_law_1783 ?_
                                                                    refine ev_iload_3 (pc := 1784) dL_law_1784 ?_
                                                                    refine ev_iconst (pc := 1785) (v := 1) dL_law_1785 rfl ?_
                                                                    refine ev_iadd (pc := 1786) dL_law_1786 ?_
                                                                    obtain ⟨x153, hx153, h⟩ := ev_bindE hN h
                                                                    refine ev_sld (pc := 1787) hxs hx153 dL_law_1787 ?_
                                                                    refine ev_aload_0 (pc := 1788) dL_law_1788 ?_
                                                                    refine ev_iload_3 (pc := 1789) dL_law_1789 ?_
                                                                    refine ev_iconst (pc := 1790) (v := 2) dL_law_1790 rfl ?_
                                                                    refine ev_iadd (pc := 1791) dL_law_1791 ?_
                                                                    obtain ⟨x154, hx154, h⟩ := ev_bindE hN h
                                                                    refine ev_sld (pc := 1792) hxs hx154 dL_law_1792 ?_
                                                                    refine ev_aload_0 (pc := 1793) dL_law_1793 ?_
                                                                    refine ev_iload_3 (pc := 1794) dL_law_1794 ?_
                                                                    refine ev_iconst (pc := 1795) (v := 3) dL_law_1795 rfl ?_
                                                                    refine ev_iadd (pc := 1796) dL_law_1796 ?_
                                                                    obtain ⟨x155, hx155, h⟩ := ev_bindE hN h
                                                                    refine ev_sld (pc := 1797) hxs hx155 dL_law_1797 ?_
                                                                    obtain ⟨p156, hp156, h⟩ := ev_bindE hN h
                                                                    refine cl1_L_145 (pc := 1798) rfl dL_law_1798 (by decide) (Nat.le_of_ble_eq_true rfl) (c_X9_tells hp156) ?_
                                                                    refine ev_aload_2 (pc := 1801) dL_law_1801 ?_
                                                                    refine ev_aload_0 (pc := 1802) dL_law_1802 ?_
                                                                    refine ev_iload_3 (pc := 1803) dL_law_1803 ?_
                                                                    refine ev_iconst (pc := 1804) (v := 1) dL_law_1804 rfl ?_
                                                                    refine ev_iadd (pc := 1805) dL_law_1805 ?_
                                                                    obtain ⟨x157, hx157, h⟩ := ev_bindE hN h
                                                                    refine ev_sld (pc := 1806) hxs hx157 dL_law_1806 ?_
                                                                    refine ev_aload_0 (pc := 1807) dL_law_1807 ?_
                                                                    refine ev_iload_3 (pc := 1808) dL_law_1808 ?_
                                                                    refine ev_iconst (pc := 1809) (v := 2) dL_law_1809 rfl ?_
                                                                    refine ev_iadd (pc := 1810) dL_law_1810 ?_
                                                                    obtain ⟨x158, hx158, h⟩ := ev_bindE hN h
                                                                    refine ev_sld (pc := 1811) hxs hx158 dL_law_1811 ?_
                                                                    refine ev_aload_0 (pc := 1812) dL_law_1812 ?_
                                                                    refine ev_iload_3 (pc := 1813) dL_law_1813 ?_
                                                                    refine ev_iconst (pc := 1814) (v := 3) dL_law_1814 rfl ?_
                                                                    refine ev_iadd (pc := 1815) dL_law_1815 ?_
                                                                    obtain ⟨x159, hx159, h⟩ := ev_bindE hN h
                                                                    refine ev_sld (pc := 1816) hxs hx159 dL_law_1816 ?_
                                                                    obtain ⟨p160, hp160, h⟩ := ev_bindE hN h
                                                                    refine cl1_L_148 (pc := 1817) rfl dL_law_1817 (by decide) (Nat.le_of_ble_eq_true rfl) (c_X10_tells hp160) ?_
                                                                    refine ev_icc_eq (pc := 1820) (tgt := 2336) dL_law_1820 (by decide) (fun c161 => ?_) (fun c161 => ?_)
                                                                    · replace h := ev_ifp h c161
                                                                      exact e_jn_L_law_2336_18 hR hN hxs h (fun _ _ h => ih _ _ kx h hk) hk
                                                                    · replace h := ev_ifn h c161
                                                                      refine ev_iconst (pc := 1823) (v := 0) dL_law_1823 rfl ?_
                                                                      exact ev_iret (pc := 1824) dL_law_1824 rfl rfl (hR _ _ h)
                                                                  · replace h := ev_ifn h c35
                                                                    by_cases c36 : (x4 &&& 63) = 31
                                                                    · replace h := ev_ifp h c36
                                                                      refine ev_tin (pc := 33) 31 (tgt := 1825) c36 (by decide) dL_law_33 rfl (by decide) ?_
                                                                      refine ev_aload_1 (pc := 1825) dL_law_1825 ?_
                                                                      refine ev_aload_0 (pc := 1826) dL_law_1826 ?_
                                                                      refine ev_iload_3 (pc := 1827) dL_law_1827 ?_
                                                                      refine ev_iconst (pc := 1828) (v := 1) dL_law_1828 rfl ?_
                                                                      refine ev_iadd (pc := 1829) dL_law_1829 ?_
                                                                      obtain ⟨x134, hx134, h⟩ := ev_bindE hN h
                                                                      refine ev_sld (pc := 1830) hxs hx134 dL_law_1830 ?_
                                                                      refine ev_aload_0 (pc := 1831) dL_law_1831 ?_
                                                                      refine ev_iload_3 (pc := 1832) dL_law_1832 ?_
                                                                      refine ev_iconst (pc := 1833) (v := 2) dL_law_1833 rfl ?_
                                                                      refine ev_iadd (pc := 1834) dL_law_1834 ?_
                                                                      obtain ⟨x135, hx135, h⟩ := ev_bindE hN h
                                                                      refine ev_sld (pc := 1835) hxs hx135 dL_law_1835 ?_
                                                                      refine ev_aload_0 (pc := 1836) dL_law_1836 ?_
                                                                      refine ev_iload_3 (pc := 1837) dL_law_1837 ?_
                                                                      refine ev_iconst (pc := 1838) (v := 3) dL_law_1838 rfl ?_
                                                                      refine ev_iadd (pc := 1839) dL_law_1839 ?_
                                                                      obtain ⟨x136, hx136, h⟩ := ev_bindE hN h
                                                                      refine ev_sld (pc := 1840) hxs hx136 dL_law_1840 ?_
                                                                      refine ev_aload_0 (pc := 1841) dL_law_1841 ?_
                                                                      refine ev_iload_3 (pc := 1842) dL_law_1842 ?_
                                                                      refine ev_iconst (pc := 1843) (v := 4) dL_law_1843 rfl ?_
                                                                      refine ev_iadd (pc := 1844) dL_law_1844 ?_
                                                                      obtain ⟨x137, hx137, h⟩ := ev_bindE hN h
                                                                      refine ev_sld (pc := 1845) hxs hx137 dL_law_1845 ?_
                                                                      refine ev_aload_0 (pc := 1846) dL_law_1846 ?_
                                                                      refine ev_iload_3 (pc := 1847) dL_law_1847 ?_
                                                                      refine ev_iconst (pc := 1848) (v := 5) dL_law_1848 rfl ?_
                                                                      refine ev_iadd (pc := 1849) dL_law_1849 ?_
                                                                      obtain ⟨x138, hx138, h⟩ := ev_bindE hN h
                                                                      refine ev_sld (pc := 1850) hxs hx138 dL_law_1850 ?_
                                                                      refine ev_aload_0 (pc := 1851) dL_law_1851 ?_
                                                                      refine ev_iload_3 (pc := 1852) dL_law_1852 ?_
                                                                      refine ev_bipush (pc := 1853) (v := 6) dL_law_1853 (by decide) ?_
                                                                      refine ev_iadd (pc := 1855) dL_law_1855 ?_
                                                                      obtain ⟨x139, hx139, h⟩ := ev_bindE hN h
                                                                      refine ev_sld (pc := 1856) hxs hx139 dL_law_1856 ?_
                                                                      obtain ⟨x141, hx141, h⟩ := ev_letE h
                                                                      have hJ2 : ev_E G K_L_law B_L_law ev_uL 1865 [some (vr 64 (0)), some (vr 0 (0)), some (vr 10 (0)), some (vi (x1))] [vi (x141), vi (x138), vi (x137), vi (x136), vi (x135), vi (x134), vr 0 (0)] (ev_emb m2) Q := by
                                                                        obtain ⟨p142, hp142, h⟩ := ev_bindE hN h
                                                                        refine cl1_L_149 (pc := 1865) rfl dL_law_1865 (by decide) (Nat.le_of_ble_eq_true rfl) (c_X9_slipped hp142) ?_
                                                                        refine ev_aload_2 (pc := 1868) dL_law_1868 ?_
                                                                        refine ev_aload_0 (pc := 1869) dL_law_1869 ?_
                                                                        refine ev_iload_3 (pc := 1870) dL_law_1870 ?_
                                                                        refine ev_iconst (pc := 1871) (v := 1) dL_law_1871 rfl ?_
                                                                        refine ev_iadd (pc := 1872) dL_law_1872 ?_
                                                                        obtain ⟨x143, hx143, h⟩ := ev_bindE hN h
                                                                        refine ev_sld (pc := 1873) hxs hx143 dL_law_1873 ?_
                                                                        refine ev_aload_0 (pc := 1874) dL_law_1874 ?_
                                                                        refine ev_iload_3 (pc := 1875) dL_law_1875 ?_
                                                                        refine ev_iconst (pc := 1876) (v := 2) dL_law_1876 rfl ?_
                                                                        refine ev_iadd (pc := 1877) dL_law_1877 ?_
                                                                        obtain ⟨x144, hx144, h⟩ := ev_bindE hN h
                                                                        refine ev_sld (pc := 1878) hxs hx144 dL_law_1878 ?_
                                                                        refine ev_aload_0 (pc := 1879) dL_law_1879 ?_
                                                                        refine ev_iload_3 (pc := 1880) dL_law_1880 ?_
                                                                        refine ev_iconst (pc := 1881) (v := 3) dL_law_1881 rfl ?_
                                                                        refine ev_iadd (pc := 1882) dL_law_1882 ?_
                                                                        obtain ⟨x145, hx145, h⟩ := ev_bindE hN h
                                                                        refine ev_sld (pc := 1883) hxs hx145 dL_law_1883 ?_
                                                                        refine ev_aload_0 (pc := 1884) dL_law_1884 ?_
                                                                        refine ev_iload_3 (pc := 1885) dL_law_1885 ?_
                                                                        refine ev_iconst (pc := 1886) (v := 4) dL_law_1886 rfl ?_
                                                                        refine ev_iadd (pc := 1887) dL_law_1887 ?_
                                                                        obtain ⟨x146, hx146, h⟩ := ev_bindE hN h
                                                                        refine ev_sld (pc := 1888) hxs hx146 dL_law_1888 ?_
                                                                        refine ev_aload_0 (pc := 1889) dL_law_1889 ?_
                                                                        refine ev_iload_3 (pc := 1890) dL_law_1890 ?_
                                                                        refine ev_iconst (pc := 1891) (v := 5) dL_law_1891 rfl ?_
                                                                        refine ev_iadd (pc := 1892) dL_law_1892 ?_
                                                                        obtain ⟨x147, hx147, h⟩ := ev_bindE hN h
                                                                        refine ev_sld (pc := 1893) hxs hx147 dL_law_1893 ?_
                                                                        refine ev_aload_0 (pc := 1894) dL_law_1894 ?_
                                                                        refine ev_iload_3 (pc := 1895) dL_law_1895 ?_
                                                                        refine ev_bipush (pc := 1896) (v := 6) dL_law_1896 (by decide) ?_
                                                                        refine ev_iadd (pc := 1898) dL_law_1898 ?_
                                                                        obtain ⟨x148, hx148, h⟩ := ev_bindE hN h
                                                                        refine ev_sld (pc := 1899) hxs hx148 dL_law_1899 ?_
                                                                        obtain ⟨x150, hx150, h⟩ := ev_letE h
                                                                        have hJ1 : ev_E G K_L_law B_L_law ev_uL 1908 [some (vr 64 (0)), some (vr 0 (0)), some (vr 10 (0)), some (vi (x1))] [vi (x150), vi (x147), vi (x146), vi (x145), vi (x144), vi (x143), vr 10 (0), vl (p142.1)] (ev_emb p142.2) Q := by
                                                                          obtain ⟨p151, hp151, h⟩ := ev_bindE hN h
                                                                          refine cl1_L_153 (pc := 1908) rfl dL_law_1908 (by decide) (Nat.le_of_ble_eq_true rfl) (c_X10_slipped hp151) ?_
                                                                          refine ev_lcc_eq (pc := 1911) (tgt := 2336) dL_law_1911 dL_law_1912 (by decide) (fun c152 => ?_) (fun c152 => ?_)
                                                                          · replace h := ev_ifp h c152
                                                                            exact e_jn_L_law_2336_18 hR hN hxs h (fun _ _ h => ih _ _ kx h hk) hk
                                                                          · replace h := ev_ifn h c152
                                                                            refine ev_iconst (pc := 1915) (v := 0) dL_law_1915 rfl ?_
                                                                            exact ev_iret (pc := 1916) dL_law_1916 rfl rfl (hR _ _ h)
                                                                        refine ev_ifc_eq (pc := 1900) (tgt := 1907) dL_law_1900 (by decide) (fun c149 => ?_) (fun c149 => ?_)
                                                                        · refine ev_iconst (pc := 1907) (v := 0) dL_law_1907 rfl ?_
                                                                          replace hx150 := (hx150.trans (if_pos c149))
                                                                          subst hx150
                                                                          exact hJ1
                                                                        · refine ev_iconst (pc := 1903) (v := 1) dL_law_1903 rfl ?_
                                                                          refine ev_goto (pc := 1904) (tgt := 1908) dL_law_1904 (by decide) ?_
                                                                          replace hx150 := (hx150.trans (if_neg c149))
                                                                          subst hx150
                                                                          exact hJ1
                                                                      refine ev_ifc_eq (pc := 1857) (tgt := 1864) dL_law_1857 (by decide) (fun c140 => ?_) (fun c140 => ?_)
                                                                      · refine ev_iconst (pc := 1864) (v := 0) dL_law_1864 rfl ?_
                                                                        replace hx141 := (hx141.trans (if_pos c140))
                                                                        subst hx141
                                                                        exact hJ2
                                                                      · refine ev_iconst (pc := 1860) (v := 1) dL_law_1860 rfl ?_
                                                                        refine ev_goto (pc := 1861) (tgt := 1865) dL_law_1861 (by decide) ?_
                                                                        replace hx141 := (hx141.trans (if_neg c140))
                                                                        subst hx141
                                                                        exact hJ2
                                                                    · replace h := ev_ifn h c36
                                                                      by_cases c37 : (x4 &&& 63) = 32
                                                                      · replace h := ev_ifp h c37
                                                                        refine ev_tin (pc := 33) 32 (tgt := 1917) c37 (by decide) dL_law_33 rfl (by decide) ?_
                                                                        refine ev_aload_1 (pc := 1917) dL_law_1917 ?_
                                                                        refine ev_aload_0 (pc := 1918) dL_law_1918 ?_
                                                                        refine ev_iload_3 (pc := 1919) dL_law_1919 ?_
                                                                        refine ev_iconst (pc := 1920) (v := 1) dL_law_1920 rfl ?_
                                                                        refine ev_iadd (pc := 1921) dL_law_1921 ?_
                                                                        obtain ⟨x123, hx123, h⟩ := ev_bindE hN h
                                                                        refine ev_sld (pc := 1922) hxs hx123 dL_law_1922 ?_
                                                                        refine ev_aload_0 (pc := 1923) dL_law_1923 ?_
                                                                        refine ev_iload_3 (pc := 1924) dL_law_1924 ?_
                                                                        refine ev_iconst (pc := 1925) (v := 2) dL_law_1925 rfl ?_
                                                                        refine ev_iadd (pc := 1926) dL_law_1926 ?_
                                                                        obtain ⟨x124, hx124, h⟩ := ev_bindE hN h
                                                                        refine ev_sld (pc := 1927) hxs hx124 dL_law_1927 ?_
                                                                        refine ev_aload_0 (pc := 1928) dL_law_1928 ?_
                                                                        refine ev_iload_3 (pc := 1929) dL_law_1929 ?_
                                                                        refine ev_iconst (pc := 1930) (v := 3) dL_law_1930 rfl ?_
                                                                        refine ev_iadd (pc := 1931) dL_law_1931 ?_
                                                                        obtain ⟨x125, hx125, h⟩ := ev_bindE hN h
                                                                        refine ev_sld (pc := 1932) hxs hx125 dL_law_1932 ?_
                                                                        refine ev_aload_0 (pc := 1933) dL_law_1933 ?_
                                                                        refine ev_iload_3 (pc := 1934) dL_law_1934 ?_
                                                                        refine ev_iconst (pc := 1935) (v := 4) dL_law_1935 rfl ?_
                                                                        refine ev_iadd (pc := 1936) dL_law_1936 ?_
                                                                        obtain ⟨x126, hx126, h⟩ := ev_bindE hN h
                                                                        refine ev_sld (pc := 1937) hxs hx126 dL_law_1937 ?_
                                                                        obtain ⟨p127, hp127, h⟩ := ev_bindE hN h
                                                                        refine cl1_L_154 (pc := 1938) rfl dL_law_1938 (by decide) (Nat.le_of_ble_eq_true rfl) (c_X9_lead hp127) ?_
                                                                        refine ev_aload_2 (pc := 1941) dL_law_1941 ?_
                                                                        refine ev_aload_0 (pc := 1942) dL_law_1942 ?_
                                                                        refine ev_iload_3 (pc := 1943) dL_law_1943 ?_
                                                                        refine ev_iconst (pc := 1944) (v := 1) dL_law_1944 rfl ?_
                                                                        refine ev_iadd (pc := 1945) dL_law_1945 ?_
                                                                        obtain ⟨x128, hx128, h⟩ := ev_bindE hN h
                                                                        refine ev_sld (pc := 1946) hxs hx128 dL_law_1946 ?_
                                                                        refine ev_aload_0 (pc := 1947) dL_law_1947 ?_
                                                                        refine ev_iload_3 (pc := 1948) dL_law_1948 ?_
                                                                        refine ev_iconst (pc := 1949) (v := 2) dL_law_1949 rfl ?_
                                                                        refine ev_iadd (pc := 1950) dL_law_1950 ?_
                                                                        obtain ⟨x129, hx129, h⟩ := ev_bindE hN h
                                                                        refine ev_sld (pc := 1951) hxs hx129 dL_law_1951 ?_
                                                                        refine ev_aload_0 (pc := 1952) dL_law_1952 ?_
                                                                        refine ev_iload_3 (pc := 1953) dL_law_1953 ?_
                                                                        refine ev_iconst (pc := 1954) (v := 3) dL_law_1954 rfl ?_
                                                                        refine ev_iadd (pc := 1955) dL_law_1955 ?_
                                                                        obtain ⟨x130, hx130, h⟩ := ev_bindE hN h
                                                                        refine ev_sld (pc := 1956) hxs hx130 dL_law_1956 ?_
                                                                        refine ev_aload_0 (pc := 1957) dL_law_1957 ?_
                                                                        refine ev_iload_3 (pc := 1958) dL_law_1958 ?_
                                                                        refine ev_iconst (pc := 1959) (v := 4) dL_law_1959 rfl ?_
                                                                        refine ev_iadd (pc := 1960) dL_law_1960 ?_
                                                                        obtain ⟨x131, hx131, h⟩ := ev_bindE hN h
                                                                        refine ev_sld (pc := 1961) hxs hx131 dL_law_1961 ?_
                                                                        obtain ⟨p132, hp132, h⟩ := ev_bindE hN h
                                                                        refine cl1_L_157 (pc := 1962) rfl dL_law_1962 (by decide) (Nat.le_of_ble_eq_true rfl) (c_X10_lead hp132) ?_
                                                                        refine ev_icc_eq (pc := 1965) (tgt := 2336) dL_law_1965 (by decide) (fun c133 => ?_) (fun c133 => ?_)
                                                                        · replace h := ev_ifp h c133
                                                                          exact e_jn_L_law_2336_18 hR hN hxs h (fun _ _ h => ih _ _ kx h hk) hk
                                                                        · replace h := ev_ifn h c133
                                                                          refine ev_iconst (pc := 1968) (v := 0) dL_law_1968 rfl ?_
                                                                          exact ev_iret (pc := 1969) dL_law_1969 rfl rfl (hR _ _ h)
                                                                      · replace h := ev_ifn h c37
                                                                        by_cases c38 : (x4 &&& 63) = 33
                                                                        · replace h := ev_ifp h c38
                                                                          refine ev_tin (pc := 33) 33 (tgt := 1970) c38 (by decide) dL_law_33 rfl (by decide) ?_
                                                                          refine ev_aload_1 (pc := 1970) dL_law_1970 ?_
                                                                          refine ev_aload_0 (pc := 1971) dL_law_1971 ?_
                                                                          refine ev_iload_3 (pc := 1972) dL_law_1972 ?_
                                                                          refine ev_iconst (pc := 1973) (v := 1) dL_law_1973 rfl ?_
                                                                          refine ev_iadd (pc := 1974) dL_law_1974 ?_
                                                                          obtain ⟨x110, hx110, h⟩ := ev_bindE hN h
                                                                          refine ev_sld (pc := 1975) hxs hx110 dL_law_1975 ?_
                                                                          refine ev_aload_0 (pc := 1976) dL_law_1976 ?_
                                                                          refine ev_iload_3 (pc := 1977) dL_law_1977 ?_
                                                                          refine ev_iconst (pc := 1978) (v := 2) dL_law_1978 rfl ?_
                                                                          refine ev_iadd (pc := 1979) dL_law_1979 ?_
                                                                          obtain ⟨x111, hx111, h⟩ := ev_bindE hN h
                                                                          refine ev_sld (pc := 1980) hxs hx111 dL_law_1980 ?_
                                                                          refine ev_aload_0 (pc := 1981) dL_law_1981 ?_
                                                                          refine ev_iload_3 (pc := 1982) dL_law_1982 ?_
                                                                          refine ev_iconst (pc := 1983) (v := 3) dL_law_1983 rfl ?_
                                                                          refine ev_iadd (pc := 1984) dL_law_1984 ?_
                                                                          obtain ⟨x112, hx112, h⟩ := ev_bindE hN h
                                                                          refine ev_sld (pc := 1985) hxs hx112 dL_law_1985 ?_
                                                                          refine ev_aload_0 (pc := 1986) dL_law_1986 ?_
                                                                          refine ev_iload_3 (pc := 1987) dL_law_1987 ?_
                                                                          refine ev_iconst (pc := 1988) (v := 4) dL_law_1988 rfl ?_
                                                                          refine ev_iadd (pc := 1989) dL_law_1989 ?_
                                                                          obtain ⟨x113, hx113, h⟩ := ev_bindE hN h
                                                                          refine ev_sld (pc := 1990) hxs hx113 dL_law_1990 ?_
                                                                          refine ev_aload_0 (pc := 1991) dL_law_1991 ?_
                                                                          refine ev_iload_3 (pc := 1992) dL_law_1992 ?_
                                                                          refine ev_iconst (pc := 1993) (v := 5) dL_law_1993 rfl ?_
                                                                          refine ev_iadd (pc := 1994) dL_law_1994 ?_
                                                                          obtain ⟨x114, hx114, h⟩ := ev_bindE hN h
                                                                          refine ev_sld (pc := 1995) hxs hx114 dL_law_1995 ?_
                                                                          obtain ⟨p115, hp115, h⟩ := ev_bindE hN h
                                                                          refine cl1_L_158 (pc := 1996) rfl dL_law_1996 (by decide) (Nat.le_of_ble_eq_true rfl) (c_X9_bound hp115) ?_
                                                                          refine ev_aload_2 (pc := 1999) dL_law_1999 ?_
                                                                          refine ev_aload_0 (pc := 2000) dL_law_2000 ?_
                                                                          refine ev_iload_3 (pc := 2001) dL_law_2001 ?_
                                                                          refine ev_iconst (pc := 2002) (v := 1) dL_law_2002 rfl ?_
                                                                          refine ev_iadd (pc := 2003) dL_law_2003 ?_
                                                                          obtain ⟨x116, hx116, h⟩ := ev_bindE hN h
                                                                          refine ev_sld (pc := 2004) hxs hx116 dL_law_2004 ?_
                                                                          refine ev_aload_0 (pc := 2005) dL_law_2005 ?_
                                                                          refine ev_iload_3 (pc := 2006) dL_law_2006 ?_
                                                                          refine ev_iconst (pc := 2007) (v := 2) dL_law_2007 rfl ?_
                                                                          refine ev_iadd (pc := 2008) dL_law_2008 ?_
                                                                          obtain ⟨x117, hx117, h⟩ := ev_bindE hN h
                                                                          refine ev_sld (pc := 2009) hxs hx117 dL_law_2009 ?_
                                                                          refine ev_aload_0 (pc := 2010) dL_law_2010 ?_
                                                                          refine ev_iload_3 (pc := 2011) dL_law_2011 ?_
                                                                          refine ev_iconst (pc := 2012) (v := 3) dL_law_2012 rfl ?_
                                                                          refine ev_iadd (pc := 2013) dL_law_2013 ?_
                                                                          obtain ⟨x118, hx118, h⟩ := ev_bindE hN h
                                                                          refine ev_sld (pc := 2014) hxs hx118 dL_law_2014 ?_
                                                                          refine ev_aload_0 (pc := 2015) dL_law_2015 ?_
                                                                          refine ev_iload_3 (pc := 2016) dL_law_2016 ?_
                                                                          refine ev_iconst (pc := 2017) (v := 4) dL_law_2017 rfl ?_
                                                                          refine ev_iadd (pc := 2018) dL_law_2018 ?_
                                                                          obtain ⟨x119, hx119, h⟩ := ev_bindE hN h
                                                                          refine ev_sld (pc := 2019) hxs hx119 dL_law_2019 ?_
                                                                          refine ev_aload_0 (pc := 2020) dL_law_2020 ?_
                                                                          refine ev_iload_3 (pc := 2021) dL_law_2021 ?_
                                                                          refine ev_iconst (pc := 2022) (v := 5) dL_law_2022 rfl ?_
                                                                          refine ev_iadd (pc := 2023) dL_law_2023 ?_
                                                                          obtain ⟨x120, hx120, h⟩ := ev_bindE hN h
                                                                          refine ev_sld (pc := 2024) hxs hx120 dL_law_2024 ?_
                                                                          obtain ⟨p121, hp121, h⟩ := ev_bindE hN h
                                                                          refine cl1_L_161 (pc := 2025) rfl dL_law_2025 (by decide) (Nat.le_of_ble_eq_true rfl) (c_X10_bound hp121) ?_
                                                                          refine ev_icc_eq (pc := 2028) (tgt := 2336) dL_law_2028 (by decide) (fun c122 => ?_) (fun c122 => ?_)
                                                                          · replace h := ev_ifp h c122
                                                                            exact e_jn_L_law_2336_18 hR hN hxs h (fun _ _ h => ih _ _ kx h hk) hk
                                                                          · replace h := ev_ifn h c122
                                                                            refine ev_iconst (pc := 2031) (v := 0) dL_law_2031 rfl ?_
                                                                            exact ev_iret (pc := 2032) dL_law_2032 rfl rfl (hR _ _ h)
                                                                        · replace h := ev_ifn h c38
                                                                          by_cases c39 : (x4 &&& 63) = 34
                                                                          · replace h := ev_ifp h c39
                                                                            refine ev_tin (pc := 33) 34 (tgt := 2033) c39 (by decide) dL_law_33 rfl (by decide) ?_
                                                                            refine ev_aload_1 (pc := 2033) dL_law_2033 ?_
                                                                            refine ev_aload_0 (pc := 2034) dL_law_2034 ?_
                                                                            refine ev_iload_3 (pc := 2035) dL_law_2035 ?_
                                                                            refine ev_iconst (pc := 2036) (v := 1) dL_law_2036 rfl ?_
                                                                            refine ev_iadd (pc := 2037) dL_law_2037 ?_
                                                                            obtain ⟨x99, hx99, h⟩ := ev_bindE hN h
                                                                            refine ev_sld (pc := 2038) hxs hx99 dL_law_2038 ?_
                                                                            refine ev_aload_0 (pc := 2039) dL_law_2039 ?_
                                                                            refine ev_iload_3 (pc := 2040) dL_law_2040 ?_
                                                                            refine ev_iconst (pc := 2041) (v := 2) dL_law_2041 rfl ?_
                                                                            refine ev_iadd (pc := 2042) dL_law_2042 ?_
                                                                            obtain ⟨x100, hx100, h⟩ := ev_bindE hN h
                                                                            refine ev_sld (pc := 2043) hxs hx100 dL_law_2043 ?_
                                                                            refine ev_aload_0 (pc := 2044) dL_law_2044 ?_
                                                                            refine ev_iload_3 (pc := 2045) dL_law_2045 ?_
                                                                            refine ev_iconst (pc := 2046) (v := 3) dL_law_2046 rfl ?_
                                                                            refine ev_iadd (pc := 2047) dL_law_2047 ?_
                                                                            obtain ⟨x101, hx101, h⟩ := ev_bindE hN h
                                                                            refine ev_sld (pc := 2048) hxs hx101 dL_law_2048 ?_
                                                                            refine ev_aload_0 (pc := 2049) dL_law_2049 ?_
                                                                            refine ev_iload_3 (pc := 2050) dL_law_2050 ?_
                                                                            refine ev_iconst (pc := 2051) (v := 4) dL_law_2051 rfl ?_
                                                                            refine ev_iadd (pc := 2052) dL_law_2052 ?_
                                                                            obtain ⟨x102, hx102, h⟩ := ev_bindE hN h
                                                                            refine ev_sld (pc := 2053) hxs hx102 dL_law_2053 ?_
                                                                            obtain ⟨p103, hp103, h⟩ := ev_bindE hN h
                                                                            refine cl1_L_162 (pc := 2054) rfl dL_law_2054 (by decide) (Nat.le_of_ble_eq_true rfl) (c_X9_first hp103) ?_
                                                                            refine ev_aload_2 (pc := 2057) dL_law_2057 ?_
                                                                            refine ev_aload_0 (pc := 2058) dL_law_2058 ?_
                                                                            refine ev_iload_3 (pc := 2059) dL_law_2059 ?_
                                                                            refine ev_iconst (pc := 2060) (v := 1) dL_law_2060 rfl ?_
                                                                            refine ev_iadd (pc := 2061) dL_law_2061 ?_
                                                                            obtain ⟨x104, hx104, h⟩ := ev_bindE hN h
                                                                            refine ev_sld (pc := 2062) hxs hx104 dL_law_2062 ?_
                                                                            refine ev_aload_0 (pc := 2063) dL_law_2063 ?_
                                                                            refine ev_iload_3 (pc := 2064) dL_law_2064 ?_
                                                                            refine ev_iconst (pc := 2065) (v := 2) dL_law_2065 rfl ?_
                                                                            refine ev_iadd (pc := 2066) dL_law_2066 ?_
                                                                            obtain ⟨x105, hx105, h⟩ := ev_bindE hN h
                                                                            refine ev_sld (pc := 2067) hxs hx105 dL_law_2067 ?_
                                                                            refine ev_aload_0 (pc := 2068) dL_law_2068 ?_
                                                                            refine ev_iload_3 (pc := 2069) dL_law_2069 ?_
                                                                            refine ev_iconst (pc := 2070) (v := 3) dL_law_2070 rfl ?_
                                                                            refine ev_iadd (pc := 2071) dL_law_2071 ?_
                                                                            obtain ⟨x106, hx106, h⟩ := ev_bindE hN h
                                                                            refine ev_sld (pc := 2072) hxs hx106 dL_law_2072 ?_
                                                                            refine ev_aload_0 (pc := 2073) dL_law_2073 ?_
                                                                            refine ev_iload_3 (pc := 2074) dL_law_2074 ?_
                                                                            refine ev_iconst (pc := 2075) (v := 4) dL_law_2075 rfl ?_
                                                                            refine ev_iadd (pc := 2076) dL_law_2076 ?_
                                                                            obtain ⟨x107, hx107, h⟩ := ev_bindE hN h
                                                                            refine ev_sld (pc := 2077) hxs hx107 dL_law_2077 ?_
                                                                            obtain ⟨p108, hp108, h⟩ := ev_bindE hN h
                                                                            refine cl1_L_165 (pc := 2078) rfl dL_law_2078 (by decide) (Nat.le_of_ble_eq_true rfl) (c_X10_first hp108) ?_
                                                                            refine ev_icc_eq (pc := 2081) (tgt := 2336) dL_law_2081 (by decide) (fun c109 => ?_) (fun c109 => ?_)
                                                                            · replace h := ev_ifp h c109
                                                                              exact e_jn_L_law_2336_18 hR hN hxs h (fun _ _ h => ih _ _ kx h hk) hk
                                                                            · replace h := ev_ifn h c109
                                                                              refine ev_iconst (pc := 2084) (v := 0) dL_law_2084 rfl ?_
                                                                              exact ev_iret (pc := 2085) dL_law_2085 rfl rfl (hR _ _ h)
                                                                          · replace h := ev_ifn h c39
                                                                            by_cases c40 : (x4 &&& 63) = 35
                                                                            · replace h := ev_ifp h c40
                                                                              refine ev_tin (pc := 33) 35 (tgt := 2086) c40 (by decide) dL_law_33 rfl (by decide) ?_
                                                                              refine ev_aload_1 (pc := 2086) dL_law_2086 ?_
                                                                              refine ev_aload_0 (pc := 2087) dL_law_2087 ?_
                                                                              refine ev_iload_3 (pc := 2088) dL_law_2088 ?_
                                                                              refine ev_iconst (pc := 2089) (v := 1) dL_law_2089 rfl ?_
                                                                              refine ev_iadd (pc := 2090) dL_law_2090 ?_
                                                                              obtain ⟨x88, hx88, h⟩ := ev_bindE hN h
                                                                              refine ev_sld (pc := 2091) hxs hx88 dL_law_2091 ?_
                                                                              refine ev_aload_0 (pc := 2092) dL_law_2092 ?_
                                                                              refine ev_iload_3 (pc := 2093) dL_law_2093 ?_
                                                                              refine ev_iconst (pc := 2094) (v := 2) dL_law_2094 rfl ?_
                                                                              refine ev_iadd (pc := 2095) dL_law_2095 ?_
                                                                              obtain ⟨x89, hx89, h⟩ := ev_bindE hN h
                                                                              refine ev_sld (pc := 2096) hxs hx89 dL_law_2096 ?_
                                                                              refine ev_aload_0 (pc := 2097) dL_law_2097 ?_
                                                                              refine ev_iload_3 (pc := 2098) dL_law_2098 ?_
                                                                              refine ev_iconst (pc := 2099) (v := 3) dL_law_2099 rfl ?_
                                                                              refine ev_iadd (pc := 2100) dL_law_2100 ?_
                                                                              obtain ⟨x90, hx90, h⟩ := ev_bindE hN h
                                                                              refine ev_sld (pc := 2101) hxs hx90 dL_law_2101 ?_
                                                                              refine ev_aload_0 (pc := 2102) dL_law_2102 ?_
                                                                              refine ev_iload_3 (pc := 2103) dL_law_2103 ?_
                                                                              refine ev_iconst (pc := 2104) (v := 4) dL_law_2104 rfl ?_
                                                                              refine ev_iadd (pc := 2105) dL_law_2105 ?_
                                                                              obtain ⟨x91, hx91, h⟩ := ev_bindE hN h
                                                                              refine ev_sld (pc := 2106) hxs hx91 dL_law_2106 ?_
                                                                              obtain ⟨p92, hp92, h⟩ := ev_bindE hN h
                                                                              refine cl1_L_166 (pc := 2107) rfl dL_law_2107 (by decide) (Nat.le_of_ble_eq_true rfl) (c_X9_better hp92) ?_
                                                                              refine ev_aload_2 (pc := 2110) dL_law_2110 ?_
                                                                              refine ev_aload_0 (pc := 2111) dL_law_2111 ?_
                                                                              refine ev_iload_3 (pc := 2112) dL_law_2112 ?_
                                                                              refine ev_iconst (pc := 2113) (v := 1) dL_law_2113 rfl ?_
                                                                              refine ev_iadd (pc := 2114) dL_law_2114 ?_
                                                                              obtain ⟨x93, hx93, h⟩ := ev_bindE hN h
                                                                              refine ev_sld (pc := 2115) hxs hx93 dL_law_2115 ?_
                                                                              refine ev_aload_0 (pc := 2116) dL_law_2116 ?_
                                                                              refine ev_iload_3 (pc := 2117) dL_law_2117 ?_
                                                                              refine ev_iconst (pc := 2118) (v := 2) dL_law_2118 rfl ?_
                                                                              refine ev_iadd (pc := 2119) dL_law_2119 ?_
                                                                              obtain ⟨x94, hx94, h⟩ := ev_bindE hN h
                                                                              refine ev_sld (pc := 2120) hxs hx94 dL_law_2120 ?_
                                                                              refine ev_aload_0 (pc := 2121) dL_law_2121 ?_
                                                                              refine ev_iload_3 (pc := 2122) dL_law_2122 ?_
                                                                              refine ev_iconst (pc := 2123) (v := 3) dL_law_2123 rfl ?_
                                                                              refine ev_iadd (pc := 2124) dL_law_2124 ?_
                                                                              obtain ⟨x95, hx95, h⟩ := ev_bindE hN h
                                                                              refine ev_sld (pc := 2125) hxs hx95 dL_law_2125 ?_
                                                                              refine ev_aload_0 (pc := 2126) dL_law_2126 ?_
                                                                              refine ev_iload_3 (pc := 2127) dL_law_2127 ?_
                                                                              refine ev_iconst (pc := 2128) (v := 4) dL_law_2128 rfl ?_
                                                                              refine ev_iadd (pc := 2129) dL_law_2129 ?_
                                                                              obtain ⟨x96, hx96, h⟩ := ev_bindE hN h
                                                                              refine ev_sld (pc := 2130) hxs hx96 dL_law_2130 ?_
                                                                              obtain ⟨p97, hp97, h⟩ := ev_bindE hN h
                                                                              refine cl1_L_169 (pc := 2131) rfl dL_law_2131 (by decide) (Nat.le_of_ble_eq_true rfl) (c_X10_better hp97) ?_
                                                                              refine ev_icc_eq (pc := 2134) (tgt := 2336) dL_law_2134 (by decide) (fun c98 => ?_) (fun c98 => ?_)
                                                                              · replace h := ev_ifp h c98
                                                                                exact e_jn_L_law_2336_18 hR hN hxs h (fun _ _ h => ih _ _ kx h hk) hk
                                                                              · replace h := ev_ifn h c98
                                                                                refine ev_iconst (pc := 2137) (v := 0) dL_law_2137 rfl ?_
                                                                                exact ev_iret (pc := 2138) dL_law_2138 rfl rfl (hR _ _ h)
                                                                            · replace h := ev_ifn h c40
                                                                              by_cases c41 : (x4 &&& 63) = 36
                                                                              · replace h := ev_ifp h c41
                                                                                refine ev_tin (pc := 33) 36 (tgt := 2139) c41 (by decide) dL_law_33 rfl (by decide) ?_
                                                                                refine ev_aload_1 (pc := 2139) dL_law_2139 ?_
                                                                                refine ev_aload_0 (pc := 2140) dL_law_2140 ?_
                                                                                refine ev_iload_3 (pc := 2141) dL_law_2141 ?_
                                                                                refine ev_iconst (pc := 2142) (v := 1) dL_law_2142 rfl ?_
                                                                                refine ev_iadd (pc := 2143) dL_law_2143 ?_
                                                                                obtain ⟨x73, hx73, h⟩ := ev_bindE hN h
                                                                                refine ev_sld (pc := 2144) hxs hx73 dL_law_2144 ?_
                                                                                refine ev_aload_0 (pc := 2145) dL_law_2145 ?_
                                                                                refine ev_iload_3 (pc := 2146) dL_law_2146 ?_
                                                                                refine ev_iconst (pc := 2147) (v := 2) dL_law_2147 rfl ?_
                                                                                refine ev_iadd (pc := 2148) dL_law_2148 ?_
                                                                                obtain ⟨x74, hx74, h⟩ := ev_bindE hN h
                                                                                refine ev_sld (pc := 2149) hxs hx74 dL_law_2149 ?_
                                                                                refine ev_aload_0 (pc := 2150) dL_law_2150 ?_
                                                                                refine ev_iload_3 (pc := 2151) dL_law_2151 ?_
                                                                                refine ev_iconst (pc := 2152) (v := 3) dL_law_2152 rfl ?_
                                                                                refine ev_iadd (pc := 2153) dL_law_2153 ?_
                                                                                obtain ⟨x75, hx75, h⟩ := ev_bindE hN h
                                                                                refine ev_sld (pc := 2154) hxs hx75 dL_law_2154 ?_
                                                                                refine ev_aload_0 (pc := 2155) dL_law_2155 ?_
                                                                                refine ev_iload_3 (pc := 2156) dL_law_2156 ?_
                                                                                refine ev_iconst (pc := 2157) (v := 4) dL_law_2157 rfl ?_
                                                                                refine ev_iadd (pc := 2158) dL_law_2158 ?_
                                                                                obtain ⟨x76, hx76, h⟩ := ev_bindE hN h
                                                                                refine ev_sld (pc := 2159) hxs hx76 dL_law_2159 ?_
                                                                                refine ev_aload_0 (pc := 2160) dL_law_2160 ?_
                                                                                refine ev_iload_3 (pc := 2161) dL_law_2161 ?_
                                                                                refine ev_iconst (pc := 2162) (v := 5) dL_law_2162 rfl ?_
                                                                                refine ev_iadd (pc := 2163) dL_law_2163 ?_
                                                                                obtain ⟨x77, hx77, h⟩ := ev_bindE hN h
                                                                                refine ev_sld (pc := 2164) hxs hx77 dL_law_2164 ?_
                                                                                refine ev_aload_0 (pc := 2165) dL_law_2165 ?_
                                                                                refine ev_iload_3 (pc := 2166) dL_law_2166 ?_
                                                                                refine ev_bipush (pc := 2167) (v := 6) dL_law_2167 (by decide) ?_
                                                                                refine ev_iadd (pc := 2169) dL_law_2169 ?_
                                                                                obtain ⟨x78, hx78, h⟩ := ev_bindE hN h
                                                                                refine ev_sld (pc := 2170) hxs hx78 dL_law_2170 ?_
                                                                                obtain ⟨p79, hp79, h⟩ := ev_bindE hN h
                                                                                refine cl1_L_170 (pc := 2171) rfl dL_law_2171 (by decide) (Nat.le_of_ble_eq_true rfl) (c_X9_reads hp79) ?_
                                                                                refine ev_aload_2 (pc := 2174) dL_law_2174 ?_
                                                                                refine ev_aload_0 (pc := 2175) dL_law_2175 ?_
                                                                                refine ev_iload_3 (pc := 2176) dL_law_2176 ?_
                                                                                refine ev_iconst (pc := 2177) (v := 1) dL_law_2177 rfl ?_
                                                                                refine ev_iadd (pc := 2178) dL_law_2178 ?_
                                                                                obtain ⟨x80, hx80, h⟩ := ev_bindE hN h
                                                                                refine ev_sld (pc := 2179) hxs hx80 dL_law_2179 ?_
                                                                                refine ev_aload_0 (pc := 2180) dL_law_2180 ?_
                                                                                refine ev_iload_3 (pc := 2181) dL_law_2181 ?_
                                                                                refine ev_iconst (pc := 2182) (v := 2) dL_law_2182 rfl ?_
                                                                                refine ev_iadd (pc := 2183) dL_law_2183 ?_
                                                                                obtain ⟨x81, hx81, h⟩ := ev_bindE hN h
                                                                                refine ev_sld (pc := 2184) hxs hx81 dL_law_2184 ?_
                                                                                refine ev_aload_0 (pc := 2185) dL_law_2185 ?_
                                                                                refine ev_iload_3 (pc := 2186) dL_law_2186 ?_
                                                                                refine ev_iconst (pc := 2187) (v := 3) dL_law_2187 rfl ?_
                                                                                refine ev_iadd (pc := 2188) dL_law_2188 ?_
                                                                                obtain ⟨x82, hx82, h⟩ := ev_bindE hN h
                                                                                refine ev_sld (pc := 2189) hxs hx82 dL_law_2189 ?_
                                                                                refine ev_aload_0 (pc := 2190) dL_law_2190 ?_
                                                                                refine ev_iload_3 (pc := 2191) dL_law_2191 ?_
                                                                                refine ev_iconst (pc := 2192) (v := 4) dL_law_2192 rfl ?_
                                                                                refine ev_iadd (pc := 2193) dL_law_2193 ?_
                                                                                obtain ⟨x83, hx83, h⟩ := ev_bindE hN h
                                                                                refine ev_sld (pc := 2194) hxs hx83 dL_law_2194 ?_
                                                                                refine ev_aload_0 (pc := 2195) dL_law_2195 ?_
                                                                                refine ev_iload_3 (pc := 2196) dL_law_2196 ?_
                                                                                refine ev_iconst (pc := 2197) (v := 5) dL_law_2197 rfl ?_
                                                                                refine ev_iadd (pc := 2198) dL_law_2198 ?_
                                                                                obtain ⟨x84, hx84, h⟩ := ev_bindE hN h
                                                                                refine ev_sld (pc := 2199) hxs hx84 dL_law_2199 ?_
                                                                                refine ev_aload_0 (pc := 2200) dL_law_2200 ?_
                                                                                refine ev_iload_3 (pc := 2201) dL_law_2201 ?_
                                                                                refine ev_bipush (pc := 2202) (v := 6) dL_law_2202 (by decide) ?_
                                                                                refine ev_iadd (pc := 2204) dL_law_2204 ?_
                                                                                obtain ⟨x85, hx85, h⟩ := ev_bindE hN h
                                                                                refine ev_sld (pc := 2205) hxs hx85 dL_law_2205 ?_
                                                                                obtain ⟨p86, hp86, h⟩ := ev_bindE hN h
                                                                                refine cl1_L_174 (pc := 2206) rfl dL_law_2206 (by decide) (Nat.le_of_ble_eq_true rfl) (c_X10_reads hp86) ?_
                                                                                refine ev_icc_eq (pc := 2209) (tgt := 2336) dL_law_2209 (by decide) (fun c87 => ?_) (fun c87 => ?_)
                                                                                · replace h := ev_ifp h c87
                                                                                  exact e_jn_L_law_2336_18 hR hN hxs h (fun _ _ h => ih _ _ kx h hk) hk
                                                                                · replace h := ev_ifn h c87
                                                                                  refine ev_iconst (pc := 2212) (v := 0) dL_law_2212 rfl ?_
                                                                                  exact ev_iret (pc := 2213) dL_law_2213 rfl rfl (hR _ _ h)
                                                                              · replace h := ev_ifn h c41
                                                                                by_cases c42 : (x4 &&& 63) = 37
                                                                                · replace h := ev_ifp h c42
                                                                                  refine ev_tin (pc := 33) 37 (tgt := 2214) c42 (by decide) dL_law_33 rfl (by decide) ?_
                                                                                  refine ev_aload_1 (pc := 2214) dL_law_2214 ?_
                                                                                  refine ev_aload_0 (pc := 2215) dL_law_2215 ?_
                                                                                  refine ev_iload_3 (pc := 2216) dL_law_2216 ?_
                                                                                  refine ev_iconst (pc := 2217) (v := 1) dL_law_2217 rfl ?_
                                                                                  refine ev_iadd (pc := 2218) dL_law_2218 ?_
                                                                                  obtain ⟨x62, hx62, h⟩ := ev_bindE hN h
                                                                                  refine ev_sld (pc := 2219) hxs hx62 dL_law_2219 ?_
                                                                                  refine ev_aload_0 (pc := 2220) dL_law_2220 ?_
                                                                                  refine ev_iload_3 (pc := 2221) dL_law_2221 ?_
                                                                                  refine ev_iconst (pc := 2222) (v := 2) dL_law_2222 rfl ?_
                                                                                  refine ev_iadd (pc := 2223) dL_law_2223 ?_
                                                                                  obtain ⟨x63, hx63, h⟩ := ev_bindE hN h
                                                                                  refine ev_sld (pc := 2224) hxs hx63 dL_law_2224 ?_
                                                                                  refine ev_aload_0 (pc := 2225) dL_law_2225 ?_
                                                                                  refine ev_iload_3 (pc := 2226) dL_law_2226 ?_
                                                                                  refine ev_iconst (pc := 2227) (v := 3) dL_law_2227 rfl ?_
                                                                                  refine ev_iadd (pc := 2228) dL_law_2228 ?_
                                                                                  obtain ⟨x64, hx64, h⟩ := ev_bindE hN h
                                                                                  refine ev_sld (pc := 2229) hxs hx64 dL_law_2229 ?_
                                                                                  refine ev_aload_0 (pc := 2230) dL_law_2230 ?_
                                                                                  refine ev_iload_3 (pc := 2231) dL_law_2231 ?_
                                                                                  refine ev_iconst (pc := 2232) (v := 4) dL_law_2232 rfl ?_
                                                                                  refine ev_iadd (pc := 2233) dL_law_2233 ?_
                                                                                  obtain ⟨x65, hx65, h⟩ := ev_bindE hN h
                                                                                  refine ev_sld (pc := 2234) hxs hx65 dL_law_2234 ?_
                                                                                  obtain ⟨p66, hp66, h⟩ := ev_bindE hN h
                                                                                  refine cl1_L_175 (pc := 2235) rfl dL_law_2235 (by decide) (Nat.le_of_ble_eq_true rfl) (c_X9_parted hp66) ?_
                                                                                  refine ev_aload_2 (pc := 2238) dL_law_2238 ?_
                                                                                  refine ev_aload_0 (pc := 2239) dL_law_2239 ?_
                                                                                  refine ev_iload_3 (pc := 2240) dL_law_2240 ?_
                                                                                  refine ev_iconst (pc := 2241) (v := 1) dL_law_2241 rfl ?_
                                                                                  refine ev_iadd (pc := 2242) dL_law_2242 ?_
                                                                                  obtain ⟨x67, hx67, h⟩ := ev_bindE hN h
                                                                                  refine ev_sld (pc := 2243) hxs hx67 dL_law_2243 ?_
                                                                                  refine ev_aload_0 (pc := 2244) dL_law_2244 ?_
                                                                                  refine ev_iload_3 (pc := 2245) dL_law_2245 ?_
                                                                                  refine ev_iconst (pc := 2246) (v := 2) dL_law_2246 rfl ?_
                                                                                  refine ev_iadd (pc := 2247) dL_law_2247 ?_
                                                                                  obtain ⟨x68, hx68, h⟩ := ev_bindE hN h
                                                                                  refine ev_sld (pc := 2248) hxs hx68 dL_law_2248 ?_
                                                                                  refine ev_aload_0 (pc := 2249) dL_law_2249 ?_
                                                                                  refine ev_iload_3 (pc := 2250) dL_law_2250 ?_
                                                                                  refine ev_iconst (pc := 2251) (v := 3) dL_law_2251 rfl ?_
                                                                                  refine ev_iadd (pc := 2252) dL_law_2252 ?_
                                                                                  obtain ⟨x69, hx69, h⟩ := ev_bindE hN h
                                                                                  refine ev_sld (pc := 2253) hxs hx69 dL_law_2253 ?_
                                                                                  refine ev_aload_0 (pc := 2254) dL_law_2254 ?_
                                                                                  refine ev_iload_3 (pc := 2255) dL_law_2255 ?_
                                                                                  refine ev_iconst (pc := 2256) (v := 4) dL_law_2256 rfl ?_
                                                                                  refine ev_iadd (pc := 2257) dL_law_2257 ?_
                                                                                  obtain ⟨x70, hx70, h⟩ := ev_bindE hN h
                                                                                  refine ev_sld (pc := 2258) hxs hx70 dL_law_2258 ?_
                                                                                  obtain ⟨p71, hp71, h⟩ := ev_bindE hN h
                                                                                  refine cl1_L_178 (pc := 2259) rfl dL_law_2259 (by decide) (Nat.le_of_ble_eq_true rfl) (c_X10_parted hp71) ?_
                                                                                  refine ev_icc_eq (pc := 2262) (tgt := 2336) dL_law_2262 (by decide) (fun c72 => ?_) (fun c72 => ?_)
                                                                                  · replace h := ev_ifp h c72
                                                                                    exact e_jn_L_law_2336_18 hR hN hxs h (fun _ _ h => ih _ _ kx h hk) hk
                                                                                  · replace h := ev_ifn h c72
                                                                                    refine ev_iconst (pc := 2265) (v := 0) dL_law_2265 rfl ?_
                                                                                    exact ev_iret (pc := 2266) dL_law_2266 rfl rfl (hR _ _ h)
                                                                                · replace h := ev_ifn h c42
                                                                                  by_cases c43 : (x4 &&& 63) = 38
                                                                                  · replace h := ev_ifp h c43
                                                                                    refine ev_tin (pc := 33) 38 (tgt := 2267) c43 (by decide) dL_law_33 rfl (by decide) ?_
                                                                                    refine ev_aload_1 (pc := 2267) dL_law_2267 ?_
                                                                                    refine ev_aload_0 (pc := 2268) dL_law_2268 ?_
                                                                                    refine ev_iload_3 (pc := 2269) dL_law_2269 ?_
                                                                                    refine ev_iconst (pc := 2270) (v := 1) dL_law_2270 rfl ?_
                                                                                    refine ev_iadd (pc := 2271) dL_law_2271 ?_
                                                                                    obtain ⟨x58, hx58, h⟩ := ev_bindE hN h
                                                                                    refine ev_sld (pc := 2272) hxs hx58 dL_law_2272 ?_
                                                                                    refine cl1_L_179 (pc := 2273) rfl dL_law_2273 (by decide) (Nat.le_of_ble_eq_true rfl) (c_X9_count m2 0 x58) ?_
                                                                                    refine ev_aload_2 (pc := 2276) dL_law_2276 ?_
                                                                                    refine ev_aload_0 (pc := 2277) dL_law_2277 ?_
                                                                                    refine ev_iload_3 (pc := 2278) dL_law_2278 ?_
                                                                                    refine ev_iconst (pc := 2279) (v := 1) dL_law_2279 rfl ?_
                                                                                    refine ev_iadd (pc := 2280) dL_law_2280 ?_
                                                                                    obtain ⟨x59, hx59, h⟩ := ev_bindE hN h
                                                                                    refine ev_sld (pc := 2281) hxs hx59 dL_law_2281 ?_
                                                                                    obtain ⟨p60, hp60, h⟩ := ev_bindE hN h
                                                                                    refine cl1_L_182 (pc := 2282) rfl dL_law_2282 (by decide) (Nat.le_of_ble_eq_true rfl) (c_X10_count hp60) ?_
                                                                                    refine ev_icc_eq (pc := 2285) (tgt := 2336) dL_law_2285 (by decide) (fun c61 => ?_) (fun c61 => ?_)
                                                                                    · replace h := ev_ifp h c61
                                                                                      exact e_jn_L_law_2336_18 hR hN hxs h (fun _ _ h => ih _ _ kx h hk) hk
                                                                                    · replace h := ev_ifn h c61
                                                                                      refine ev_iconst (pc := 2288) (v := 0) dL_law_2288 rfl ?_
                                                                                      exact ev_iret (pc := 2289) dL_law_2289 rfl rfl (hR _ _ h)
                                                                                  · replace h := ev_ifn h c43
                                                                                    by_cases c44 : (x4 &&& 63) = 39
                                                                                    · replace h := ev_ifp h c44
                                                                                      refine ev_tin (pc := 33) 39 (tgt := 2290) c44 (by decide) dL_law_33 rfl (by decide) ?_
                                                                                      refine ev_aload_1 (pc := 2290) dL_law_2290 ?_
                                                                                      refine ev_aload_0 (pc := 2291) dL_law_2291 ?_
                                                                                      refine ev_iload_3 (pc := 2292) dL_law_2292 ?_
                                                                                      refine ev_iconst (pc := 2293) (v := 1) dL_law_2293 rfl ?_
                                                                                      refine ev_iadd (pc := 2294) dL_law_2294 ?_
                                                                                      obtain ⟨x53, hx53, h⟩ := ev_bindE hN h
                                                                                      refine ev_sld (pc := 2295) hxs hx53 dL_law_2295 ?_
                                                                                      obtain ⟨p54, hp54, h⟩ := ev_bindE hN h
                                                                                      refine cl1_L_183 (pc := 2296) rfl dL_law_2296 (by decide) (Nat.le_of_ble_eq_true rfl) (c_X9_image hp54) ?_
                                                                                      refine ev_aload_2 (pc := 2299) dL_law_2299 ?_
                                                                                      refine ev_aload_0 (pc := 2300) dL_law_2300 ?_
                                                                                      refine ev_iload_3 (pc := 2301) dL_law_2301 ?_
                                                                                      refine ev_iconst (pc := 2302) (v := 1) dL_law_2302 rfl ?_
                                                                                      refine ev_iadd (pc := 2303) dL_law_2303 ?_
                                                                                      obtain ⟨x55, hx55, h⟩ := ev_bindE hN h
                                                                                      refine ev_sld (pc := 2304) hxs hx55 dL_law_2304 ?_
                                                                                      obtain ⟨p56, hp56, h⟩ := ev_bindE hN h
                                                                                      refine cl1_L_187 (pc := 2305) rfl dL_law_2305 (by decide) (Nat.le_of_ble_eq_true rfl) (c_X10_image hp56) ?_
                                                                                      refine ev_icc_eq (pc := 2308) (tgt := 2336) dL_law_2308 (by decide) (fun c57 => ?_) (fun c57 => ?_)
                                                                                      · replace h := ev_ifp h c57
                                                                                        exact e_jn_L_law_2336_18 hR hN hxs h (fun _ _ h => ih _ _ kx h hk) hk
                                                                                      · replace h := ev_ifn h c57
                                                                                        refine ev_iconst (pc := 2311) (v := 0) dL_law_2311 rfl ?_
                                                                                        exact ev_iret (pc := 2312) dL_law_2312 rfl rfl (hR _ _ h)
                                                                                    · replace h := ev_ifn h c44
                                                                                      by_cases c45 : (x4 &&& 63) = 40
                                                                                      · replace h := ev_ifp h c45
                                                                                        refine ev_tin (pc := 33) 40 (tgt := 2313) c45 (by decide) dL_law_33 rfl (by decide) ?_
                                                                                        refine ev_aload_1 (pc := 2313) dL_law_2313 ?_
                                                                                        refine ev_aload_0 (pc := 2314) dL_law_2314 ?_
                                                                                        refine ev_iload_3 (pc := 2315) dL_law_2315 ?_
                                                                                        refine ev_iconst (pc := 2316) (v := 1) dL_law_2316 rfl ?_
                                                                                        refine ev_iadd (pc := 2317) dL_law_2317 ?_
                                                                                        obtain ⟨x48, hx48, h⟩ := ev_bindE hN h
                                                                                        refine ev_sld (pc := 2318) hxs hx48 dL_law_2318 ?_
                                                                                        obtain ⟨p49, hp49, h⟩ := ev_bindE hN h
                                                                                        refine cl1_L_188 (pc := 2319) rfl dL_law_2319 (by decide) (Nat.le_of_ble_eq_true rfl) (c_X9_again hp49) ?_
                                                                                        refine ev_aload_2 (pc := 2322) dL_law_2322 ?_
                                                                                        refine ev_aload_0 (pc := 2323) dL_law_2323 ?_
                                                                                        refine ev_iload_3 (pc := 2324) dL_law_2324 ?_
                                                                                        refine ev_iconst (pc := 2325) (v := 1) dL_law_2325 rfl ?_
                                                                                        refine ev_iadd (pc := 2326) dL_law_2326 ?_
                                                                                        obtain ⟨x50, hx50, h⟩ := ev_bindE hN h
                                                                                        refine ev_sld (pc := 2327) hxs hx50 dL_law_2327 ?_
                                                                                        obtain ⟨p51, hp51, h⟩ := ev_bindE hN h
                                                                                        refine cl1_L_191 (pc := 2328) rfl dL_law_2328 (by decide) (Nat.le_of_ble_eq_true rfl) (c_X10_again hp51) ?_
                                                                                        refine ev_icc_eq (pc := 2331) (tgt := 2336) dL_law_2331 (by decide) (fun c52 => ?_) (fun c52 => ?_)
                                                                                        · replace h := ev_ifp h c52
                                                                                          exact e_jn_L_law_2336_18 hR hN hxs h (fun _ _ h => ih _ _ kx h hk) hk
                                                                                        · replace h := ev_ifn h c52
                                                                                          refine ev_iconst (pc := 2334) (v := 0) dL_law_2334 rfl ?_
                                                                                          exact ev_iret (pc := 2335) dL_law_2335 rfl rfl (hR _ _ h)
                                                                                      · replace h := ev_ifn h c45
                                                                                        refine ev_tout (pc := 33) 41 (tgt := 2336) rfl (by decide) (lt_s (p := fun j => ¬ (x4 &&& 63) = nI j) (lt_s (p := fun j => ¬ (x4 &&& 63) = nI j) (lt_s (p := fun j => ¬ (x4 &&& 63) = nI j) (lt_s (p := fun j => ¬ (x4 &&& 63) = nI j) (lt_s (p := fun j => ¬ (x4 &&& 63) = nI j) (lt_s (p := fun j => ¬ (x4 &&& 63) = nI j) (lt_s (p := fun j => ¬ (x4 &&& 63) = nI j) (lt_s (p := fun j => ¬ (x4 &&& 63) = nI j) (lt_s (p := fun j => ¬ (x4 &&& 63) = nI j) (lt_s (p := fun j => ¬ (x4 &&& 63) = nI j) (lt_s (p := fun j => ¬ (x4 &&& 63) = nI j) (lt_s (p := fun j => ¬ (x4 &&& 63) = nI j) (lt_s (p := fun j => ¬ (x4 &&& 63) = nI j) (lt_s (p := fun j => ¬ (x4 &&& 63) = nI j) (lt_s (p := fun j => ¬ (x4 &&& 63) = nI j) (lt_s (p := fun j => ¬ (x4 &&& 63) = nI j) (lt_s (p := fun j => ¬ (x4 &&& 63) = nI j) (lt_s (p := fun j => ¬ (x4 &&& 63) = nI j) (lt_s (p := fun j => ¬ (x4 &&& 63) = nI j) (lt_s (p := fun j => ¬ (x4 &&& 63) = nI j) (lt_s (p := fun j => ¬ (x4 &&& 63) = nI j) (lt_s (p := fun j => ¬ (x4 &&& 63) = nI j) (lt_s (p := fun j => ¬ (x4 &&& 63) = nI j) (lt_s (p := fun j => ¬ (x4 &&& 63) = nI j) (lt_s (p := fun j => ¬ (x4 &&& 63) = nI j) (lt_s (p := fun j => ¬ (x4 &&& 63) = nI j) (lt_s (p := fun j => ¬ (x4 &&& 63) = nI j) (lt_s (p := fun j => ¬ (x4 &&& 63) = nI j) (lt_s (p := fun j => ¬ (x4 &&& 63) = nI j) (lt_s (p := fun j => ¬ (x4 &&& 63) = nI j) (lt_s (p := fun j => ¬ (x4 &&& 63) = nI j) (lt_s (p := fun j => ¬ (x4 &&& 63) = nI j) (lt_s (p := fun j => ¬ (x4 &&& 63) = nI j) (lt_s (p := fun j => ¬ (x4 &&& 63) = nI j) (lt_s (p := fun j => ¬ (x4 &&& 63) = nI j) (lt_s (p := fun j => ¬ (x4 &&& 63) = nI j) (lt_s (p := fun j => ¬ (x4 &&& 63) = nI j) (lt_s (p := fun j => ¬ (x4 &&& 63) = nI j) (lt_s (p := fun j => ¬ (x4 &&& 63) = nI j) (lt_s (p := fun j => ¬ (x4 &&& 63) = nI j) (lt_s (p := fun j => ¬ (x4 &&& 63) = nI j) lt_0 c5) c6) c7) c8) c9) c10) c11) c12) c13) c14) c15) c16) c17) c18) c19) c20) c21) c22) c23) c24) c25) c26) c27) c28) c29) c30) c31) c32) c33) c34) c35) c36) c37) c38) c39) c40) c41) c42) c43) c44) c45) dL_law_33 (by decide) ?_
                                                                                        exact e_jn_L_law_2336_18 hR hN hxs h (fun _ _ h => ih _ _ kx h hk) hk
set_option maxRecDepth 20000 in
set_option maxHeartbeats 4000000 in
theorem e_L_law {G : ev_G} {Q : Option ev_V → ev_M → Prop} {R : Option (Bool × ev_m)} {mF : ev_m} (hR : ∀ (x0 : Bool) (m0 : ev_m), (some ((x0, m0))) = R → Q (some (vi (bi x0))) (ev_emb m0)) (hN : none ≠ R) {xs : List Int32} (hxs : G.2.2.2.2 = xs) (h : f_L_law xs mF = R) : ev_E G K_L_law B_L_law ev_uL 16 [some (vr 64 0), some (vr 0 0), some (vr 10 0), none] [] (ev_emb mF) Q := by
  unfold f_L_law at h
  refine ev_iconst (pc := 16) (v := 0) dL_law_16 rfl ?_
  refine ev_istore_3 (pc := 17) dL_law_17 (by decide) rfl ?_
  refine e_lp_L_law_18 hR hN hxs 4000 _ _ _ h (fun m489 h => ?_)
  refine ev_iconst (pc := 2342) (v := 1) dL_law_2342 rfl ?_
  exact ev_iret (pc := 2343) dL_law_2343 rfl rfl (hR _ _ h)
