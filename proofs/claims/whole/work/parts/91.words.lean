/-! words of the tables for the constructors -/
theorem wo_in : Cond.instanceMethod Lib.objectInit ∈ ev_GW := tm_1 (List.mem_of_getElem? (i := 25) rfl) rfl
theorem wo_co : Cond.code Lib.objectInit ⟨#[0xb1]⟩ 1 none ∈ ev_GW := tm_1 (List.mem_of_getElem? (i := 26) rfl) rfl
theorem wa_int : Cond.arrayClass FieldType.int ∈ ev_GW := tm_1 (List.mem_of_getElem? (i := 111) rfl) rfl
theorem wa_byte : Cond.arrayClass FieldType.byte ∈ ev_GW := tm_1 (List.mem_of_getElem? (i := 48) rfl) rfl
theorem wa_boolean : Cond.arrayClass FieldType.boolean ∈ ev_GW := tm_2 (List.mem_of_getElem? (i := 51) rfl) rfl
theorem wc_X6_init : Cond.code yX6_init cX6_init 1 none ∈ ev_GW := tm_1 (List.mem_of_getElem? (i := 37) rfl) rfl
theorem wm_X6_init : Cond.instanceMethod yX6_init ∈ ev_GW := tm_1 (List.mem_of_getElem? (i := 36) rfl) rfl
theorem wn_X6 : Cond.instantiable "HelmHand$Tape" 2 ∈ ev_GW := tm_1 (List.mem_of_getElem? (i := 34) rfl) rfl
abbrev K_X6_init : ev_K := (cX6_init, yX6_init, 1, none)
theorem mi_X6_init : ev_MC K_X6_init 0 := ⟨⟨wi_X6, wc_X6_init, ⟨by decide, by decide⟩, by decide +kernel⟩, rfl, wm_X6_init⟩
theorem wc_X5_init : Cond.code yX5_init cX5_init 1 none ∈ ev_GW := tm_1 (List.mem_of_getElem? (i := 60) rfl) rfl
theorem wm_X5_init : Cond.instanceMethod yX5_init ∈ ev_GW := tm_1 (List.mem_of_getElem? (i := 59) rfl) rfl
theorem wn_X5 : Cond.instantiable "HelmHand$Ship" 12 ∈ ev_GW := tm_1 (List.mem_of_getElem? (i := 57) rfl) rfl
abbrev K_X5_init : ev_K := (cX5_init, yX5_init, 1, none)
theorem mi_X5_init : ev_MC K_X5_init 0 := ⟨⟨wi_X5, wc_X5_init, ⟨by decide, by decide⟩, by decide +kernel⟩, rfl, wm_X5_init⟩
theorem wc_X1_init : Cond.code yX1_init cX1_init 1 none ∈ ev_GW := tm_1 (List.mem_of_getElem? (i := 115) rfl) rfl
theorem wm_X1_init : Cond.instanceMethod yX1_init ∈ ev_GW := tm_1 (List.mem_of_getElem? (i := 114) rfl) rfl
theorem wn_X1 : Cond.instantiable "HelmHand$Hand" 12 ∈ ev_GW := tm_1 (List.mem_of_getElem? (i := 112) rfl) rfl
abbrev K_X1_init : ev_K := (cX1_init, yX1_init, 1, none)
theorem mi_X1_init : ev_MC K_X1_init 0 := ⟨⟨wi_X1, wc_X1_init, ⟨by decide, by decide⟩, by decide +kernel⟩, rfl, wm_X1_init⟩
theorem wc_X3_init : Cond.code yX3_init cX3_init 1 none ∈ ev_GW := tm_1 (List.mem_of_getElem? (i := 161) rfl) rfl
theorem wm_X3_init : Cond.instanceMethod yX3_init ∈ ev_GW := tm_1 (List.mem_of_getElem? (i := 160) rfl) rfl
theorem wn_X3 : Cond.instantiable "HelmHand$Paper" 2 ∈ ev_GW := tm_1 (List.mem_of_getElem? (i := 158) rfl) rfl
abbrev K_X3_init : ev_K := (cX3_init, yX3_init, 1, none)
theorem mi_X3_init : ev_MC K_X3_init 0 := ⟨⟨wi_X3, wc_X3_init, ⟨by decide, by decide⟩, by decide +kernel⟩, rfl, wm_X3_init⟩
theorem wc_X7_init : Cond.code yX7_init cX7_init 1 none ∈ ev_GW := tm_1 (List.mem_of_getElem? (i := 178) rfl) rfl
theorem wm_X7_init : Cond.instanceMethod yX7_init ∈ ev_GW := tm_1 (List.mem_of_getElem? (i := 177) rfl) rfl
theorem wn_X7 : Cond.instantiable "HelmHand$Watch" 3 ∈ ev_GW := tm_1 (List.mem_of_getElem? (i := 175) rfl) rfl
abbrev K_X7_init : ev_K := (cX7_init, yX7_init, 1, none)
theorem mi_X7_init : ev_MC K_X7_init 0 := ⟨⟨wi_X7, wc_X7_init, ⟨by decide, by decide⟩, by decide +kernel⟩, rfl, wm_X7_init⟩
theorem wc_X2_init : Cond.code yX2_init cX2_init 1 none ∈ ev_GW := tm_2 (List.mem_of_getElem? (i := 62) rfl) rfl
theorem wm_X2_init : Cond.instanceMethod yX2_init ∈ ev_GW := tm_2 (List.mem_of_getElem? (i := 61) rfl) rfl
theorem wn_X2 : Cond.instantiable "HelmHand$Mate" 4 ∈ ev_GW := tm_2 (List.mem_of_getElem? (i := 59) rfl) rfl
abbrev K_X2_init : ev_K := (cX2_init, yX2_init, 1, none)
theorem mi_X2_init : ev_MC K_X2_init 0 := ⟨⟨wi_X2, wc_X2_init, ⟨by decide, by decide⟩, by decide +kernel⟩, rfl, wm_X2_init⟩
theorem wc_X8_init : Cond.code yX8_init cX8_init 1 none ∈ ev_GW := tm_2 (List.mem_of_getElem? (i := 56) rfl) rfl
theorem wm_X8_init : Cond.instanceMethod yX8_init ∈ ev_GW := tm_2 (List.mem_of_getElem? (i := 55) rfl) rfl
theorem wn_X8 : Cond.instantiable "HelmHand$Wheel" 9 ∈ ev_GW := tm_2 (List.mem_of_getElem? (i := 53) rfl) rfl
abbrev K_X8_init : ev_K := (cX8_init, yX8_init, 1, none)
theorem mi_X8_init : ev_MC K_X8_init 0 := ⟨⟨wi_X8, wc_X8_init, ⟨by decide, by decide⟩, by decide +kernel⟩, rfl, wm_X8_init⟩
theorem wc_X4_init : Cond.code yX4_init cX4_init 1 none ∈ ev_GW := tm_1 (List.mem_of_getElem? (i := 236) rfl) rfl
theorem wm_X4_init : Cond.instanceMethod yX4_init ∈ ev_GW := tm_1 (List.mem_of_getElem? (i := 235) rfl) rfl
theorem wn_X4 : Cond.instantiable "HelmHand$Reader" 12 ∈ ev_GW := tm_1 (List.mem_of_getElem? (i := 233) rfl) rfl
abbrev K_X4_init : ev_K := (cX4_init, yX4_init, 1, none)
theorem mi_X4_init : ev_MC K_X4_init 0 := ⟨⟨wi_X4, wc_X4_init, ⟨by decide, by decide⟩, by decide +kernel⟩, rfl, wm_X4_init⟩
theorem wc_X0_init : Cond.code yX0_init cX0_init 2 none ∈ ev_GW := tm_1 (List.mem_of_getElem? (i := 31) rfl) rfl
theorem wm_X0_init : Cond.instanceMethod yX0_init ∈ ev_GW := tm_1 (List.mem_of_getElem? (i := 30) rfl) rfl
theorem wn_X0 : Cond.instantiable "HelmHand$Book" 11 ∈ ev_GW := tm_1 (List.mem_of_getElem? (i := 28) rfl) rfl
abbrev K_X0_init : ev_K := (cX0_init, yX0_init, 2, none)
theorem mi_X0_init : ev_MC K_X0_init 0 := ⟨⟨wi_X0, wc_X0_init, ⟨by decide, by decide⟩, by decide +kernel⟩, rfl, wm_X0_init⟩
theorem wc_X9_init : Cond.code yX9_init cX9_init 2 none ∈ ev_GW := tm_1 (List.mem_of_getElem? (i := 23) rfl) rfl
theorem wm_X9_init : Cond.instanceMethod yX9_init ∈ ev_GW := tm_1 (List.mem_of_getElem? (i := 22) rfl) rfl
theorem wn_X9 : Cond.instantiable "HelmHand" 7 ∈ ev_GW := tm_1 (List.mem_of_getElem? (i := 20) rfl) rfl
abbrev K_X9_init : ev_K := (cX9_init, yX9_init, 2, none)
theorem mi_X9_init : ev_MC K_X9_init 0 := ⟨⟨wi_X9, wc_X9_init, ⟨by decide, by decide⟩, by decide +kernel⟩, rfl, wm_X9_init⟩
theorem wc_X10_init : Cond.code yX10_init cX10_init 1 none ∈ ev_GW := tm_5 (List.mem_of_getElem? (i := 183) rfl) rfl
theorem wm_X10_init : Cond.instanceMethod yX10_init ∈ ev_GW := tm_5 (List.mem_of_getElem? (i := 182) rfl) rfl
theorem wn_X10 : Cond.instantiable "HelmHandModel" 46 ∈ ev_GW := tm_5 (List.mem_of_getElem? (i := 180) rfl) rfl
abbrev K_X10_init : ev_K := (cX10_init, yX10_init, 1, none)
theorem mi_X10_init : ev_MC K_X10_init 0 := ⟨⟨wi_X10, wc_X10_init, ⟨by decide, by decide⟩, by decide +kernel⟩, rfl, wm_X10_init⟩
theorem wl_X6_3 : Cond.methodLink "HelmHand$Tape" 3 Lib.objectInit ∈ ev_GW := tm_1 (List.mem_of_getElem? (i := 38) rfl) rfl
theorem wl_X5_3 : Cond.methodLink "HelmHand$Ship" 3 Lib.objectInit ∈ ev_GW := tm_1 (List.mem_of_getElem? (i := 61) rfl) rfl
theorem wl_X1_3 : Cond.methodLink "HelmHand$Hand" 3 Lib.objectInit ∈ ev_GW := tm_1 (List.mem_of_getElem? (i := 116) rfl) rfl
theorem wl_X3_3 : Cond.methodLink "HelmHand$Paper" 3 Lib.objectInit ∈ ev_GW := tm_1 (List.mem_of_getElem? (i := 162) rfl) rfl
theorem wl_X7_3 : Cond.methodLink "HelmHand$Watch" 3 Lib.objectInit ∈ ev_GW := tm_1 (List.mem_of_getElem? (i := 179) rfl) rfl
theorem wl_X2_1 : Cond.methodLink "HelmHand$Mate" 1 Lib.objectInit ∈ ev_GW := tm_2 (List.mem_of_getElem? (i := 63) rfl) rfl
theorem wl_X0_3 : Cond.methodLink "HelmHand$Book" 3 Lib.objectInit ∈ ev_GW := tm_1 (List.mem_of_getElem? (i := 32) rfl) rfl
theorem wk_X0_9 : Cond.classLink "HelmHand$Book" 9 "HelmHand$Tape" ∈ ev_GW := tm_1 (List.mem_of_getElem? (i := 33) rfl) rfl
theorem wk_X0_22 : Cond.classLink "HelmHand$Book" 22 "HelmHand$Ship" ∈ ev_GW := tm_1 (List.mem_of_getElem? (i := 49) rfl) rfl
theorem wk_X0_28 : Cond.classLink "HelmHand$Book" 28 "HelmHand$Hand" ∈ ev_GW := tm_1 (List.mem_of_getElem? (i := 51) rfl) rfl
theorem wk_X0_34 : Cond.classLink "HelmHand$Book" 34 "HelmHand$Paper" ∈ ev_GW := tm_1 (List.mem_of_getElem? (i := 53) rfl) rfl
theorem wk_X0_40 : Cond.classLink "HelmHand$Book" 40 "HelmHand$Watch" ∈ ev_GW := tm_1 (List.mem_of_getElem? (i := 55) rfl) rfl
theorem wl_X8_3 : Cond.methodLink "HelmHand$Wheel" 3 Lib.objectInit ∈ ev_GW := tm_2 (List.mem_of_getElem? (i := 57) rfl) rfl
theorem wk_X8_24 : Cond.classLink "HelmHand$Wheel" 24 "HelmHand$Mate" ∈ ev_GW := tm_2 (List.mem_of_getElem? (i := 58) rfl) rfl
theorem wl_X4_3 : Cond.methodLink "HelmHand$Reader" 3 Lib.objectInit ∈ ev_GW := tm_1 (List.mem_of_getElem? (i := 237) rfl) rfl
theorem wk_X4_9 : Cond.classLink "HelmHand$Reader" 9 "HelmHand$Ship" ∈ ev_GW := tm_1 (List.mem_of_getElem? (i := 238) rfl) rfl
theorem wk_X4_18 : Cond.classLink "HelmHand$Reader" 18 "HelmHand$Hand" ∈ ev_GW := tm_2 (List.mem_of_getElem? (i := 0) rfl) rfl
theorem wk_X4_25 : Cond.classLink "HelmHand$Reader" 25 "HelmHand$Paper" ∈ ev_GW := tm_2 (List.mem_of_getElem? (i := 2) rfl) rfl
theorem wk_X4_32 : Cond.classLink "HelmHand$Reader" 32 "HelmHand$Watch" ∈ ev_GW := tm_2 (List.mem_of_getElem? (i := 4) rfl) rfl
theorem wk_X4_39 : Cond.classLink "HelmHand$Reader" 39 "HelmHand$Tape" ∈ ev_GW := tm_2 (List.mem_of_getElem? (i := 6) rfl) rfl
theorem wl_X9_1 : Cond.methodLink "HelmHand" 1 Lib.objectInit ∈ ev_GW := tm_1 (List.mem_of_getElem? (i := 24) rfl) rfl
theorem wk_X9_7 : Cond.classLink "HelmHand" 7 "HelmHand$Book" ∈ ev_GW := tm_1 (List.mem_of_getElem? (i := 27) rfl) rfl
theorem wl_X9_9 : Cond.methodLink "HelmHand" 9 yX0_init ∈ ev_GW := tm_1 (List.mem_of_getElem? (i := 29) rfl) rfl
theorem wk_X9_24 : Cond.classLink "HelmHand" 24 "HelmHand$Reader" ∈ ev_GW := tm_1 (List.mem_of_getElem? (i := 232) rfl) rfl
theorem wk_X9_31 : Cond.classLink "HelmHand" 31 "HelmHand$Wheel" ∈ ev_GW := tm_2 (List.mem_of_getElem? (i := 52) rfl) rfl
theorem wk_X9_38 : Cond.classLink "HelmHand" 38 "HelmHand$Ship" ∈ ev_GW := tm_2 (List.mem_of_getElem? (i := 112) rfl) rfl
theorem wk_X9_45 : Cond.classLink "HelmHand" 45 "HelmHand$Hand" ∈ ev_GW := tm_2 (List.mem_of_getElem? (i := 114) rfl) rfl
theorem wl_X10_1 : Cond.methodLink "HelmHandModel" 1 Lib.objectInit ∈ ev_GW := tm_5 (List.mem_of_getElem? (i := 184) rfl) rfl
theorem wk_L_7 : Cond.classLink "HelmHandLaw" 7 "HelmHand" ∈ ev_GW := tm_1 (List.mem_of_getElem? (i := 19) rfl) rfl
theorem wl_L_9 : Cond.methodLink "HelmHandLaw" 9 yX9_init ∈ ev_GW := tm_1 (List.mem_of_getElem? (i := 21) rfl) rfl
theorem wk_L_10 : Cond.classLink "HelmHandLaw" 10 "HelmHandModel" ∈ ev_GW := tm_5 (List.mem_of_getElem? (i := 179) rfl) rfl
theorem wl_L_12 : Cond.methodLink "HelmHandLaw" 12 yX10_init ∈ ev_GW := tm_5 (List.mem_of_getElem? (i := 181) rfl) rfl
