theorem tm_0 {w : Cond} (h : w ∈ k2_sels lw_privs) (g : goodWord w = true) : w ∈ ev_GW := ev_GW_in (List.mem_append_left _ h) g
theorem tm_1 {w : Cond} (h : w ∈ tables_1_1) (g : goodWord w = true) : w ∈ ev_GW := ev_GW_in (List.mem_append_right _ (List.mem_append_left _ h)) g
theorem tm_2 {w : Cond} (h : w ∈ tables_1_2) (g : goodWord w = true) : w ∈ ev_GW := ev_GW_in (List.mem_append_right _ (List.mem_append_right _ (List.mem_append_left _ h))) g
theorem tm_3 {w : Cond} (h : w ∈ tables_1_3) (g : goodWord w = true) : w ∈ ev_GW := ev_GW_in (List.mem_append_right _ (List.mem_append_right _ (List.mem_append_right _ (List.mem_append_left _ h)))) g
theorem tm_4 {w : Cond} (h : w ∈ tables_1_4) (g : goodWord w = true) : w ∈ ev_GW := ev_GW_in (List.mem_append_right _ (List.mem_append_right _ (List.mem_append_right _ (List.mem_append_right _ (List.mem_append_left _ h))))) g
theorem tm_5 {w : Cond} (h : w ∈ tables_1_5) (g : goodWord w = true) : w ∈ ev_GW := ev_GW_in (List.mem_append_right _ (List.mem_append_right _ (List.mem_append_right _ (List.mem_append_right _ (List.mem_append_right _ (List.mem_append_left _ h)))))) g
theorem tm_6 {w : Cond} (h : w ∈ tables_1_6) (g : goodWord w = true) : w ∈ ev_GW := ev_GW_in (List.mem_append_right _ (List.mem_append_right _ (List.mem_append_right _ (List.mem_append_right _ (List.mem_append_right _ (List.mem_append_right _ (List.mem_append_left _ h))))))) g
theorem tm_7 {w : Cond} (h : w ∈ tables_1_7) (g : goodWord w = true) : w ∈ ev_GW := ev_GW_in (List.mem_append_right _ (List.mem_append_right _ (List.mem_append_right _ (List.mem_append_right _ (List.mem_append_right _ (List.mem_append_right _ (List.mem_append_right _ h))))))) g
/-! words of the tables by their places; rows of fields, constants and calls, a site each -/
abbrev K_J3_checkIndex_8e157 : ev_K := (cJ3_checkIndex_8e157, yJ3_checkIndex_8e157, 3, (some .int))
abbrev B_J3_checkIndex_8e157 : ev_B := (0, 0, 0, 0)
abbrev K_J0_checkIndex_df160 : ev_K := (cJ0_checkIndex_df160, yJ0_checkIndex_df160, 2, none)
abbrev B_J0_checkIndex_df160 : ev_B := (1, 22, 0, 0)
abbrev K_J1_charAt_3b067 : ev_K := (cJ1_charAt_3b067, yJ1_charAt_3b067, 2, (some .char))
abbrev B_J1_charAt_3b067 : ev_B := (2, 43, 0, 0)
abbrev K_J0_isLatin1_aae02 : ev_K := (cJ0_isLatin1_aae02, yJ0_isLatin1_aae02, 1, (some .boolean))
abbrev B_J0_isLatin1_aae02 : ev_B := (0, 0, 0, 0)
abbrev K_J0_coder_7d493 : ev_K := (cJ0_coder_7d493, yJ0_coder_7d493, 1, (some .byte))
abbrev B_J0_coder_7d493 : ev_B := (0, 0, 0, 0)
abbrev K_J0_charAt_5068e : ev_K := (cJ0_charAt_5068e, yJ0_charAt_5068e, 2, (some .char))
abbrev B_J0_charAt_5068e : ev_B := (3, 64, 0, 0)
abbrev K_J0_length_8abf5 : ev_K := (cJ0_length_8abf5, yJ0_length_8abf5, 1, (some .int))
abbrev B_J0_length_8abf5 : ev_B := (1, 20, 0, 0)
abbrev K_X9_at : ev_K := (cX9_at, yX9_at, 2, (some .int))
abbrev B_X9_at : ev_B := (0, 0, 0, 0)
abbrev K_X9_put : ev_K := (cX9_put, yX9_put, 3, none)
abbrev B_X9_put : ev_B := (0, 0, 0, 0)
abbrev K_X9_copyRow : ev_K := (cX9_copyRow, yX9_copyRow, 2, none)
abbrev B_X9_copyRow : ev_B := (1, 60, 0, 0)
abbrev K_X6_copy : ev_K := (cX6_copy, yX6_copy, 2, none)
abbrev B_X6_copy : ev_B := (1, 60, 0, 0)
abbrev K_X10_copyRow : ev_K := (cX10_copyRow, yX10_copyRow, 5, none)
abbrev B_X10_copyRow : ev_B := (0, 0, 0, 0)
abbrev K_X0_shipAt : ev_K := (cX0_shipAt, yX0_shipAt, 2, (some (.object "HelmHand$Ship")))
abbrev B_X0_shipAt : ev_B := (0, 0, 0, 0)
abbrev K_X0_handAt : ev_K := (cX0_handAt, yX0_handAt, 2, (some (.object "HelmHand$Hand")))
abbrev B_X0_handAt : ev_B := (0, 0, 0, 0)
abbrev K_X0_paperAt : ev_K := (cX0_paperAt, yX0_paperAt, 2, (some (.object "HelmHand$Paper")))
abbrev B_X0_paperAt : ev_B := (0, 0, 0, 0)
abbrev K_X0_watchAt : ev_K := (cX0_watchAt, yX0_watchAt, 2, (some (.object "HelmHand$Watch")))
abbrev B_X0_watchAt : ev_B := (0, 0, 0, 0)
abbrev K_X0_countOf : ev_K := (cX0_countOf, yX0_countOf, 2, (some .int))
abbrev B_X0_countOf : ev_B := (0, 0, 0, 0)
abbrev K_X0_placeFor : ev_K := (cX0_placeFor, yX0_placeFor, 5, (some .int))
abbrev B_X0_placeFor : ev_B := (1, 21, 0, 0)
abbrev K_X5_look : ev_K := (cX5_look, yX5_look, 2, (some .int))
abbrev B_X5_look : ev_B := (1, 21, 0, 0)
abbrev K_X5_write : ev_K := (cX5_write, yX5_write, 3, none)
abbrev B_X5_write : ev_B := (0, 0, 0, 0)
abbrev K_X5_copy : ev_K := (cX5_copy, yX5_copy, 3, none)
abbrev B_X5_copy : ev_B := (2, 81, 0, 0)
abbrev K_X0_copyShip : ev_K := (cX0_copyShip, yX0_copyShip, 4, none)
abbrev B_X0_copyShip : ev_B := (3, 103, 0, 0)
abbrev K_X1_lookStar : ev_K := (cX1_lookStar, yX1_lookStar, 2, (some .int))
abbrev B_X1_lookStar : ev_B := (1, 21, 0, 0)
abbrev K_X1_look : ev_K := (cX1_look, yX1_look, 2, (some .int))
abbrev B_X1_look : ev_B := (2, 42, 0, 0)
abbrev K_X1_write : ev_K := (cX1_write, yX1_write, 3, none)
abbrev B_X1_write : ev_B := (0, 0, 0, 0)
abbrev K_X1_copy : ev_K := (cX1_copy, yX1_copy, 3, none)
abbrev B_X1_copy : ev_B := (3, 81, 0, 0)
abbrev K_X0_copyHand : ev_K := (cX0_copyHand, yX0_copyHand, 4, none)
abbrev B_X0_copyHand : ev_B := (4, 103, 0, 0)
abbrev K_X3_copy : ev_K := (cX3_copy, yX3_copy, 2, none)
abbrev B_X3_copy : ev_B := (2, 81, 0, 0)
abbrev K_X0_copyPaper : ev_K := (cX0_copyPaper, yX0_copyPaper, 4, none)
abbrev B_X0_copyPaper : ev_B := (3, 102, 0, 0)
abbrev K_X7_copy : ev_K := (cX7_copy, yX7_copy, 2, none)
abbrev B_X7_copy : ev_B := (2, 81, 0, 0)
abbrev K_X0_copyWatch : ev_K := (cX0_copyWatch, yX0_copyWatch, 4, none)
abbrev B_X0_copyWatch : ev_B := (3, 102, 0, 0)
abbrev K_X0_keep : ev_K := (cX0_keep, yX0_keep, 4, none)
abbrev B_X0_keep : ev_B := (5, 126, 0, 0)
abbrev K_X0_copy : ev_K := (cX0_copy, yX0_copy, 3, none)
abbrev B_X0_copy : ev_B := (5, 126, 0, 0)
abbrev K_X1_clear : ev_K := (cX1_clear, yX1_clear, 2, none)
abbrev B_X1_clear : ev_B := (1, 22, 0, 0)
abbrev K_X1_addStar : ev_K := (cX1_addStar, yX1_addStar, 3, (some .boolean))
abbrev B_X1_addStar : ev_B := (1, 22, 0, 0)
abbrev K_X1_hasStarAt : ev_K := (cX1_hasStarAt, yX1_hasStarAt, 3, (some .boolean))
abbrev B_X1_hasStarAt : ev_B := (1, 21, 0, 0)
abbrev K_X1_slowBy : ev_K := (cX1_slowBy, yX1_slowBy, 2, (some .int))
abbrev B_X1_slowBy : ev_B := (1, 21, 0, 0)
abbrev K_X1_pointed : ev_K := (cX1_pointed, yX1_pointed, 2, (some .int))
abbrev B_X1_pointed : ev_B := (0, 0, 0, 0)
abbrev K_X1_ruled : ev_K := (cX1_ruled, yX1_ruled, 5, (some .int))
abbrev B_X1_ruled : ev_B := (0, 0, 0, 0)
abbrev K_X2_relieve : ev_K := (cX2_relieve, yX2_relieve, 2, none)
abbrev B_X2_relieve : ev_B := (0, 0, 0, 0)
abbrev K_X8_headingAgo : ev_K := (cX8_headingAgo, yX8_headingAgo, 2, (some .int))
abbrev B_X8_headingAgo : ev_B := (1, 21, 0, 0)
abbrev K_X9_within : ev_K := (cX9_within, yX9_within, 2, (some .int))
abbrev B_X9_within : ev_B := (1, 21, 0, 0)
abbrev K_X8_drawn : ev_K := (cX8_drawn, yX8_drawn, 1, (some .int))
abbrev B_X8_drawn : ev_B := (0, 0, 0, 0)
abbrev K_X8_rudderNow : ev_K := (cX8_rudderNow, yX8_rudderNow, 1, (some .int))
abbrev B_X8_rudderNow : ev_B := (1, 21, 0, 0)
abbrev K_X2_wants : ev_K := (cX2_wants, yX2_wants, 6, (some .int))
abbrev B_X2_wants : ev_B := (2, 43, 0, 0)
abbrev K_X3_clear : ev_K := (cX3_clear, yX3_clear, 1, none)
abbrev B_X3_clear : ev_B := (0, 0, 0, 0)
abbrev K_X3_addHeading : ev_K := (cX3_addHeading, yX3_addHeading, 2, (some .boolean))
abbrev B_X3_addHeading : ev_B := (1, 22, 0, 0)
abbrev K_X5_clear : ev_K := (cX5_clear, yX5_clear, 1, none)
abbrev B_X5_clear : ev_B := (1, 22, 0, 0)
abbrev K_X7_clear : ev_K := (cX7_clear, yX7_clear, 1, none)
abbrev B_X7_clear : ev_B := (0, 0, 0, 0)
abbrev K_X6_byteAt : ev_K := (cX6_byteAt, yX6_byteAt, 2, (some .int))
abbrev B_X6_byteAt : ev_B := (0, 0, 0, 0)
abbrev K_X4_kindOf : ev_K := (cX4_kindOf, yX4_kindOf, 1, (some .int))
abbrev B_X4_kindOf : ev_B := (0, 0, 0, 0)
abbrev K_X4_next : ev_K := (cX4_next, yX4_next, 2, none)
abbrev B_X4_next : ev_B := (1, 21, 0, 0)
abbrev K_X4_isWord : ev_K := (cX4_isWord, yX4_isWord, 3, (some .boolean))
abbrev B_X4_isWord : ev_B := (4, 85, 0, 0)
abbrev K_X4_goesOnWithNumber : ev_K := (cX4_goesOnWithNumber, yX4_goesOnWithNumber, 1, (some .boolean))
abbrev B_X4_goesOnWithNumber : ev_B := (0, 0, 0, 0)
abbrev K_X4_note : ev_K := (cX4_note, yX4_note, 4, none)
abbrev B_X4_note : ev_B := (0, 0, 0, 0)
abbrev K_X4_takeNumber : ev_K := (cX4_takeNumber, yX4_takeNumber, 7, (some .boolean))
abbrev B_X4_takeNumber : ev_B := (2, 42, 0, 0)
abbrev K_X5_addSea : ev_K := (cX5_addSea, yX5_addSea, 2, (some .boolean))
abbrev B_X5_addSea : ev_B := (1, 22, 0, 0)
abbrev K_X4_takeSeas : ev_K := (cX4_takeSeas, yX4_takeSeas, 2, (some .boolean))
abbrev B_X4_takeSeas : ev_B := (3, 68, 0, 0)
abbrev K_X4_shipWord : ev_K := (cX4_shipWord, yX4_shipWord, 1, (some .int))
abbrev B_X4_shipWord : ev_B := (5, 107, 0, 0)
abbrev K_X4_takeShipNumber : ev_K := (cX4_takeShipNumber, yX4_takeShipNumber, 2, (some .boolean))
abbrev B_X4_takeShipNumber : ev_B := (3, 68, 0, 0)
abbrev K_X4_takeShipNumbers : ev_K := (cX4_takeShipNumbers, yX4_takeShipNumbers, 2, (some .boolean))
abbrev B_X4_takeShipNumbers : ev_B := (6, 127, 0, 0)
abbrev K_X4_takeStar : ev_K := (cX4_takeStar, yX4_takeStar, 3, (some .boolean))
abbrev B_X4_takeStar : ev_B := (3, 68, 0, 0)
abbrev K_X4_handWord : ev_K := (cX4_handWord, yX4_handWord, 1, (some .int))
abbrev B_X4_handWord : ev_B := (5, 107, 0, 0)
abbrev K_X4_takeHandNumber : ev_K := (cX4_takeHandNumber, yX4_takeHandNumber, 2, (some .boolean))
abbrev B_X4_takeHandNumber : ev_B := (6, 127, 0, 0)
abbrev K_X4_takeHeadings : ev_K := (cX4_takeHeadings, yX4_takeHeadings, 2, (some .boolean))
abbrev B_X4_takeHeadings : ev_B := (3, 68, 0, 0)
abbrev K_X7_addMan : ev_K := (cX7_addMan, yX7_addMan, 3, (some .boolean))
abbrev B_X7_addMan : ev_B := (1, 22, 0, 0)
abbrev K_X4_takeMan : ev_K := (cX4_takeMan, yX4_takeMan, 3, (some .boolean))
abbrev B_X4_takeMan : ev_B := (3, 68, 0, 0)
abbrev K_X4_takeLine : ev_K := (cX4_takeLine, yX4_takeLine, 2, (some .boolean))
abbrev B_X4_takeLine : ev_B := (7, 148, 0, 0)
abbrev K_X4_takeSemicolon : ev_K := (cX4_takeSemicolon, yX4_takeSemicolon, 1, (some .boolean))
abbrev B_X4_takeSemicolon : ev_B := (2, 42, 0, 0)
abbrev K_X4_take : ev_K := (cX4_take, yX4_take, 5, none)
abbrev B_X4_take : ev_B := (8, 169, 0, 0)
abbrev K_X5_takeSeas : ev_K := (cX5_takeSeas, yX5_takeSeas, 4, none)
abbrev B_X5_takeSeas : ev_B := (1, 22, 0, 0)
abbrev K_X5_seaOf : ev_K := (cX5_seaOf, yX5_seaOf, 2, (some .int))
abbrev B_X5_seaOf : ev_B := (1, 21, 0, 0)
abbrev K_X6_addByte : ev_K := (cX6_addByte, yX6_addByte, 2, none)
abbrev B_X6_addByte : ev_B := (0, 0, 0, 0)
abbrev K_X6_addWord : ev_K := (cX6_addWord, yX6_addWord, 2, none)
abbrev B_X6_addWord : ev_B := (1, 21, 0, 0)
abbrev K_X8_begin : ev_K := (cX8_begin, yX8_begin, 3, none)
abbrev B_X8_begin : ev_B := (1, 22, 0, 0)
abbrev K_X8_move : ev_K := (cX8_move, yX8_move, 5, none)
abbrev B_X8_move : ev_B := (2, 42, 0, 0)
abbrev K_X8_steer : ev_K := (cX8_steer, yX8_steer, 4, none)
abbrev B_X8_steer : ev_B := (3, 68, 0, 0)
abbrev K_X8_sail : ev_K := (cX8_sail, yX8_sail, 5, none)
abbrev B_X8_sail : ev_B := (4, 91, 0, 0)
abbrev K_X8_steerTogether : ev_K := (cX8_steerTogether, yX8_steerTogether, 6, none)
abbrev B_X8_steerTogether : ev_B := (3, 68, 0, 0)
abbrev K_X8_offAt : ev_K := (cX8_offAt, yX8_offAt, 2, (some .int))
abbrev B_X8_offAt : ev_B := (1, 21, 0, 0)
abbrev K_X8_turnedAt : ev_K := (cX8_turnedAt, yX8_turnedAt, 2, (some .int))
abbrev B_X8_turnedAt : ev_B := (1, 21, 0, 0)
abbrev K_X8_costAt : ev_K := (cX8_costAt, yX8_costAt, 2, (some .long))
abbrev B_X8_costAt : ev_B := (2, 42, 0, 0)
abbrev K_X8_cost : ev_K := (cX8_cost, yX8_cost, 4, (some .long))
abbrev B_X8_cost : ev_B := (3, 63, 0, 0)
abbrev K_X8_off : ev_K := (cX8_off, yX8_off, 4, (some .long))
abbrev B_X8_off : ev_B := (2, 42, 0, 0)
abbrev K_X8_wear : ev_K := (cX8_wear, yX8_wear, 4, (some .long))
abbrev B_X8_wear : ev_B := (2, 42, 0, 0)
abbrev K_X8_lost : ev_K := (cX8_lost, yX8_lost, 4, (some .long))
abbrev B_X8_lost : ev_B := (2, 42, 0, 0)
abbrev K_X8_widest : ev_K := (cX8_widest, yX8_widest, 3, (some .long))
abbrev B_X8_widest : ev_B := (2, 42, 0, 0)
abbrev K_X8_drift : ev_K := (cX8_drift, yX8_drift, 4, (some .long))
abbrev B_X8_drift : ev_B := (1, 21, 0, 0)
abbrev K_J6_compare_7cf53 : ev_K := (cJ6_compare_7cf53, yJ6_compare_7cf53, 2, (some .int))
abbrev B_J6_compare_7cf53 : ev_B := (0, 0, 0, 0)
abbrev K_X8_signAt : ev_K := (cX8_signAt, yX8_signAt, 2, (some .int))
abbrev B_X8_signAt : ev_B := (1, 21, 0, 0)
abbrev K_X8_crossings : ev_K := (cX8_crossings, yX8_crossings, 4, (some .long))
abbrev B_X8_crossings : ev_B := (2, 42, 0, 0)
abbrev K_X8_peakAt : ev_K := (cX8_peakAt, yX8_peakAt, 6, (some .int))
abbrev B_X8_peakAt : ev_B := (2, 42, 0, 0)
abbrev K_X8_grows : ev_K := (cX8_grows, yX8_grows, 2, (some .boolean))
abbrev B_X8_grows : ev_B := (3, 67, 0, 0)
abbrev K_X8_spokes : ev_K := (cX8_spokes, yX8_spokes, 3, (some .long))
abbrev B_X8_spokes : ev_B := (2, 42, 0, 0)
abbrev K_X8_waits : ev_K := (cX8_waits, yX8_waits, 4, (some .long))
abbrev B_X8_waits : ev_B := (2, 42, 0, 0)
abbrev K_X8_tally : ev_K := (cX8_tally, yX8_tally, 2, (some .long))
abbrev B_X8_tally : ev_B := (4, 88, 0, 0)
abbrev K_X8_earliestBeyond : ev_K := (cX8_earliestBeyond, yX8_earliestBeyond, 3, (some .int))
abbrev B_X8_earliestBeyond : ev_B := (2, 42, 0, 0)
abbrev K_X8_latestBeyond : ev_K := (cX8_latestBeyond, yX8_latestBeyond, 3, (some .int))
abbrev B_X8_latestBeyond : ev_B := (2, 42, 0, 0)
abbrev K_X8_dearest : ev_K := (cX8_dearest, yX8_dearest, 3, (some .int))
abbrev B_X8_dearest : ev_B := (3, 63, 0, 0)
abbrev K_X8_halfway : ev_K := (cX8_halfway, yX8_halfway, 6, (some .int))
abbrev B_X8_halfway : ev_B := (4, 86, 0, 0)
abbrev K_X8_apartFrom : ev_K := (cX8_apartFrom, yX8_apartFrom, 4, (some .int))
abbrev B_X8_apartFrom : ev_B := (1, 21, 0, 0)
abbrev K_X8_alikeTo : ev_K := (cX8_alikeTo, yX8_alikeTo, 3, (some .int))
abbrev B_X8_alikeTo : ev_B := (1, 21, 0, 0)
abbrev K_X9_feed : ev_K := (cX9_feed, yX9_feed, 7, (some .int))
abbrev B_X9_feed : ev_B := (2, 42, 0, 0)
abbrev K_X9_end : ev_K := (cX9_end, yX9_end, 2, (some .int))
abbrev B_X9_end : ev_B := (0, 0, 0, 0)
abbrev K_X9_text : ev_K := (cX9_text, yX9_text, 4, (some .int))
abbrev B_X9_text : ev_B := (9, 193, 0, 0)
abbrev K_X9_fault : ev_K := (cX9_fault, yX9_fault, 2, (some .int))
abbrev B_X9_fault : ev_B := (0, 0, 0, 0)
abbrev K_X9_ship : ev_K := (cX9_ship, yX9_ship, 4, (some .int))
abbrev B_X9_ship : ev_B := (2, 42, 0, 0)
abbrev K_X9_hand : ev_K := (cX9_hand, yX9_hand, 4, (some .int))
abbrev B_X9_hand : ev_B := (3, 63, 0, 0)
abbrev K_X9_paper : ev_K := (cX9_paper, yX9_paper, 4, (some .int))
abbrev B_X9_paper : ev_B := (1, 21, 0, 0)
abbrev K_X9_watch : ev_K := (cX9_watch, yX9_watch, 5, (some .int))
abbrev B_X9_watch : ev_B := (1, 21, 0, 0)
abbrev K_X9_sailed : ev_K := (cX9_sailed, yX9_sailed, 7, (some .boolean))
abbrev B_X9_sailed : ev_B := (5, 115, 0, 0)
abbrev K_X9_second : ev_K := (cX9_second, yX9_second, 6, (some .int))
abbrev B_X9_second : ev_B := (6, 141, 0, 0)
abbrev K_X9_run : ev_K := (cX9_run, yX9_run, 6, (some .long))
abbrev B_X9_run : ev_B := (6, 141, 0, 0)
abbrev K_X9_peak : ev_K := (cX9_peak, yX9_peak, 6, (some .int))
abbrev B_X9_peak : ev_B := (6, 141, 0, 0)
abbrev K_X9_isTrial : ev_K := (cX9_isTrial, yX9_isTrial, 1, (some .boolean))
abbrev B_X9_isTrial : ev_B := (0, 0, 0, 0)
abbrev K_X9_ready : ev_K := (cX9_ready, yX9_ready, 6, (some .boolean))
abbrev B_X9_ready : ev_B := (4, 103, 0, 0)
abbrev K_X9_trialCost : ev_K := (cX9_trialCost, yX9_trialCost, 2, (some .long))
abbrev B_X9_trialCost : ev_B := (5, 115, 0, 0)
abbrev K_X9_trialApart : ev_K := (cX9_trialApart, yX9_trialApart, 2, (some .int))
abbrev B_X9_trialApart : ev_B := (5, 115, 0, 0)
abbrev K_X9_leastRule : ev_K := (cX9_leastRule, yX9_leastRule, 14, (some .long))
abbrev B_X9_leastRule : ev_B := (6, 136, 0, 0)
abbrev K_X9_found : ev_K := (cX9_found, yX9_found, 7, (some .long))
abbrev B_X9_found : ev_B := (7, 169, 0, 0)
abbrev K_X9_costWith : ev_K := (cX9_costWith, yX9_costWith, 4, (some .long))
abbrev B_X9_costWith : ev_B := (5, 115, 0, 0)
abbrev K_X9_iron : ev_K := (cX9_iron, yX9_iron, 11, (some .long))
abbrev B_X9_iron : ev_B := (6, 138, 0, 0)
abbrev K_X9_lagged : ev_K := (cX9_lagged, yX9_lagged, 5, (some .boolean))
abbrev B_X9_lagged : ev_B := (5, 128, 0, 0)
abbrev K_X9_growsWith : ev_K := (cX9_growsWith, yX9_growsWith, 4, (some .boolean))
abbrev B_X9_growsWith : ev_B := (5, 115, 0, 0)
abbrev K_X9_line : ev_K := (cX9_line, yX9_line, 6, (some .int))
abbrev B_X9_line : ev_B := (6, 152, 0, 0)
abbrev K_X9_alone : ev_K := (cX9_alone, yX9_alone, 6, (some .int))
abbrev B_X9_alone : ev_B := (5, 115, 0, 0)
abbrev K_X9_trialWidest : ev_K := (cX9_trialWidest, yX9_trialWidest, 2, (some .long))
abbrev B_X9_trialWidest : ev_B := (5, 115, 0, 0)
abbrev K_X9_hard : ev_K := (cX9_hard, yX9_hard, 7, (some .int))
abbrev B_X9_hard : ev_B := (6, 136, 0, 0)
abbrev K_X9_set : ev_K := (cX9_set, yX9_set, 11, (some .int))
abbrev B_X9_set : ev_B := (5, 128, 0, 0)
abbrev K_X9_worth : ev_K := (cX9_worth, yX9_worth, 7, (some .long))
abbrev B_X9_worth : ev_B := (6, 138, 0, 0)
abbrev K_X9_night : ev_K := (cX9_night, yX9_night, 5, (some .long))
abbrev B_X9_night : ev_B := (6, 138, 0, 0)
abbrev K_X9_cloud : ev_K := (cX9_cloud, yX9_cloud, 6, (some .int))
abbrev B_X9_cloud : ev_B := (6, 136, 0, 0)
abbrev K_X9_coarse : ev_K := (cX9_coarse, yX9_coarse, 9, (some .int))
abbrev B_X9_coarse : ev_B := (6, 138, 0, 0)
abbrev K_X9_weary : ev_K := (cX9_weary, yX9_weary, 7, (some .int))
abbrev B_X9_weary : ev_B := (5, 128, 0, 0)
abbrev K_X9_leastOfThree : ev_K := (cX9_leastOfThree, yX9_leastOfThree, 10, (some .int))
abbrev B_X9_leastOfThree : ev_B := (6, 138, 0, 0)
abbrev K_X9_tries : ev_K := (cX9_tries, yX9_tries, 9, (some .long))
abbrev B_X9_tries : ev_B := (7, 167, 0, 0)
abbrev K_X9_learnt : ev_K := (cX9_learnt, yX9_learnt, 8, (some .int))
abbrev B_X9_learnt : ev_B := (6, 138, 0, 0)
abbrev K_X9_learning : ev_K := (cX9_learning, yX9_learning, 7, (some .int))
abbrev B_X9_learning : ev_B := (7, 165, 0, 0)
abbrev K_X9_isManned : ev_K := (cX9_isManned, yX9_isManned, 3, (some .boolean))
abbrev B_X9_isManned : ev_B := (1, 21, 0, 0)
abbrev K_X9_steers : ev_K := (cX9_steers, yX9_steers, 8, (some .long))
abbrev B_X9_steers : ev_B := (4, 91, 0, 0)
abbrev K_X9_sailChanged : ev_K := (cX9_sailChanged, yX9_sailChanged, 6, none)
abbrev B_X9_sailChanged : ev_B := (4, 91, 0, 0)
abbrev K_X9_change : ev_K := (cX9_change, yX9_change, 12, (some .int))
abbrev B_X9_change : ev_B := (5, 116, 0, 0)
abbrev K_J6_bitCount_0f7a4 : ev_K := (cJ6_bitCount_0f7a4, yJ6_bitCount_0f7a4, 1, (some .int))
abbrev B_J6_bitCount_0f7a4 : ev_B := (0, 0, 0, 0)
abbrev K_X9_handIn : ev_K := (cX9_handIn, yX9_handIn, 3, (some .int))
abbrev B_X9_handIn : ev_B := (0, 0, 0, 0)
abbrev K_X9_handsOf : ev_K := (cX9_handsOf, yX9_handsOf, 4, (some .int))
abbrev B_X9_handsOf : ev_B := (1, 22, 0, 0)
abbrev K_X9_costInTurns : ev_K := (cX9_costInTurns, yX9_costInTurns, 8, (some .long))
abbrev B_X9_costInTurns : ev_B := (4, 91, 0, 0)
abbrev K_X9_order : ev_K := (cX9_order, yX9_order, 14, (some .int))
abbrev B_X9_order : ev_B := (5, 118, 0, 0)
abbrev K_X9_both : ev_K := (cX9_both, yX9_both, 9, (some .long))
abbrev B_X9_both : ev_B := (4, 93, 0, 0)
abbrev K_X9_apart : ev_K := (cX9_apart, yX9_apart, 6, (some .int))
abbrev B_X9_apart : ev_B := (5, 128, 0, 0)
abbrev K_X9_whose : ev_K := (cX9_whose, yX9_whose, 8, (some .int))
abbrev B_X9_whose : ev_B := (6, 136, 0, 0)
abbrev K_X9_tells : ev_K := (cX9_tells, yX9_tells, 9, (some .int))
abbrev B_X9_tells : ev_B := (6, 136, 0, 0)
abbrev K_X9_slipped : ev_K := (cX9_slipped, yX9_slipped, 15, (some .long))
abbrev B_X9_slipped : ev_B := (5, 128, 0, 0)
abbrev K_X9_lead : ev_K := (cX9_lead, yX9_lead, 6, (some .int))
abbrev B_X9_lead : ev_B := (6, 152, 0, 0)
abbrev K_X9_deadest : ev_K := (cX9_deadest, yX9_deadest, 4, (some .int))
abbrev B_X9_deadest : ev_B := (6, 136, 0, 0)
abbrev K_X9_leastGear : ev_K := (cX9_leastGear, yX9_leastGear, 5, (some .int))
abbrev B_X9_leastGear : ev_B := (6, 136, 0, 0)
abbrev K_X9_bound : ev_K := (cX9_bound, yX9_bound, 6, (some .int))
abbrev B_X9_bound : ev_B := (7, 160, 0, 0)
abbrev K_X9_first : ev_K := (cX9_first, yX9_first, 5, (some .int))
abbrev B_X9_first : ev_B := (5, 128, 0, 0)
abbrev K_X9_better : ev_K := (cX9_better, yX9_better, 9, (some .int))
abbrev B_X9_better : ev_B := (6, 136, 0, 0)
abbrev K_X9_reads : ev_K := (cX9_reads, yX9_reads, 8, (some .int))
abbrev B_X9_reads : ev_B := (7, 169, 0, 0)
abbrev K_X9_parted : ev_K := (cX9_parted, yX9_parted, 13, (some .int))
abbrev B_X9_parted : ev_B := (5, 116, 0, 0)
abbrev K_X9_count : ev_K := (cX9_count, yX9_count, 2, (some .int))
abbrev B_X9_count : ev_B := (1, 21, 0, 0)
abbrev K_X9_image : ev_K := (cX9_image, yX9_image, 2, (some .boolean))
abbrev B_X9_image : ev_B := (6, 148, 0, 0)
abbrev K_X9_again : ev_K := (cX9_again, yX9_again, 2, (some .boolean))
abbrev B_X9_again : ev_B := (6, 148, 0, 0)
abbrev K_X10_in : ev_K := (cX10_in, yX10_in, 3, (some .boolean))
abbrev B_X10_in : ev_B := (0, 0, 0, 0)
abbrev K_X10_has : ev_K := (cX10_has, yX10_has, 2, (some .boolean))
abbrev B_X10_has : ev_B := (0, 0, 0, 0)
abbrev K_X10_plain : ev_K := (cX10_plain, yX10_plain, 1, (some .int))
abbrev B_X10_plain : ev_B := (0, 0, 0, 0)
abbrev K_X10_within : ev_K := (cX10_within, yX10_within, 2, (some .int))
abbrev B_X10_within : ev_B := (0, 0, 0, 0)
abbrev K_X10_copyAll : ev_K := (cX10_copyAll, yX10_copyAll, 4, none)
abbrev B_X10_copyAll : ev_B := (1, 24, 0, 0)
abbrev K_X10_mostOf : ev_K := (cX10_mostOf, yX10_mostOf, 1, (some .int))
abbrev B_X10_mostOf : ev_B := (0, 0, 0, 0)
abbrev K_X10_is : ev_K := (cX10_is, yX10_is, 3, (some .boolean))
abbrev B_X10_is : ev_B := (1, 22, 0, 0)
abbrev K_X10_four : ev_K := (cX10_four, yX10_four, 3, none)
abbrev B_X10_four : ev_B := (0, 0, 0, 0)
abbrev K_X10_feed : ev_K := (cX10_feed, yX10_feed, 6, (some .int))
abbrev B_X10_feed : ev_B := (1, 22, 0, 0)
abbrev K_X10_end : ev_K := (cX10_end, yX10_end, 2, (some .int))
abbrev B_X10_end : ev_B := (1, 22, 0, 0)
abbrev K_X10_see : ev_K := (cX10_see, yX10_see, 1, (some .int))
abbrev B_X10_see : ev_B := (0, 0, 0, 0)
abbrev K_X10_token : ev_K := (cX10_token, yX10_token, 3, none)
abbrev B_X10_token : ev_B := (1, 22, 0, 0)
abbrev K_X10_stops : ev_K := (cX10_stops, yX10_stops, 1, (some .boolean))
abbrev B_X10_stops : ev_B := (0, 0, 0, 0)
abbrev K_X10_later : ev_K := (cX10_later, yX10_later, 3, none)
abbrev B_X10_later : ev_B := (0, 0, 0, 0)
abbrev K_X10_number : ev_K := (cX10_number, yX10_number, 3, (some .boolean))
abbrev B_X10_number : ev_B := (2, 44, 0, 0)
abbrev K_X10_signed : ev_K := (cX10_signed, yX10_signed, 4, (some .boolean))
abbrev B_X10_signed : ev_B := (3, 66, 0, 0)
abbrev K_X10_into : ev_K := (cX10_into, yX10_into, 5, (some .boolean))
abbrev B_X10_into : ev_B := (3, 66, 0, 0)
abbrev K_X10_signedInto : ev_K := (cX10_signedInto, yX10_signedInto, 4, (some .boolean))
abbrev B_X10_signedInto : ev_B := (4, 89, 0, 0)
abbrev K_X10_list : ev_K := (cX10_list, yX10_list, 5, (some .boolean))
abbrev B_X10_list : ev_B := (4, 89, 0, 0)
abbrev K_X10_shipLine : ev_K := (cX10_shipLine, yX10_shipLine, 4, (some .boolean))
abbrev B_X10_shipLine : ev_B := (5, 113, 0, 0)
abbrev K_X10_handLine : ev_K := (cX10_handLine, yX10_handLine, 6, (some .boolean))
abbrev B_X10_handLine : ev_B := (4, 90, 0, 0)
abbrev K_X10_paperLine : ev_K := (cX10_paperLine, yX10_paperLine, 3, (some .boolean))
abbrev B_X10_paperLine : ev_B := (5, 113, 0, 0)
abbrev K_X10_watchLine : ev_K := (cX10_watchLine, yX10_watchLine, 6, (some .boolean))
abbrev B_X10_watchLine : ev_B := (3, 66, 0, 0)
abbrev K_X10_clear : ev_K := (cX10_clear, yX10_clear, 3, none)
abbrev B_X10_clear : ev_B := (0, 0, 0, 0)
abbrev K_X10_readText : ev_K := (cX10_readText, yX10_readText, 6, (some .boolean))
abbrev B_X10_readText : ev_B := (6, 136, 0, 0)
abbrev K_X10_store : ev_K := (cX10_store, yX10_store, 4, none)
abbrev B_X10_store : ev_B := (0, 0, 0, 0)
abbrev K_X10_text : ev_K := (cX10_text, yX10_text, 4, (some .int))
abbrev B_X10_text : ev_B := (7, 161, 0, 0)
abbrev K_X10_fault : ev_K := (cX10_fault, yX10_fault, 2, (some .int))
abbrev B_X10_fault : ev_B := (0, 0, 0, 0)
abbrev K_X10_ship : ev_K := (cX10_ship, yX10_ship, 3, (some .int))
abbrev B_X10_ship : ev_B := (2, 44, 0, 0)
abbrev K_X10_hand : ev_K := (cX10_hand, yX10_hand, 4, (some .int))
abbrev B_X10_hand : ev_B := (2, 44, 0, 0)
abbrev K_X10_paper : ev_K := (cX10_paper, yX10_paper, 3, (some .int))
abbrev B_X10_paper : ev_B := (2, 44, 0, 0)
abbrev K_X10_watch : ev_K := (cX10_watch, yX10_watch, 4, (some .int))
abbrev B_X10_watch : ev_B := (2, 44, 0, 0)
abbrev K_X10_layShip : ev_K := (cX10_layShip, yX10_layShip, 3, none)
abbrev B_X10_layShip : ev_B := (0, 0, 0, 0)
abbrev K_X10_layHand : ev_K := (cX10_layHand, yX10_layHand, 4, none)
abbrev B_X10_layHand : ev_B := (0, 0, 0, 0)
abbrev K_X10_of : ev_K := (cX10_of, yX10_of, 3, (some .int))
abbrev B_X10_of : ev_B := (0, 0, 0, 0)
abbrev K_X10_draw : ev_K := (cX10_draw, yX10_draw, 2, (some .int))
abbrev B_X10_draw : ev_B := (0, 0, 0, 0)
abbrev K_X10_signOf : ev_K := (cX10_signOf, yX10_signOf, 1, (some .int))
abbrev B_X10_signOf : ev_B := (0, 0, 0, 0)
abbrev K_X10_begin : ev_K := (cX10_begin, yX10_begin, 2, none)
abbrev B_X10_begin : ev_B := (1, 20, 0, 0)
abbrev K_X10_takes : ev_K := (cX10_takes, yX10_takes, 2, none)
abbrev B_X10_takes : ev_B := (0, 0, 0, 0)
abbrev K_X10_isStar : ev_K := (cX10_isStar, yX10_isStar, 4, (some .boolean))
abbrev B_X10_isStar : ev_B := (1, 22, 0, 0)
abbrev K_X10_sees : ev_K := (cX10_sees, yX10_sees, 6, (some .int))
abbrev B_X10_sees : ev_B := (2, 45, 0, 0)
abbrev K_X10_wants : ev_K := (cX10_wants, yX10_wants, 6, (some .int))
abbrev B_X10_wants : ev_B := (3, 70, 0, 0)
abbrev K_X10_tally : ev_K := (cX10_tally, yX10_tally, 4, none)
abbrev B_X10_tally : ev_B := (1, 20, 0, 0)
abbrev K_X10_pass : ev_K := (cX10_pass, yX10_pass, 8, none)
abbrev B_X10_pass : ev_B := (2, 43, 0, 0)
abbrev K_X10_steer : ev_K := (cX10_steer, yX10_steer, 5, none)
abbrev B_X10_steer : ev_B := (4, 95, 0, 0)
abbrev K_X10_runBy : ev_K := (cX10_runBy, yX10_runBy, 5, none)
abbrev B_X10_runBy : ev_B := (5, 119, 0, 0)
abbrev K_X10_cost : ev_K := (cX10_cost, yX10_cost, 1, (some .long))
abbrev B_X10_cost : ev_B := (0, 0, 0, 0)
abbrev K_X10_costBy : ev_K := (cX10_costBy, yX10_costBy, 2, (some .long))
abbrev B_X10_costBy : ev_B := (6, 143, 0, 0)
abbrev K_X10_grows : ev_K := (cX10_grows, yX10_grows, 1, (some .boolean))
abbrev B_X10_grows : ev_B := (0, 0, 0, 0)
abbrev K_X10_lay : ev_K := (cX10_lay, yX10_lay, 4, (some .boolean))
abbrev B_X10_lay : ev_B := (2, 44, 0, 0)
abbrev K_X10_second : ev_K := (cX10_second, yX10_second, 6, (some .int))
abbrev B_X10_second : ev_B := (6, 143, 0, 0)
abbrev K_X10_run : ev_K := (cX10_run, yX10_run, 6, (some .long))
abbrev B_X10_run : ev_B := (6, 143, 0, 0)
abbrev K_X10_peak : ev_K := (cX10_peak, yX10_peak, 6, (some .int))
abbrev B_X10_peak : ev_B := (6, 143, 0, 0)
abbrev K_X10_layFor : ev_K := (cX10_layFor, yX10_layFor, 4, (some .boolean))
abbrev B_X10_layFor : ev_B := (3, 67, 0, 0)
abbrev K_X10_put : ev_K := (cX10_put, yX10_put, 3, none)
abbrev B_X10_put : ev_B := (0, 0, 0, 0)
abbrev K_X10_found : ev_K := (cX10_found, yX10_found, 13, (some .long))
abbrev B_X10_found : ev_B := (7, 164, 0, 0)
abbrev K_X10_iron : ev_K := (cX10_iron, yX10_iron, 11, (some .long))
abbrev B_X10_iron : ev_B := (7, 164, 0, 0)
abbrev K_X10_line : ev_K := (cX10_line, yX10_line, 7, (some .int))
abbrev B_X10_line : ev_B := (6, 143, 0, 0)
abbrev K_X10_alone : ev_K := (cX10_alone, yX10_alone, 5, (some .int))
abbrev B_X10_alone : ev_B := (6, 143, 0, 0)
abbrev K_X10_hard : ev_K := (cX10_hard, yX10_hard, 8, (some .int))
abbrev B_X10_hard : ev_B := (6, 143, 0, 0)
abbrev K_X10_set : ev_K := (cX10_set, yX10_set, 11, (some .int))
abbrev B_X10_set : ev_B := (6, 143, 0, 0)
abbrev K_X10_costWith : ev_K := (cX10_costWith, yX10_costWith, 7, (some .long))
abbrev B_X10_costWith : ev_B := (7, 164, 0, 0)
abbrev K_X10_worth : ev_K := (cX10_worth, yX10_worth, 5, (some .long))
abbrev B_X10_worth : ev_B := (8, 190, 0, 0)
abbrev K_X10_night : ev_K := (cX10_night, yX10_night, 5, (some .long))
abbrev B_X10_night : ev_B := (8, 190, 0, 0)
abbrev K_X10_cloud : ev_K := (cX10_cloud, yX10_cloud, 7, (some .int))
abbrev B_X10_cloud : ev_B := (6, 143, 0, 0)
abbrev K_X10_coarse : ev_K := (cX10_coarse, yX10_coarse, 9, (some .int))
abbrev B_X10_coarse : ev_B := (8, 190, 0, 0)
abbrev K_X10_weary : ev_K := (cX10_weary, yX10_weary, 10, (some .int))
abbrev B_X10_weary : ev_B := (6, 143, 0, 0)
abbrev K_X10_third : ev_K := (cX10_third, yX10_third, 10, (some .int))
abbrev B_X10_third : ev_B := (8, 190, 0, 0)
abbrev K_X10_tries : ev_K := (cX10_tries, yX10_tries, 11, (some .long))
abbrev B_X10_tries : ev_B := (9, 219, 0, 0)
abbrev K_X10_learning : ev_K := (cX10_learning, yX10_learning, 13, (some .int))
abbrev B_X10_learning : ev_B := (8, 190, 0, 0)
abbrev K_X10_steers : ev_K := (cX10_steers, yX10_steers, 7, (some .long))
abbrev B_X10_steers : ev_B := (5, 119, 0, 0)
abbrev K_X10_change : ev_K := (cX10_change, yX10_change, 9, (some .int))
abbrev B_X10_change : ev_B := (5, 119, 0, 0)
abbrev K_X10_isOrder : ev_K := (cX10_isOrder, yX10_isOrder, 8, (some .boolean))
abbrev B_X10_isOrder : ev_B := (0, 0, 0, 0)
abbrev K_X10_order : ev_K := (cX10_order, yX10_order, 11, (some .int))
abbrev B_X10_order : ev_B := (5, 119, 0, 0)
abbrev K_X10_both : ev_K := (cX10_both, yX10_both, 8, (some .long))
abbrev B_X10_both : ev_B := (4, 95, 0, 0)
abbrev K_X10_apartFrom : ev_K := (cX10_apartFrom, yX10_apartFrom, 6, (some .long))
abbrev B_X10_apartFrom : ev_B := (1, 20, 0, 0)
abbrev K_X10_apart : ev_K := (cX10_apart, yX10_apart, 7, (some .int))
abbrev B_X10_apart : ev_B := (6, 143, 0, 0)
abbrev K_X10_whose : ev_K := (cX10_whose, yX10_whose, 8, (some .int))
abbrev B_X10_whose : ev_B := (6, 143, 0, 0)
abbrev K_X10_tells : ev_K := (cX10_tells, yX10_tells, 8, (some .int))
abbrev B_X10_tells : ev_B := (6, 143, 0, 0)
abbrev K_X10_slipped : ev_K := (cX10_slipped, yX10_slipped, 13, (some .long))
abbrev B_X10_slipped : ev_B := (6, 143, 0, 0)
abbrev K_X10_lead : ev_K := (cX10_lead, yX10_lead, 6, (some .int))
abbrev B_X10_lead : ev_B := (6, 143, 0, 0)
abbrev K_X10_bound : ev_K := (cX10_bound, yX10_bound, 8, (some .int))
abbrev B_X10_bound : ev_B := (6, 143, 0, 0)
abbrev K_X10_costOf : ev_K := (cX10_costOf, yX10_costOf, 2, (some .long))
abbrev B_X10_costOf : ev_B := (1, 20, 0, 0)
abbrev K_X10_first : ev_K := (cX10_first, yX10_first, 11, (some .int))
abbrev B_X10_first : ev_B := (6, 143, 0, 0)
abbrev K_X10_better : ev_K := (cX10_better, yX10_better, 9, (some .int))
abbrev B_X10_better : ev_B := (7, 164, 0, 0)
abbrev K_X10_reads : ev_K := (cX10_reads, yX10_reads, 11, (some .int))
abbrev B_X10_reads : ev_B := (6, 143, 0, 0)
abbrev K_X10_parted : ev_K := (cX10_parted, yX10_parted, 10, (some .int))
abbrev B_X10_parted : ev_B := (5, 119, 0, 0)
abbrev K_X10_count : ev_K := (cX10_count, yX10_count, 2, (some .int))
abbrev B_X10_count : ev_B := (1, 22, 0, 0)
abbrev K_X10_image : ev_K := (cX10_image, yX10_image, 2, (some .boolean))
abbrev B_X10_image : ev_B := (2, 47, 0, 0)
abbrev K_X10_again : ev_K := (cX10_again, yX10_again, 2, (some .boolean))
abbrev B_X10_again : ev_B := (2, 47, 0, 0)
abbrev K_L_law : ev_K := (code, yL_law, 4, some .boolean)
abbrev B_L_law : ev_B := (13, 504, 600000, 7302250)
theorem wi_J3 : Cond.initialized "jdk/internal/util/Preconditions" ∈ ev_GW := tm_1 (List.mem_of_getElem? (i := 16) rfl) rfl
theorem wc_J3_checkIndex_8e157 : Cond.code yJ3_checkIndex_8e157 cJ3_checkIndex_8e157 3 (some .int) ∈ ev_GW := tm_3 (List.mem_of_getElem? (i := 11) rfl) rfl
theorem ws_J3_checkIndex_8e157 : Cond.static yJ3_checkIndex_8e157 ∈ ev_GW := tm_3 (List.mem_of_getElem? (i := 10) rfl) rfl
theorem mi_J3_checkIndex_8e157 : ev_MS K_J3_checkIndex_8e157 3 := ⟨⟨wi_J3, wc_J3_checkIndex_8e157, ⟨by decide, by decide⟩, by decide +kernel⟩, ws_J3_checkIndex_8e157⟩
theorem wi_J0 : Cond.initialized "java/lang/String" ∈ ev_GW := tm_1 (List.mem_of_getElem? (i := 14) rfl) rfl
theorem wc_J0_checkIndex_df160 : Cond.code yJ0_checkIndex_df160 cJ0_checkIndex_df160 2 none ∈ ev_GW := tm_3 (List.mem_of_getElem? (i := 6) rfl) rfl
theorem ws_J0_checkIndex_df160 : Cond.static yJ0_checkIndex_df160 ∈ ev_GW := tm_3 (List.mem_of_getElem? (i := 5) rfl) rfl
theorem mi_J0_checkIndex_df160 : ev_MS K_J0_checkIndex_df160 2 := ⟨⟨wi_J0, wc_J0_checkIndex_df160, ⟨by decide, by decide⟩, by decide +kernel⟩, ws_J0_checkIndex_df160⟩
theorem wi_J1 : Cond.initialized "java/lang/StringLatin1" ∈ ev_GW := tm_1 (List.mem_of_getElem? (i := 15) rfl) rfl
theorem wc_J1_charAt_3b067 : Cond.code yJ1_charAt_3b067 cJ1_charAt_3b067 2 (some .char) ∈ ev_GW := tm_3 (List.mem_of_getElem? (i := 3) rfl) rfl
theorem ws_J1_charAt_3b067 : Cond.static yJ1_charAt_3b067 ∈ ev_GW := tm_3 (List.mem_of_getElem? (i := 2) rfl) rfl
theorem mi_J1_charAt_3b067 : ev_MS K_J1_charAt_3b067 2 := ⟨⟨wi_J1, wc_J1_charAt_3b067, ⟨by decide, by decide⟩, by decide +kernel⟩, ws_J1_charAt_3b067⟩
theorem wc_J0_isLatin1_aae02 : Cond.code yJ0_isLatin1_aae02 cJ0_isLatin1_aae02 1 (some .boolean) ∈ ev_GW := tm_3 (List.mem_of_getElem? (i := 0) rfl) rfl
theorem wm_J0_isLatin1_aae02 : Cond.instanceMethod yJ0_isLatin1_aae02 ∈ ev_GW := tm_2 (List.mem_of_getElem? (i := 238) rfl) rfl
theorem wv_J0_isLatin1_aae02 : Cond.selects "java/lang/String" yJ0_isLatin1_aae02 yJ0_isLatin1_aae02 ∈ ev_GW := tm_2 (List.mem_of_getElem? (i := 239) rfl) rfl
theorem mi_J0_isLatin1_aae02 : ev_MI K_J0_isLatin1_aae02 0 := ⟨⟨wi_J0, wc_J0_isLatin1_aae02, ⟨by decide, by decide⟩, by decide +kernel⟩, wm_J0_isLatin1_aae02, wv_J0_isLatin1_aae02⟩
theorem wc_J0_coder_7d493 : Cond.code yJ0_coder_7d493 cJ0_coder_7d493 1 (some .byte) ∈ ev_GW := tm_2 (List.mem_of_getElem? (i := 230) rfl) rfl
theorem wm_J0_coder_7d493 : Cond.instanceMethod yJ0_coder_7d493 ∈ ev_GW := tm_2 (List.mem_of_getElem? (i := 228) rfl) rfl
theorem wv_J0_coder_7d493 : Cond.selects "java/lang/String" yJ0_coder_7d493 yJ0_coder_7d493 ∈ ev_GW := tm_2 (List.mem_of_getElem? (i := 229) rfl) rfl
theorem mi_J0_coder_7d493 : ev_MI K_J0_coder_7d493 0 := ⟨⟨wi_J0, wc_J0_coder_7d493, ⟨by decide, by decide⟩, by decide +kernel⟩, wm_J0_coder_7d493, wv_J0_coder_7d493⟩
theorem wc_J0_charAt_5068e : Cond.code yJ0_charAt_5068e cJ0_charAt_5068e 2 (some .char) ∈ ev_GW := tm_2 (List.mem_of_getElem? (i := 236) rfl) rfl
theorem wm_J0_charAt_5068e : Cond.instanceMethod yJ0_charAt_5068e ∈ ev_GW := tm_2 (List.mem_of_getElem? (i := 234) rfl) rfl
theorem wv_J0_charAt_5068e : Cond.selects "java/lang/String" yJ0_charAt_5068e yJ0_charAt_5068e ∈ ev_GW := tm_2 (List.mem_of_getElem? (i := 235) rfl) rfl
theorem mi_J0_charAt_5068e : ev_MI K_J0_charAt_5068e 1 := ⟨⟨wi_J0, wc_J0_charAt_5068e, ⟨by decide, by decide⟩, by decide +kernel⟩, wm_J0_charAt_5068e, wv_J0_charAt_5068e⟩
theorem wc_J0_length_8abf5 : Cond.code yJ0_length_8abf5 cJ0_length_8abf5 1 (some .int) ∈ ev_GW := tm_2 (List.mem_of_getElem? (i := 226) rfl) rfl
theorem wm_J0_length_8abf5 : Cond.instanceMethod yJ0_length_8abf5 ∈ ev_GW := tm_2 (List.mem_of_getElem? (i := 224) rfl) rfl
theorem wv_J0_length_8abf5 : Cond.selects "java/lang/String" yJ0_length_8abf5 yJ0_length_8abf5 ∈ ev_GW := tm_2 (List.mem_of_getElem? (i := 225) rfl) rfl
theorem mi_J0_length_8abf5 : ev_MI K_J0_length_8abf5 0 := ⟨⟨wi_J0, wc_J0_length_8abf5, ⟨by decide, by decide⟩, by decide +kernel⟩, wm_J0_length_8abf5, wv_J0_length_8abf5⟩
theorem wi_X9 : Cond.initialized "HelmHand" ∈ ev_GW := tm_1 (List.mem_of_getElem? (i := 1) rfl) rfl
theorem wc_X9_at : Cond.code yX9_at cX9_at 2 (some .int) ∈ ev_GW := tm_3 (List.mem_of_getElem? (i := 76) rfl) rfl
theorem ws_X9_at : Cond.static yX9_at ∈ ev_GW := tm_3 (List.mem_of_getElem? (i := 75) rfl) rfl
theorem mi_X9_at : ev_MS K_X9_at 2 := ⟨⟨wi_X9, wc_X9_at, ⟨by decide, by decide⟩, by decide +kernel⟩, ws_X9_at⟩
theorem wc_X9_put : Cond.code yX9_put cX9_put 3 none ∈ ev_GW := tm_2 (List.mem_of_getElem? (i := 186) rfl) rfl
theorem ws_X9_put : Cond.static yX9_put ∈ ev_GW := tm_2 (List.mem_of_getElem? (i := 185) rfl) rfl
theorem mi_X9_put : ev_MS K_X9_put 3 := ⟨⟨wi_X9, wc_X9_put, ⟨by decide, by decide⟩, by decide +kernel⟩, ws_X9_put⟩
theorem wc_X9_copyRow : Cond.code yX9_copyRow cX9_copyRow 2 none ∈ ev_GW := tm_3 (List.mem_of_getElem? (i := 167) rfl) rfl
theorem ws_X9_copyRow : Cond.static yX9_copyRow ∈ ev_GW := tm_3 (List.mem_of_getElem? (i := 166) rfl) rfl
theorem mi_X9_copyRow : ev_MS K_X9_copyRow 2 := ⟨⟨wi_X9, wc_X9_copyRow, ⟨by decide, by decide⟩, by decide +kernel⟩, ws_X9_copyRow⟩
theorem wi_X6 : Cond.initialized "HelmHand$Tape" ∈ ev_GW := tm_1 (List.mem_of_getElem? (i := 3) rfl) rfl
theorem wc_X6_copy : Cond.code yX6_copy cX6_copy 2 none ∈ ev_GW := tm_2 (List.mem_of_getElem? (i := 173) rfl) rfl
theorem wm_X6_copy : Cond.instanceMethod yX6_copy ∈ ev_GW := tm_2 (List.mem_of_getElem? (i := 171) rfl) rfl
theorem wv_X6_copy : Cond.selects "HelmHand$Tape" yX6_copy yX6_copy ∈ ev_GW := tm_2 (List.mem_of_getElem? (i := 172) rfl) rfl
theorem mi_X6_copy : ev_MI K_X6_copy 1 := ⟨⟨wi_X6, wc_X6_copy, ⟨by decide, by decide⟩, by decide +kernel⟩, wm_X6_copy, wv_X6_copy⟩
theorem wi_X10 : Cond.initialized "HelmHandModel" ∈ ev_GW := tm_1 (List.mem_of_getElem? (i := 11) rfl) rfl
theorem wc_X10_copyRow : Cond.code yX10_copyRow cX10_copyRow 5 none ∈ ev_GW := tm_7 (List.mem_of_getElem? (i := 225) rfl) rfl
theorem ws_X10_copyRow : Cond.static yX10_copyRow ∈ ev_GW := tm_7 (List.mem_of_getElem? (i := 224) rfl) rfl
theorem mi_X10_copyRow : ev_MS K_X10_copyRow 4 := ⟨⟨wi_X10, wc_X10_copyRow, ⟨by decide, by decide⟩, by decide +kernel⟩, ws_X10_copyRow⟩
theorem wi_X0 : Cond.initialized "HelmHand$Book" ∈ ev_GW := tm_1 (List.mem_of_getElem? (i := 2) rfl) rfl
theorem wc_X0_shipAt : Cond.code yX0_shipAt cX0_shipAt 2 (some (.object "HelmHand$Ship")) ∈ ev_GW := tm_3 (List.mem_of_getElem? (i := 153) rfl) rfl
theorem wm_X0_shipAt : Cond.instanceMethod yX0_shipAt ∈ ev_GW := tm_3 (List.mem_of_getElem? (i := 151) rfl) rfl
theorem wv_X0_shipAt : Cond.selects "HelmHand$Book" yX0_shipAt yX0_shipAt ∈ ev_GW := tm_3 (List.mem_of_getElem? (i := 152) rfl) rfl
theorem mi_X0_shipAt : ev_MI K_X0_shipAt 1 := ⟨⟨wi_X0, wc_X0_shipAt, ⟨by decide, by decide⟩, by decide +kernel⟩, wm_X0_shipAt, wv_X0_shipAt⟩
theorem wc_X0_handAt : Cond.code yX0_handAt cX0_handAt 2 (some (.object "HelmHand$Hand")) ∈ ev_GW := tm_3 (List.mem_of_getElem? (i := 177) rfl) rfl
theorem wm_X0_handAt : Cond.instanceMethod yX0_handAt ∈ ev_GW := tm_3 (List.mem_of_getElem? (i := 175) rfl) rfl
theorem wv_X0_handAt : Cond.selects "HelmHand$Book" yX0_handAt yX0_handAt ∈ ev_GW := tm_3 (List.mem_of_getElem? (i := 176) rfl) rfl
theorem mi_X0_handAt : ev_MI K_X0_handAt 1 := ⟨⟨wi_X0, wc_X0_handAt, ⟨by decide, by decide⟩, by decide +kernel⟩, wm_X0_handAt, wv_X0_handAt⟩
theorem wc_X0_paperAt : Cond.code yX0_paperAt cX0_paperAt 2 (some (.object "HelmHand$Paper")) ∈ ev_GW := tm_3 (List.mem_of_getElem? (i := 199) rfl) rfl
theorem wm_X0_paperAt : Cond.instanceMethod yX0_paperAt ∈ ev_GW := tm_3 (List.mem_of_getElem? (i := 197) rfl) rfl
theorem wv_X0_paperAt : Cond.selects "HelmHand$Book" yX0_paperAt yX0_paperAt ∈ ev_GW := tm_3 (List.mem_of_getElem? (i := 198) rfl) rfl
theorem mi_X0_paperAt : ev_MI K_X0_paperAt 1 := ⟨⟨wi_X0, wc_X0_paperAt, ⟨by decide, by decide⟩, by decide +kernel⟩, wm_X0_paperAt, wv_X0_paperAt⟩
theorem wc_X0_watchAt : Cond.code yX0_watchAt cX0_watchAt 2 (some (.object "HelmHand$Watch")) ∈ ev_GW := tm_3 (List.mem_of_getElem? (i := 212) rfl) rfl
theorem wm_X0_watchAt : Cond.instanceMethod yX0_watchAt ∈ ev_GW := tm_3 (List.mem_of_getElem? (i := 210) rfl) rfl
theorem wv_X0_watchAt : Cond.selects "HelmHand$Book" yX0_watchAt yX0_watchAt ∈ ev_GW := tm_3 (List.mem_of_getElem? (i := 211) rfl) rfl
theorem mi_X0_watchAt : ev_MI K_X0_watchAt 1 := ⟨⟨wi_X0, wc_X0_watchAt, ⟨by decide, by decide⟩, by decide +kernel⟩, wm_X0_watchAt, wv_X0_watchAt⟩
theorem wc_X0_countOf : Cond.code yX0_countOf cX0_countOf 2 (some .int) ∈ ev_GW := tm_2 (List.mem_of_getElem? (i := 165) rfl) rfl
theorem wm_X0_countOf : Cond.instanceMethod yX0_countOf ∈ ev_GW := tm_2 (List.mem_of_getElem? (i := 163) rfl) rfl
theorem wv_X0_countOf : Cond.selects "HelmHand$Book" yX0_countOf yX0_countOf ∈ ev_GW := tm_2 (List.mem_of_getElem? (i := 164) rfl) rfl
theorem mi_X0_countOf : ev_MI K_X0_countOf 1 := ⟨⟨wi_X0, wc_X0_countOf, ⟨by decide, by decide⟩, by decide +kernel⟩, wm_X0_countOf, wv_X0_countOf⟩
theorem wc_X0_placeFor : Cond.code yX0_placeFor cX0_placeFor 5 (some .int) ∈ ev_GW := tm_2 (List.mem_of_getElem? (i := 161) rfl) rfl
theorem wm_X0_placeFor : Cond.instanceMethod yX0_placeFor ∈ ev_GW := tm_2 (List.mem_of_getElem? (i := 159) rfl) rfl
theorem wv_X0_placeFor : Cond.selects "HelmHand$Book" yX0_placeFor yX0_placeFor ∈ ev_GW := tm_2 (List.mem_of_getElem? (i := 160) rfl) rfl
theorem mi_X0_placeFor : ev_MI K_X0_placeFor 2 := ⟨⟨wi_X0, wc_X0_placeFor, ⟨by decide, by decide⟩, by decide +kernel⟩, wm_X0_placeFor, wv_X0_placeFor⟩
theorem wi_X5 : Cond.initialized "HelmHand$Ship" ∈ ev_GW := tm_1 (List.mem_of_getElem? (i := 4) rfl) rfl
theorem wc_X5_look : Cond.code yX5_look cX5_look 2 (some .int) ∈ ev_GW := tm_3 (List.mem_of_getElem? (i := 161) rfl) rfl
theorem wm_X5_look : Cond.instanceMethod yX5_look ∈ ev_GW := tm_3 (List.mem_of_getElem? (i := 159) rfl) rfl
theorem wv_X5_look : Cond.selects "HelmHand$Ship" yX5_look yX5_look ∈ ev_GW := tm_3 (List.mem_of_getElem? (i := 160) rfl) rfl
theorem mi_X5_look : ev_MI K_X5_look 1 := ⟨⟨wi_X5, wc_X5_look, ⟨by decide, by decide⟩, by decide +kernel⟩, wm_X5_look, wv_X5_look⟩
theorem wc_X5_write : Cond.code yX5_write cX5_write 3 none ∈ ev_GW := tm_3 (List.mem_of_getElem? (i := 82) rfl) rfl
theorem wm_X5_write : Cond.instanceMethod yX5_write ∈ ev_GW := tm_3 (List.mem_of_getElem? (i := 80) rfl) rfl
theorem wv_X5_write : Cond.selects "HelmHand$Ship" yX5_write yX5_write ∈ ev_GW := tm_3 (List.mem_of_getElem? (i := 81) rfl) rfl
theorem mi_X5_write : ev_MI K_X5_write 2 := ⟨⟨wi_X5, wc_X5_write, ⟨by decide, by decide⟩, by decide +kernel⟩, wm_X5_write, wv_X5_write⟩
theorem wc_X5_copy : Cond.code yX5_copy cX5_copy 3 none ∈ ev_GW := tm_3 (List.mem_of_getElem? (i := 157) rfl) rfl
theorem wm_X5_copy : Cond.instanceMethod yX5_copy ∈ ev_GW := tm_3 (List.mem_of_getElem? (i := 155) rfl) rfl
theorem wv_X5_copy : Cond.selects "HelmHand$Ship" yX5_copy yX5_copy ∈ ev_GW := tm_3 (List.mem_of_getElem? (i := 156) rfl) rfl
theorem mi_X5_copy : ev_MI K_X5_copy 1 := ⟨⟨wi_X5, wc_X5_copy, ⟨by decide, by decide⟩, by decide +kernel⟩, wm_X5_copy, wv_X5_copy⟩
theorem wc_X0_copyShip : Cond.code yX0_copyShip cX0_copyShip 4 none ∈ ev_GW := tm_3 (List.mem_of_getElem? (i := 149) rfl) rfl
theorem wm_X0_copyShip : Cond.instanceMethod yX0_copyShip ∈ ev_GW := tm_3 (List.mem_of_getElem? (i := 148) rfl) rfl
theorem wv_X0_copyShip : Cond.selects "HelmHand$Book" yX0_copyShip yX0_copyShip ∈ ev_GW := tm_0 (List.mem_of_getElem? (i := 17) rfl) rfl
theorem mi_X0_copyShip : ev_MI K_X0_copyShip 2 := ⟨⟨wi_X0, wc_X0_copyShip, ⟨by decide, by decide⟩, by decide +kernel⟩, wm_X0_copyShip, wv_X0_copyShip⟩
theorem wi_X1 : Cond.initialized "HelmHand$Hand" ∈ ev_GW := tm_1 (List.mem_of_getElem? (i := 5) rfl) rfl
theorem wc_X1_lookStar : Cond.code yX1_lookStar cX1_lookStar 2 (some .int) ∈ ev_GW := tm_3 (List.mem_of_getElem? (i := 189) rfl) rfl
theorem wm_X1_lookStar : Cond.instanceMethod yX1_lookStar ∈ ev_GW := tm_3 (List.mem_of_getElem? (i := 188) rfl) rfl
theorem wv_X1_lookStar : Cond.selects "HelmHand$Hand" yX1_lookStar yX1_lookStar ∈ ev_GW := tm_0 (List.mem_of_getElem? (i := 19) rfl) rfl
theorem mi_X1_lookStar : ev_MI K_X1_lookStar 1 := ⟨⟨wi_X1, wc_X1_lookStar, ⟨by decide, by decide⟩, by decide +kernel⟩, wm_X1_lookStar, wv_X1_lookStar⟩
theorem wc_X1_look : Cond.code yX1_look cX1_look 2 (some .int) ∈ ev_GW := tm_3 (List.mem_of_getElem? (i := 185) rfl) rfl
theorem wm_X1_look : Cond.instanceMethod yX1_look ∈ ev_GW := tm_3 (List.mem_of_getElem? (i := 183) rfl) rfl
theorem wv_X1_look : Cond.selects "HelmHand$Hand" yX1_look yX1_look ∈ ev_GW := tm_3 (List.mem_of_getElem? (i := 184) rfl) rfl
theorem mi_X1_look : ev_MI K_X1_look 1 := ⟨⟨wi_X1, wc_X1_look, ⟨by decide, by decide⟩, by decide +kernel⟩, wm_X1_look, wv_X1_look⟩
theorem wc_X1_write : Cond.code yX1_write cX1_write 3 none ∈ ev_GW := tm_2 (List.mem_of_getElem? (i := 194) rfl) rfl
theorem wm_X1_write : Cond.instanceMethod yX1_write ∈ ev_GW := tm_2 (List.mem_of_getElem? (i := 192) rfl) rfl
theorem wv_X1_write : Cond.selects "HelmHand$Hand" yX1_write yX1_write ∈ ev_GW := tm_2 (List.mem_of_getElem? (i := 193) rfl) rfl
theorem mi_X1_write : ev_MI K_X1_write 2 := ⟨⟨wi_X1, wc_X1_write, ⟨by decide, by decide⟩, by decide +kernel⟩, wm_X1_write, wv_X1_write⟩
theorem wc_X1_copy : Cond.code yX1_copy cX1_copy 3 none ∈ ev_GW := tm_3 (List.mem_of_getElem? (i := 181) rfl) rfl
theorem wm_X1_copy : Cond.instanceMethod yX1_copy ∈ ev_GW := tm_3 (List.mem_of_getElem? (i := 179) rfl) rfl
theorem wv_X1_copy : Cond.selects "HelmHand$Hand" yX1_copy yX1_copy ∈ ev_GW := tm_3 (List.mem_of_getElem? (i := 180) rfl) rfl
theorem mi_X1_copy : ev_MI K_X1_copy 1 := ⟨⟨wi_X1, wc_X1_copy, ⟨by decide, by decide⟩, by decide +kernel⟩, wm_X1_copy, wv_X1_copy⟩
theorem wc_X0_copyHand : Cond.code yX0_copyHand cX0_copyHand 4 none ∈ ev_GW := tm_3 (List.mem_of_getElem? (i := 173) rfl) rfl
theorem wm_X0_copyHand : Cond.instanceMethod yX0_copyHand ∈ ev_GW := tm_3 (List.mem_of_getElem? (i := 172) rfl) rfl
theorem wv_X0_copyHand : Cond.selects "HelmHand$Book" yX0_copyHand yX0_copyHand ∈ ev_GW := tm_0 (List.mem_of_getElem? (i := 18) rfl) rfl
theorem mi_X0_copyHand : ev_MI K_X0_copyHand 2 := ⟨⟨wi_X0, wc_X0_copyHand, ⟨by decide, by decide⟩, by decide +kernel⟩, wm_X0_copyHand, wv_X0_copyHand⟩
theorem wi_X3 : Cond.initialized "HelmHand$Paper" ∈ ev_GW := tm_1 (List.mem_of_getElem? (i := 6) rfl) rfl
theorem wc_X3_copy : Cond.code yX3_copy cX3_copy 2 none ∈ ev_GW := tm_3 (List.mem_of_getElem? (i := 203) rfl) rfl
theorem wm_X3_copy : Cond.instanceMethod yX3_copy ∈ ev_GW := tm_3 (List.mem_of_getElem? (i := 201) rfl) rfl
theorem wv_X3_copy : Cond.selects "HelmHand$Paper" yX3_copy yX3_copy ∈ ev_GW := tm_3 (List.mem_of_getElem? (i := 202) rfl) rfl
theorem mi_X3_copy : ev_MI K_X3_copy 1 := ⟨⟨wi_X3, wc_X3_copy, ⟨by decide, by decide⟩, by decide +kernel⟩, wm_X3_copy, wv_X3_copy⟩
theorem wc_X0_copyPaper : Cond.code yX0_copyPaper cX0_copyPaper 4 none ∈ ev_GW := tm_3 (List.mem_of_getElem? (i := 195) rfl) rfl
theorem wm_X0_copyPaper : Cond.instanceMethod yX0_copyPaper ∈ ev_GW := tm_3 (List.mem_of_getElem? (i := 194) rfl) rfl
theorem wv_X0_copyPaper : Cond.selects "HelmHand$Book" yX0_copyPaper yX0_copyPaper ∈ ev_GW := tm_0 (List.mem_of_getElem? (i := 20) rfl) rfl
theorem mi_X0_copyPaper : ev_MI K_X0_copyPaper 2 := ⟨⟨wi_X0, wc_X0_copyPaper, ⟨by decide, by decide⟩, by decide +kernel⟩, wm_X0_copyPaper, wv_X0_copyPaper⟩
theorem wi_X7 : Cond.initialized "HelmHand$Watch" ∈ ev_GW := tm_1 (List.mem_of_getElem? (i := 7) rfl) rfl
theorem wc_X7_copy : Cond.code yX7_copy cX7_copy 2 none ∈ ev_GW := tm_3 (List.mem_of_getElem? (i := 216) rfl) rfl
theorem wm_X7_copy : Cond.instanceMethod yX7_copy ∈ ev_GW := tm_3 (List.mem_of_getElem? (i := 214) rfl) rfl
theorem wv_X7_copy : Cond.selects "HelmHand$Watch" yX7_copy yX7_copy ∈ ev_GW := tm_3 (List.mem_of_getElem? (i := 215) rfl) rfl
theorem mi_X7_copy : ev_MI K_X7_copy 1 := ⟨⟨wi_X7, wc_X7_copy, ⟨by decide, by decide⟩, by decide +kernel⟩, wm_X7_copy, wv_X7_copy⟩
theorem wc_X0_copyWatch : Cond.code yX0_copyWatch cX0_copyWatch 4 none ∈ ev_GW := tm_3 (List.mem_of_getElem? (i := 208) rfl) rfl
theorem wm_X0_copyWatch : Cond.instanceMethod yX0_copyWatch ∈ ev_GW := tm_3 (List.mem_of_getElem? (i := 207) rfl) rfl
theorem wv_X0_copyWatch : Cond.selects "HelmHand$Book" yX0_copyWatch yX0_copyWatch ∈ ev_GW := tm_0 (List.mem_of_getElem? (i := 21) rfl) rfl
theorem mi_X0_copyWatch : ev_MI K_X0_copyWatch 2 := ⟨⟨wi_X0, wc_X0_copyWatch, ⟨by decide, by decide⟩, by decide +kernel⟩, wm_X0_copyWatch, wv_X0_copyWatch⟩
theorem wc_X0_keep : Cond.code yX0_keep cX0_keep 4 none ∈ ev_GW := tm_3 (List.mem_of_getElem? (i := 142) rfl) rfl
theorem wm_X0_keep : Cond.instanceMethod yX0_keep ∈ ev_GW := tm_3 (List.mem_of_getElem? (i := 140) rfl) rfl
theorem wv_X0_keep : Cond.selects "HelmHand$Book" yX0_keep yX0_keep ∈ ev_GW := tm_3 (List.mem_of_getElem? (i := 141) rfl) rfl
theorem mi_X0_keep : ev_MI K_X0_keep 3 := ⟨⟨wi_X0, wc_X0_keep, ⟨by decide, by decide⟩, by decide +kernel⟩, wm_X0_keep, wv_X0_keep⟩
theorem wc_X0_copy : Cond.code yX0_copy cX0_copy 3 none ∈ ev_GW := tm_5 (List.mem_of_getElem? (i := 173) rfl) rfl
theorem wm_X0_copy : Cond.instanceMethod yX0_copy ∈ ev_GW := tm_5 (List.mem_of_getElem? (i := 171) rfl) rfl
theorem wv_X0_copy : Cond.selects "HelmHand$Book" yX0_copy yX0_copy ∈ ev_GW := tm_5 (List.mem_of_getElem? (i := 172) rfl) rfl
theorem mi_X0_copy : ev_MI K_X0_copy 1 := ⟨⟨wi_X0, wc_X0_copy, ⟨by decide, by decide⟩, by decide +kernel⟩, wm_X0_copy, wv_X0_copy⟩
theorem wc_X1_clear : Cond.code yX1_clear cX1_clear 2 none ∈ ev_GW := tm_2 (List.mem_of_getElem? (i := 190) rfl) rfl
theorem wm_X1_clear : Cond.instanceMethod yX1_clear ∈ ev_GW := tm_2 (List.mem_of_getElem? (i := 188) rfl) rfl
theorem wv_X1_clear : Cond.selects "HelmHand$Hand" yX1_clear yX1_clear ∈ ev_GW := tm_2 (List.mem_of_getElem? (i := 189) rfl) rfl
theorem mi_X1_clear : ev_MI K_X1_clear 0 := ⟨⟨wi_X1, wc_X1_clear, ⟨by decide, by decide⟩, by decide +kernel⟩, wm_X1_clear, wv_X1_clear⟩
theorem wc_X1_addStar : Cond.code yX1_addStar cX1_addStar 3 (some .boolean) ∈ ev_GW := tm_3 (List.mem_of_getElem? (i := 91) rfl) rfl
theorem wm_X1_addStar : Cond.instanceMethod yX1_addStar ∈ ev_GW := tm_3 (List.mem_of_getElem? (i := 89) rfl) rfl
theorem wv_X1_addStar : Cond.selects "HelmHand$Hand" yX1_addStar yX1_addStar ∈ ev_GW := tm_3 (List.mem_of_getElem? (i := 90) rfl) rfl
theorem mi_X1_addStar : ev_MI K_X1_addStar 2 := ⟨⟨wi_X1, wc_X1_addStar, ⟨by decide, by decide⟩, by decide +kernel⟩, wm_X1_addStar, wv_X1_addStar⟩
theorem wc_X1_hasStarAt : Cond.code yX1_hasStarAt cX1_hasStarAt 3 (some .boolean) ∈ ev_GW := tm_4 (List.mem_of_getElem? (i := 38) rfl) rfl
theorem wm_X1_hasStarAt : Cond.instanceMethod yX1_hasStarAt ∈ ev_GW := tm_4 (List.mem_of_getElem? (i := 36) rfl) rfl
theorem wv_X1_hasStarAt : Cond.selects "HelmHand$Hand" yX1_hasStarAt yX1_hasStarAt ∈ ev_GW := tm_4 (List.mem_of_getElem? (i := 37) rfl) rfl
theorem mi_X1_hasStarAt : ev_MI K_X1_hasStarAt 1 := ⟨⟨wi_X1, wc_X1_hasStarAt, ⟨by decide, by decide⟩, by decide +kernel⟩, wm_X1_hasStarAt, wv_X1_hasStarAt⟩
theorem wc_X1_slowBy : Cond.code yX1_slowBy cX1_slowBy 2 (some .int) ∈ ev_GW := tm_4 (List.mem_of_getElem? (i := 42) rfl) rfl
theorem wm_X1_slowBy : Cond.instanceMethod yX1_slowBy ∈ ev_GW := tm_4 (List.mem_of_getElem? (i := 40) rfl) rfl
theorem wv_X1_slowBy : Cond.selects "HelmHand$Hand" yX1_slowBy yX1_slowBy ∈ ev_GW := tm_4 (List.mem_of_getElem? (i := 41) rfl) rfl
theorem mi_X1_slowBy : ev_MI K_X1_slowBy 1 := ⟨⟨wi_X1, wc_X1_slowBy, ⟨by decide, by decide⟩, by decide +kernel⟩, wm_X1_slowBy, wv_X1_slowBy⟩
theorem wc_X1_pointed : Cond.code yX1_pointed cX1_pointed 2 (some .int) ∈ ev_GW := tm_4 (List.mem_of_getElem? (i := 53) rfl) rfl
theorem wm_X1_pointed : Cond.instanceMethod yX1_pointed ∈ ev_GW := tm_4 (List.mem_of_getElem? (i := 51) rfl) rfl
theorem wv_X1_pointed : Cond.selects "HelmHand$Hand" yX1_pointed yX1_pointed ∈ ev_GW := tm_4 (List.mem_of_getElem? (i := 52) rfl) rfl
theorem mi_X1_pointed : ev_MI K_X1_pointed 1 := ⟨⟨wi_X1, wc_X1_pointed, ⟨by decide, by decide⟩, by decide +kernel⟩, wm_X1_pointed, wv_X1_pointed⟩
theorem wc_X1_ruled : Cond.code yX1_ruled cX1_ruled 5 (some .int) ∈ ev_GW := tm_4 (List.mem_of_getElem? (i := 61) rfl) rfl
theorem wm_X1_ruled : Cond.instanceMethod yX1_ruled ∈ ev_GW := tm_4 (List.mem_of_getElem? (i := 59) rfl) rfl
theorem wv_X1_ruled : Cond.selects "HelmHand$Hand" yX1_ruled yX1_ruled ∈ ev_GW := tm_4 (List.mem_of_getElem? (i := 60) rfl) rfl
theorem mi_X1_ruled : ev_MI K_X1_ruled 3 := ⟨⟨wi_X1, wc_X1_ruled, ⟨by decide, by decide⟩, by decide +kernel⟩, wm_X1_ruled, wv_X1_ruled⟩
theorem wi_X2 : Cond.initialized "HelmHand$Mate" ∈ ev_GW := tm_1 (List.mem_of_getElem? (i := 10) rfl) rfl
theorem wc_X2_relieve : Cond.code yX2_relieve cX2_relieve 2 none ∈ ev_GW := tm_4 (List.mem_of_getElem? (i := 30) rfl) rfl
theorem wm_X2_relieve : Cond.instanceMethod yX2_relieve ∈ ev_GW := tm_4 (List.mem_of_getElem? (i := 28) rfl) rfl
theorem wv_X2_relieve : Cond.selects "HelmHand$Mate" yX2_relieve yX2_relieve ∈ ev_GW := tm_4 (List.mem_of_getElem? (i := 29) rfl) rfl
theorem mi_X2_relieve : ev_MI K_X2_relieve 1 := ⟨⟨wi_X2, wc_X2_relieve, ⟨by decide, by decide⟩, by decide +kernel⟩, wm_X2_relieve, wv_X2_relieve⟩
theorem wi_X8 : Cond.initialized "HelmHand$Wheel" ∈ ev_GW := tm_1 (List.mem_of_getElem? (i := 9) rfl) rfl
theorem wc_X8_headingAgo : Cond.code yX8_headingAgo cX8_headingAgo 2 (some .int) ∈ ev_GW := tm_4 (List.mem_of_getElem? (i := 47) rfl) rfl
theorem wm_X8_headingAgo : Cond.instanceMethod yX8_headingAgo ∈ ev_GW := tm_4 (List.mem_of_getElem? (i := 45) rfl) rfl
theorem wv_X8_headingAgo : Cond.selects "HelmHand$Wheel" yX8_headingAgo yX8_headingAgo ∈ ev_GW := tm_4 (List.mem_of_getElem? (i := 46) rfl) rfl
theorem mi_X8_headingAgo : ev_MI K_X8_headingAgo 1 := ⟨⟨wi_X8, wc_X8_headingAgo, ⟨by decide, by decide⟩, by decide +kernel⟩, wm_X8_headingAgo, wv_X8_headingAgo⟩
theorem wc_X9_within : Cond.code yX9_within cX9_within 2 (some .int) ∈ ev_GW := tm_4 (List.mem_of_getElem? (i := 56) rfl) rfl
theorem ws_X9_within : Cond.static yX9_within ∈ ev_GW := tm_4 (List.mem_of_getElem? (i := 55) rfl) rfl
theorem mi_X9_within : ev_MS K_X9_within 2 := ⟨⟨wi_X9, wc_X9_within, ⟨by decide, by decide⟩, by decide +kernel⟩, ws_X9_within⟩
theorem wc_X8_drawn : Cond.code yX8_drawn cX8_drawn 1 (some .int) ∈ ev_GW := tm_4 (List.mem_of_getElem? (i := 65) rfl) rfl
theorem wm_X8_drawn : Cond.instanceMethod yX8_drawn ∈ ev_GW := tm_4 (List.mem_of_getElem? (i := 63) rfl) rfl
theorem wv_X8_drawn : Cond.selects "HelmHand$Wheel" yX8_drawn yX8_drawn ∈ ev_GW := tm_4 (List.mem_of_getElem? (i := 64) rfl) rfl
theorem mi_X8_drawn : ev_MI K_X8_drawn 0 := ⟨⟨wi_X8, wc_X8_drawn, ⟨by decide, by decide⟩, by decide +kernel⟩, wm_X8_drawn, wv_X8_drawn⟩
theorem wc_X8_rudderNow : Cond.code yX8_rudderNow cX8_rudderNow 1 (some .int) ∈ ev_GW := tm_4 (List.mem_of_getElem? (i := 70) rfl) rfl
theorem wm_X8_rudderNow : Cond.instanceMethod yX8_rudderNow ∈ ev_GW := tm_4 (List.mem_of_getElem? (i := 68) rfl) rfl
theorem wv_X8_rudderNow : Cond.selects "HelmHand$Wheel" yX8_rudderNow yX8_rudderNow ∈ ev_GW := tm_4 (List.mem_of_getElem? (i := 69) rfl) rfl
theorem mi_X8_rudderNow : ev_MI K_X8_rudderNow 0 := ⟨⟨wi_X8, wc_X8_rudderNow, ⟨by decide, by decide⟩, by decide +kernel⟩, wm_X8_rudderNow, wv_X8_rudderNow⟩
theorem wc_X2_wants : Cond.code yX2_wants cX2_wants 6 (some .int) ∈ ev_GW := tm_4 (List.mem_of_getElem? (i := 34) rfl) rfl
theorem wm_X2_wants : Cond.instanceMethod yX2_wants ∈ ev_GW := tm_4 (List.mem_of_getElem? (i := 32) rfl) rfl
theorem wv_X2_wants : Cond.selects "HelmHand$Mate" yX2_wants yX2_wants ∈ ev_GW := tm_4 (List.mem_of_getElem? (i := 33) rfl) rfl
theorem mi_X2_wants : ev_MI K_X2_wants 1 := ⟨⟨wi_X2, wc_X2_wants, ⟨by decide, by decide⟩, by decide +kernel⟩, wm_X2_wants, wv_X2_wants⟩
theorem wc_X3_clear : Cond.code yX3_clear cX3_clear 1 none ∈ ev_GW := tm_2 (List.mem_of_getElem? (i := 198) rfl) rfl
theorem wm_X3_clear : Cond.instanceMethod yX3_clear ∈ ev_GW := tm_2 (List.mem_of_getElem? (i := 196) rfl) rfl
theorem wv_X3_clear : Cond.selects "HelmHand$Paper" yX3_clear yX3_clear ∈ ev_GW := tm_2 (List.mem_of_getElem? (i := 197) rfl) rfl
theorem mi_X3_clear : ev_MI K_X3_clear 0 := ⟨⟨wi_X3, wc_X3_clear, ⟨by decide, by decide⟩, by decide +kernel⟩, wm_X3_clear, wv_X3_clear⟩
theorem wc_X3_addHeading : Cond.code yX3_addHeading cX3_addHeading 2 (some .boolean) ∈ ev_GW := tm_3 (List.mem_of_getElem? (i := 123) rfl) rfl
theorem wm_X3_addHeading : Cond.instanceMethod yX3_addHeading ∈ ev_GW := tm_3 (List.mem_of_getElem? (i := 121) rfl) rfl
theorem wv_X3_addHeading : Cond.selects "HelmHand$Paper" yX3_addHeading yX3_addHeading ∈ ev_GW := tm_3 (List.mem_of_getElem? (i := 122) rfl) rfl
theorem mi_X3_addHeading : ev_MI K_X3_addHeading 1 := ⟨⟨wi_X3, wc_X3_addHeading, ⟨by decide, by decide⟩, by decide +kernel⟩, wm_X3_addHeading, wv_X3_addHeading⟩
theorem wc_X5_clear : Cond.code yX5_clear cX5_clear 1 none ∈ ev_GW := tm_2 (List.mem_of_getElem? (i := 183) rfl) rfl
theorem wm_X5_clear : Cond.instanceMethod yX5_clear ∈ ev_GW := tm_2 (List.mem_of_getElem? (i := 181) rfl) rfl
theorem wv_X5_clear : Cond.selects "HelmHand$Ship" yX5_clear yX5_clear ∈ ev_GW := tm_2 (List.mem_of_getElem? (i := 182) rfl) rfl
theorem mi_X5_clear : ev_MI K_X5_clear 0 := ⟨⟨wi_X5, wc_X5_clear, ⟨by decide, by decide⟩, by decide +kernel⟩, wm_X5_clear, wv_X5_clear⟩
theorem wc_X7_clear : Cond.code yX7_clear cX7_clear 1 none ∈ ev_GW := tm_2 (List.mem_of_getElem? (i := 202) rfl) rfl
theorem wm_X7_clear : Cond.instanceMethod yX7_clear ∈ ev_GW := tm_2 (List.mem_of_getElem? (i := 200) rfl) rfl
theorem wv_X7_clear : Cond.selects "HelmHand$Watch" yX7_clear yX7_clear ∈ ev_GW := tm_2 (List.mem_of_getElem? (i := 201) rfl) rfl
theorem mi_X7_clear : ev_MI K_X7_clear 0 := ⟨⟨wi_X7, wc_X7_clear, ⟨by decide, by decide⟩, by decide +kernel⟩, wm_X7_clear, wv_X7_clear⟩
theorem wc_X6_byteAt : Cond.code yX6_byteAt cX6_byteAt 2 (some .int) ∈ ev_GW := tm_2 (List.mem_of_getElem? (i := 210) rfl) rfl
theorem wm_X6_byteAt : Cond.instanceMethod yX6_byteAt ∈ ev_GW := tm_2 (List.mem_of_getElem? (i := 208) rfl) rfl
theorem wv_X6_byteAt : Cond.selects "HelmHand$Tape" yX6_byteAt yX6_byteAt ∈ ev_GW := tm_2 (List.mem_of_getElem? (i := 209) rfl) rfl
theorem mi_X6_byteAt : ev_MI K_X6_byteAt 1 := ⟨⟨wi_X6, wc_X6_byteAt, ⟨by decide, by decide⟩, by decide +kernel⟩, wm_X6_byteAt, wv_X6_byteAt⟩
theorem wi_X4 : Cond.initialized "HelmHand$Reader" ∈ ev_GW := tm_1 (List.mem_of_getElem? (i := 8) rfl) rfl
theorem wc_X4_kindOf : Cond.code yX4_kindOf cX4_kindOf 1 (some .int) ∈ ev_GW := tm_2 (List.mem_of_getElem? (i := 213) rfl) rfl
theorem ws_X4_kindOf : Cond.static yX4_kindOf ∈ ev_GW := tm_2 (List.mem_of_getElem? (i := 212) rfl) rfl
theorem mi_X4_kindOf : ev_MS K_X4_kindOf 1 := ⟨⟨wi_X4, wc_X4_kindOf, ⟨by decide, by decide⟩, by decide +kernel⟩, ws_X4_kindOf⟩
theorem wc_X4_next : Cond.code yX4_next cX4_next 2 none ∈ ev_GW := tm_2 (List.mem_of_getElem? (i := 206) rfl) rfl
theorem wm_X4_next : Cond.instanceMethod yX4_next ∈ ev_GW := tm_2 (List.mem_of_getElem? (i := 205) rfl) rfl
theorem wv_X4_next : Cond.selects "HelmHand$Reader" yX4_next yX4_next ∈ ev_GW := tm_0 (List.mem_of_getElem? (i := 1) rfl) rfl
theorem mi_X4_next : ev_MI K_X4_next 0 := ⟨⟨wi_X4, wc_X4_next, ⟨by decide, by decide⟩, by decide +kernel⟩, wm_X4_next, wv_X4_next⟩
theorem wc_X4_isWord : Cond.code yX4_isWord cX4_isWord 3 (some .boolean) ∈ ev_GW := tm_2 (List.mem_of_getElem? (i := 222) rfl) rfl
theorem wm_X4_isWord : Cond.instanceMethod yX4_isWord ∈ ev_GW := tm_2 (List.mem_of_getElem? (i := 221) rfl) rfl
theorem wv_X4_isWord : Cond.selects "HelmHand$Reader" yX4_isWord yX4_isWord ∈ ev_GW := tm_0 (List.mem_of_getElem? (i := 3) rfl) rfl
theorem mi_X4_isWord : ev_MI K_X4_isWord 1 := ⟨⟨wi_X4, wc_X4_isWord, ⟨by decide, by decide⟩, by decide +kernel⟩, wm_X4_isWord, wv_X4_isWord⟩
theorem wc_X4_goesOnWithNumber : Cond.code yX4_goesOnWithNumber cX4_goesOnWithNumber 1 (some .boolean) ∈ ev_GW := tm_3 (List.mem_of_getElem? (i := 38) rfl) rfl
theorem wm_X4_goesOnWithNumber : Cond.instanceMethod yX4_goesOnWithNumber ∈ ev_GW := tm_3 (List.mem_of_getElem? (i := 37) rfl) rfl
theorem wv_X4_goesOnWithNumber : Cond.selects "HelmHand$Reader" yX4_goesOnWithNumber yX4_goesOnWithNumber ∈ ev_GW := tm_0 (List.mem_of_getElem? (i := 5) rfl) rfl
theorem mi_X4_goesOnWithNumber : ev_MI K_X4_goesOnWithNumber 0 := ⟨⟨wi_X4, wc_X4_goesOnWithNumber, ⟨by decide, by decide⟩, by decide +kernel⟩, wm_X4_goesOnWithNumber, wv_X4_goesOnWithNumber⟩
theorem wc_X4_note : Cond.code yX4_note cX4_note 4 none ∈ ev_GW := tm_3 (List.mem_of_getElem? (i := 46) rfl) rfl
theorem wm_X4_note : Cond.instanceMethod yX4_note ∈ ev_GW := tm_3 (List.mem_of_getElem? (i := 45) rfl) rfl
theorem wv_X4_note : Cond.selects "HelmHand$Reader" yX4_note yX4_note ∈ ev_GW := tm_0 (List.mem_of_getElem? (i := 7) rfl) rfl
theorem mi_X4_note : ev_MI K_X4_note 2 := ⟨⟨wi_X4, wc_X4_note, ⟨by decide, by decide⟩, by decide +kernel⟩, wm_X4_note, wv_X4_note⟩
theorem wc_X4_takeNumber : Cond.code yX4_takeNumber cX4_takeNumber 7 (some .boolean) ∈ ev_GW := tm_3 (List.mem_of_getElem? (i := 42) rfl) rfl
theorem wm_X4_takeNumber : Cond.instanceMethod yX4_takeNumber ∈ ev_GW := tm_3 (List.mem_of_getElem? (i := 41) rfl) rfl
theorem wv_X4_takeNumber : Cond.selects "HelmHand$Reader" yX4_takeNumber yX4_takeNumber ∈ ev_GW := tm_0 (List.mem_of_getElem? (i := 6) rfl) rfl
theorem mi_X4_takeNumber : ev_MI K_X4_takeNumber 3 := ⟨⟨wi_X4, wc_X4_takeNumber, ⟨by decide, by decide⟩, by decide +kernel⟩, wm_X4_takeNumber, wv_X4_takeNumber⟩
theorem wc_X5_addSea : Cond.code yX5_addSea cX5_addSea 2 (some .boolean) ∈ ev_GW := tm_3 (List.mem_of_getElem? (i := 50) rfl) rfl
theorem wm_X5_addSea : Cond.instanceMethod yX5_addSea ∈ ev_GW := tm_3 (List.mem_of_getElem? (i := 48) rfl) rfl
theorem wv_X5_addSea : Cond.selects "HelmHand$Ship" yX5_addSea yX5_addSea ∈ ev_GW := tm_3 (List.mem_of_getElem? (i := 49) rfl) rfl
theorem mi_X5_addSea : ev_MI K_X5_addSea 1 := ⟨⟨wi_X5, wc_X5_addSea, ⟨by decide, by decide⟩, by decide +kernel⟩, wm_X5_addSea, wv_X5_addSea⟩
theorem wc_X4_takeSeas : Cond.code yX4_takeSeas cX4_takeSeas 2 (some .boolean) ∈ ev_GW := tm_3 (List.mem_of_getElem? (i := 34) rfl) rfl
theorem wm_X4_takeSeas : Cond.instanceMethod yX4_takeSeas ∈ ev_GW := tm_3 (List.mem_of_getElem? (i := 33) rfl) rfl
theorem wv_X4_takeSeas : Cond.selects "HelmHand$Reader" yX4_takeSeas yX4_takeSeas ∈ ev_GW := tm_0 (List.mem_of_getElem? (i := 4) rfl) rfl
theorem mi_X4_takeSeas : ev_MI K_X4_takeSeas 0 := ⟨⟨wi_X4, wc_X4_takeSeas, ⟨by decide, by decide⟩, by decide +kernel⟩, wm_X4_takeSeas, wv_X4_takeSeas⟩
theorem wc_X4_shipWord : Cond.code yX4_shipWord cX4_shipWord 1 (some .int) ∈ ev_GW := tm_3 (List.mem_of_getElem? (i := 58) rfl) rfl
theorem wm_X4_shipWord : Cond.instanceMethod yX4_shipWord ∈ ev_GW := tm_3 (List.mem_of_getElem? (i := 57) rfl) rfl
theorem wv_X4_shipWord : Cond.selects "HelmHand$Reader" yX4_shipWord yX4_shipWord ∈ ev_GW := tm_0 (List.mem_of_getElem? (i := 9) rfl) rfl
theorem mi_X4_shipWord : ev_MI K_X4_shipWord 0 := ⟨⟨wi_X4, wc_X4_shipWord, ⟨by decide, by decide⟩, by decide +kernel⟩, wm_X4_shipWord, wv_X4_shipWord⟩
theorem wc_X4_takeShipNumber : Cond.code yX4_takeShipNumber cX4_takeShipNumber 2 (some .boolean) ∈ ev_GW := tm_3 (List.mem_of_getElem? (i := 71) rfl) rfl
theorem wm_X4_takeShipNumber : Cond.instanceMethod yX4_takeShipNumber ∈ ev_GW := tm_3 (List.mem_of_getElem? (i := 70) rfl) rfl
theorem wv_X4_takeShipNumber : Cond.selects "HelmHand$Reader" yX4_takeShipNumber yX4_takeShipNumber ∈ ev_GW := tm_0 (List.mem_of_getElem? (i := 10) rfl) rfl
theorem mi_X4_takeShipNumber : ev_MI K_X4_takeShipNumber 1 := ⟨⟨wi_X4, wc_X4_takeShipNumber, ⟨by decide, by decide⟩, by decide +kernel⟩, wm_X4_takeShipNumber, wv_X4_takeShipNumber⟩
theorem wc_X4_takeShipNumbers : Cond.code yX4_takeShipNumbers cX4_takeShipNumbers 2 (some .boolean) ∈ ev_GW := tm_3 (List.mem_of_getElem? (i := 54) rfl) rfl
theorem wm_X4_takeShipNumbers : Cond.instanceMethod yX4_takeShipNumbers ∈ ev_GW := tm_3 (List.mem_of_getElem? (i := 53) rfl) rfl
theorem wv_X4_takeShipNumbers : Cond.selects "HelmHand$Reader" yX4_takeShipNumbers yX4_takeShipNumbers ∈ ev_GW := tm_0 (List.mem_of_getElem? (i := 8) rfl) rfl
theorem mi_X4_takeShipNumbers : ev_MI K_X4_takeShipNumbers 0 := ⟨⟨wi_X4, wc_X4_takeShipNumbers, ⟨by decide, by decide⟩, by decide +kernel⟩, wm_X4_takeShipNumbers, wv_X4_takeShipNumbers⟩
theorem wc_X4_takeStar : Cond.code yX4_takeStar cX4_takeStar 3 (some .boolean) ∈ ev_GW := tm_3 (List.mem_of_getElem? (i := 87) rfl) rfl
theorem wm_X4_takeStar : Cond.instanceMethod yX4_takeStar ∈ ev_GW := tm_3 (List.mem_of_getElem? (i := 86) rfl) rfl
theorem wv_X4_takeStar : Cond.selects "HelmHand$Reader" yX4_takeStar yX4_takeStar ∈ ev_GW := tm_0 (List.mem_of_getElem? (i := 11) rfl) rfl
theorem mi_X4_takeStar : ev_MI K_X4_takeStar 0 := ⟨⟨wi_X4, wc_X4_takeStar, ⟨by decide, by decide⟩, by decide +kernel⟩, wm_X4_takeStar, wv_X4_takeStar⟩
theorem wc_X4_handWord : Cond.code yX4_handWord cX4_handWord 1 (some .int) ∈ ev_GW := tm_3 (List.mem_of_getElem? (i := 100) rfl) rfl
theorem wm_X4_handWord : Cond.instanceMethod yX4_handWord ∈ ev_GW := tm_3 (List.mem_of_getElem? (i := 99) rfl) rfl
theorem wv_X4_handWord : Cond.selects "HelmHand$Reader" yX4_handWord yX4_handWord ∈ ev_GW := tm_0 (List.mem_of_getElem? (i := 13) rfl) rfl
theorem mi_X4_handWord : ev_MI K_X4_handWord 0 := ⟨⟨wi_X4, wc_X4_handWord, ⟨by decide, by decide⟩, by decide +kernel⟩, wm_X4_handWord, wv_X4_handWord⟩
theorem wc_X4_takeHandNumber : Cond.code yX4_takeHandNumber cX4_takeHandNumber 2 (some .boolean) ∈ ev_GW := tm_3 (List.mem_of_getElem? (i := 96) rfl) rfl
theorem wm_X4_takeHandNumber : Cond.instanceMethod yX4_takeHandNumber ∈ ev_GW := tm_3 (List.mem_of_getElem? (i := 95) rfl) rfl
theorem wv_X4_takeHandNumber : Cond.selects "HelmHand$Reader" yX4_takeHandNumber yX4_takeHandNumber ∈ ev_GW := tm_0 (List.mem_of_getElem? (i := 12) rfl) rfl
theorem mi_X4_takeHandNumber : ev_MI K_X4_takeHandNumber 0 := ⟨⟨wi_X4, wc_X4_takeHandNumber, ⟨by decide, by decide⟩, by decide +kernel⟩, wm_X4_takeHandNumber, wv_X4_takeHandNumber⟩
theorem wc_X4_takeHeadings : Cond.code yX4_takeHeadings cX4_takeHeadings 2 (some .boolean) ∈ ev_GW := tm_3 (List.mem_of_getElem? (i := 119) rfl) rfl
theorem wm_X4_takeHeadings : Cond.instanceMethod yX4_takeHeadings ∈ ev_GW := tm_3 (List.mem_of_getElem? (i := 118) rfl) rfl
theorem wv_X4_takeHeadings : Cond.selects "HelmHand$Reader" yX4_takeHeadings yX4_takeHeadings ∈ ev_GW := tm_0 (List.mem_of_getElem? (i := 14) rfl) rfl
theorem mi_X4_takeHeadings : ev_MI K_X4_takeHeadings 0 := ⟨⟨wi_X4, wc_X4_takeHeadings, ⟨by decide, by decide⟩, by decide +kernel⟩, wm_X4_takeHeadings, wv_X4_takeHeadings⟩
theorem wc_X7_addMan : Cond.code yX7_addMan cX7_addMan 3 (some .boolean) ∈ ev_GW := tm_3 (List.mem_of_getElem? (i := 133) rfl) rfl
theorem wm_X7_addMan : Cond.instanceMethod yX7_addMan ∈ ev_GW := tm_3 (List.mem_of_getElem? (i := 131) rfl) rfl
theorem wv_X7_addMan : Cond.selects "HelmHand$Watch" yX7_addMan yX7_addMan ∈ ev_GW := tm_3 (List.mem_of_getElem? (i := 132) rfl) rfl
theorem mi_X7_addMan : ev_MI K_X7_addMan 2 := ⟨⟨wi_X7, wc_X7_addMan, ⟨by decide, by decide⟩, by decide +kernel⟩, wm_X7_addMan, wv_X7_addMan⟩
theorem wc_X4_takeMan : Cond.code yX4_takeMan cX4_takeMan 3 (some .boolean) ∈ ev_GW := tm_3 (List.mem_of_getElem? (i := 129) rfl) rfl
theorem wm_X4_takeMan : Cond.instanceMethod yX4_takeMan ∈ ev_GW := tm_3 (List.mem_of_getElem? (i := 128) rfl) rfl
theorem wv_X4_takeMan : Cond.selects "HelmHand$Reader" yX4_takeMan yX4_takeMan ∈ ev_GW := tm_0 (List.mem_of_getElem? (i := 15) rfl) rfl
theorem mi_X4_takeMan : ev_MI K_X4_takeMan 0 := ⟨⟨wi_X4, wc_X4_takeMan, ⟨by decide, by decide⟩, by decide +kernel⟩, wm_X4_takeMan, wv_X4_takeMan⟩
theorem wc_X4_takeLine : Cond.code yX4_takeLine cX4_takeLine 2 (some .boolean) ∈ ev_GW := tm_2 (List.mem_of_getElem? (i := 217) rfl) rfl
theorem wm_X4_takeLine : Cond.instanceMethod yX4_takeLine ∈ ev_GW := tm_2 (List.mem_of_getElem? (i := 216) rfl) rfl
theorem wv_X4_takeLine : Cond.selects "HelmHand$Reader" yX4_takeLine yX4_takeLine ∈ ev_GW := tm_0 (List.mem_of_getElem? (i := 2) rfl) rfl
theorem mi_X4_takeLine : ev_MI K_X4_takeLine 1 := ⟨⟨wi_X4, wc_X4_takeLine, ⟨by decide, by decide⟩, by decide +kernel⟩, wm_X4_takeLine, wv_X4_takeLine⟩
theorem wc_X4_takeSemicolon : Cond.code yX4_takeSemicolon cX4_takeSemicolon 1 (some .boolean) ∈ ev_GW := tm_3 (List.mem_of_getElem? (i := 138) rfl) rfl
theorem wm_X4_takeSemicolon : Cond.instanceMethod yX4_takeSemicolon ∈ ev_GW := tm_3 (List.mem_of_getElem? (i := 137) rfl) rfl
theorem wv_X4_takeSemicolon : Cond.selects "HelmHand$Reader" yX4_takeSemicolon yX4_takeSemicolon ∈ ev_GW := tm_0 (List.mem_of_getElem? (i := 16) rfl) rfl
theorem mi_X4_takeSemicolon : ev_MI K_X4_takeSemicolon 0 := ⟨⟨wi_X4, wc_X4_takeSemicolon, ⟨by decide, by decide⟩, by decide +kernel⟩, wm_X4_takeSemicolon, wv_X4_takeSemicolon⟩
theorem wc_X4_take : Cond.code yX4_take cX4_take 5 none ∈ ev_GW := tm_2 (List.mem_of_getElem? (i := 169) rfl) rfl
theorem wm_X4_take : Cond.instanceMethod yX4_take ∈ ev_GW := tm_2 (List.mem_of_getElem? (i := 167) rfl) rfl
theorem wv_X4_take : Cond.selects "HelmHand$Reader" yX4_take yX4_take ∈ ev_GW := tm_2 (List.mem_of_getElem? (i := 168) rfl) rfl
theorem mi_X4_take : ev_MI K_X4_take 2 := ⟨⟨wi_X4, wc_X4_take, ⟨by decide, by decide⟩, by decide +kernel⟩, wm_X4_take, wv_X4_take⟩
theorem wc_X5_takeSeas : Cond.code yX5_takeSeas cX5_takeSeas 4 none ∈ ev_GW := tm_4 (List.mem_of_getElem? (i := 229) rfl) rfl
theorem wm_X5_takeSeas : Cond.instanceMethod yX5_takeSeas ∈ ev_GW := tm_4 (List.mem_of_getElem? (i := 227) rfl) rfl
theorem wv_X5_takeSeas : Cond.selects "HelmHand$Ship" yX5_takeSeas yX5_takeSeas ∈ ev_GW := tm_4 (List.mem_of_getElem? (i := 228) rfl) rfl
theorem mi_X5_takeSeas : ev_MI K_X5_takeSeas 2 := ⟨⟨wi_X5, wc_X5_takeSeas, ⟨by decide, by decide⟩, by decide +kernel⟩, wm_X5_takeSeas, wv_X5_takeSeas⟩
theorem wc_X5_seaOf : Cond.code yX5_seaOf cX5_seaOf 2 (some .int) ∈ ev_GW := tm_4 (List.mem_of_getElem? (i := 80) rfl) rfl
theorem wm_X5_seaOf : Cond.instanceMethod yX5_seaOf ∈ ev_GW := tm_4 (List.mem_of_getElem? (i := 78) rfl) rfl
theorem wv_X5_seaOf : Cond.selects "HelmHand$Ship" yX5_seaOf yX5_seaOf ∈ ev_GW := tm_4 (List.mem_of_getElem? (i := 79) rfl) rfl
theorem mi_X5_seaOf : ev_MI K_X5_seaOf 1 := ⟨⟨wi_X5, wc_X5_seaOf, ⟨by decide, by decide⟩, by decide +kernel⟩, wm_X5_seaOf, wv_X5_seaOf⟩
theorem wc_X6_addByte : Cond.code yX6_addByte cX6_addByte 2 none ∈ ev_GW := tm_2 (List.mem_of_getElem? (i := 149) rfl) rfl
theorem wm_X6_addByte : Cond.instanceMethod yX6_addByte ∈ ev_GW := tm_2 (List.mem_of_getElem? (i := 148) rfl) rfl
theorem wv_X6_addByte : Cond.selects "HelmHand$Tape" yX6_addByte yX6_addByte ∈ ev_GW := tm_0 (List.mem_of_getElem? (i := 0) rfl) rfl
theorem mi_X6_addByte : ev_MI K_X6_addByte 1 := ⟨⟨wi_X6, wc_X6_addByte, ⟨by decide, by decide⟩, by decide +kernel⟩, wm_X6_addByte, wv_X6_addByte⟩
theorem wc_X6_addWord : Cond.code yX6_addWord cX6_addWord 2 none ∈ ev_GW := tm_2 (List.mem_of_getElem? (i := 145) rfl) rfl
theorem wm_X6_addWord : Cond.instanceMethod yX6_addWord ∈ ev_GW := tm_2 (List.mem_of_getElem? (i := 143) rfl) rfl
theorem wv_X6_addWord : Cond.selects "HelmHand$Tape" yX6_addWord yX6_addWord ∈ ev_GW := tm_2 (List.mem_of_getElem? (i := 144) rfl) rfl
theorem mi_X6_addWord : ev_MI K_X6_addWord 1 := ⟨⟨wi_X6, wc_X6_addWord, ⟨by decide, by decide⟩, by decide +kernel⟩, wm_X6_addWord, wv_X6_addWord⟩
theorem wc_X8_begin : Cond.code yX8_begin cX8_begin 3 none ∈ ev_GW := tm_4 (List.mem_of_getElem? (i := 21) rfl) rfl
theorem wm_X8_begin : Cond.instanceMethod yX8_begin ∈ ev_GW := tm_4 (List.mem_of_getElem? (i := 19) rfl) rfl
theorem wv_X8_begin : Cond.selects "HelmHand$Wheel" yX8_begin yX8_begin ∈ ev_GW := tm_4 (List.mem_of_getElem? (i := 20) rfl) rfl
theorem mi_X8_begin : ev_MI K_X8_begin 2 := ⟨⟨wi_X8, wc_X8_begin, ⟨by decide, by decide⟩, by decide +kernel⟩, wm_X8_begin, wv_X8_begin⟩
theorem wc_X8_move : Cond.code yX8_move cX8_move 5 none ∈ ev_GW := tm_4 (List.mem_of_getElem? (i := 74) rfl) rfl
theorem wm_X8_move : Cond.instanceMethod yX8_move ∈ ev_GW := tm_4 (List.mem_of_getElem? (i := 73) rfl) rfl
theorem wv_X8_move : Cond.selects "HelmHand$Wheel" yX8_move yX8_move ∈ ev_GW := tm_0 (List.mem_of_getElem? (i := 23) rfl) rfl
theorem mi_X8_move : ev_MI K_X8_move 1 := ⟨⟨wi_X8, wc_X8_move, ⟨by decide, by decide⟩, by decide +kernel⟩, wm_X8_move, wv_X8_move⟩
theorem wc_X8_steer : Cond.code yX8_steer cX8_steer 4 none ∈ ev_GW := tm_4 (List.mem_of_getElem? (i := 26) rfl) rfl
theorem wm_X8_steer : Cond.instanceMethod yX8_steer ∈ ev_GW := tm_4 (List.mem_of_getElem? (i := 24) rfl) rfl
theorem wv_X8_steer : Cond.selects "HelmHand$Wheel" yX8_steer yX8_steer ∈ ev_GW := tm_4 (List.mem_of_getElem? (i := 25) rfl) rfl
theorem mi_X8_steer : ev_MI K_X8_steer 2 := ⟨⟨wi_X8, wc_X8_steer, ⟨by decide, by decide⟩, by decide +kernel⟩, wm_X8_steer, wv_X8_steer⟩
theorem wc_X8_sail : Cond.code yX8_sail cX8_sail 5 none ∈ ev_GW := tm_4 (List.mem_of_getElem? (i := 17) rfl) rfl
theorem wm_X8_sail : Cond.instanceMethod yX8_sail ∈ ev_GW := tm_4 (List.mem_of_getElem? (i := 15) rfl) rfl
theorem wv_X8_sail : Cond.selects "HelmHand$Wheel" yX8_sail yX8_sail ∈ ev_GW := tm_4 (List.mem_of_getElem? (i := 16) rfl) rfl
theorem mi_X8_sail : ev_MI K_X8_sail 4 := ⟨⟨wi_X8, wc_X8_sail, ⟨by decide, by decide⟩, by decide +kernel⟩, wm_X8_sail, wv_X8_sail⟩
theorem wc_X8_steerTogether : Cond.code yX8_steerTogether cX8_steerTogether 6 none ∈ ev_GW := tm_5 (List.mem_of_getElem? (i := 98) rfl) rfl
theorem wm_X8_steerTogether : Cond.instanceMethod yX8_steerTogether ∈ ev_GW := tm_5 (List.mem_of_getElem? (i := 96) rfl) rfl
theorem wv_X8_steerTogether : Cond.selects "HelmHand$Wheel" yX8_steerTogether yX8_steerTogether ∈ ev_GW := tm_5 (List.mem_of_getElem? (i := 97) rfl) rfl
theorem mi_X8_steerTogether : ev_MI K_X8_steerTogether 3 := ⟨⟨wi_X8, wc_X8_steerTogether, ⟨by decide, by decide⟩, by decide +kernel⟩, wm_X8_steerTogether, wv_X8_steerTogether⟩
theorem wc_X8_offAt : Cond.code yX8_offAt cX8_offAt 2 (some .int) ∈ ev_GW := tm_4 (List.mem_of_getElem? (i := 101) rfl) rfl
theorem wm_X8_offAt : Cond.instanceMethod yX8_offAt ∈ ev_GW := tm_4 (List.mem_of_getElem? (i := 100) rfl) rfl
theorem wv_X8_offAt : Cond.selects "HelmHand$Wheel" yX8_offAt yX8_offAt ∈ ev_GW := tm_0 (List.mem_of_getElem? (i := 25) rfl) rfl
theorem mi_X8_offAt : ev_MI K_X8_offAt 1 := ⟨⟨wi_X8, wc_X8_offAt, ⟨by decide, by decide⟩, by decide +kernel⟩, wm_X8_offAt, wv_X8_offAt⟩
theorem wc_X8_turnedAt : Cond.code yX8_turnedAt cX8_turnedAt 2 (some .int) ∈ ev_GW := tm_4 (List.mem_of_getElem? (i := 108) rfl) rfl
theorem wm_X8_turnedAt : Cond.instanceMethod yX8_turnedAt ∈ ev_GW := tm_4 (List.mem_of_getElem? (i := 107) rfl) rfl
theorem wv_X8_turnedAt : Cond.selects "HelmHand$Wheel" yX8_turnedAt yX8_turnedAt ∈ ev_GW := tm_0 (List.mem_of_getElem? (i := 26) rfl) rfl
theorem mi_X8_turnedAt : ev_MI K_X8_turnedAt 1 := ⟨⟨wi_X8, wc_X8_turnedAt, ⟨by decide, by decide⟩, by decide +kernel⟩, wm_X8_turnedAt, wv_X8_turnedAt⟩
theorem wc_X8_costAt : Cond.code yX8_costAt cX8_costAt 2 (some .long) ∈ ev_GW := tm_4 (List.mem_of_getElem? (i := 97) rfl) rfl
theorem wm_X8_costAt : Cond.instanceMethod yX8_costAt ∈ ev_GW := tm_4 (List.mem_of_getElem? (i := 96) rfl) rfl
theorem wv_X8_costAt : Cond.selects "HelmHand$Wheel" yX8_costAt yX8_costAt ∈ ev_GW := tm_0 (List.mem_of_getElem? (i := 24) rfl) rfl
theorem mi_X8_costAt : ev_MI K_X8_costAt 1 := ⟨⟨wi_X8, wc_X8_costAt, ⟨by decide, by decide⟩, by decide +kernel⟩, wm_X8_costAt, wv_X8_costAt⟩
theorem wc_X8_cost : Cond.code yX8_cost cX8_cost 4 (some .long) ∈ ev_GW := tm_4 (List.mem_of_getElem? (i := 93) rfl) rfl
theorem wm_X8_cost : Cond.instanceMethod yX8_cost ∈ ev_GW := tm_4 (List.mem_of_getElem? (i := 91) rfl) rfl
theorem wv_X8_cost : Cond.selects "HelmHand$Wheel" yX8_cost yX8_cost ∈ ev_GW := tm_4 (List.mem_of_getElem? (i := 92) rfl) rfl
theorem mi_X8_cost : ev_MI K_X8_cost 0 := ⟨⟨wi_X8, wc_X8_cost, ⟨by decide, by decide⟩, by decide +kernel⟩, wm_X8_cost, wv_X8_cost⟩
theorem wc_X8_off : Cond.code yX8_off cX8_off 4 (some .long) ∈ ev_GW := tm_4 (List.mem_of_getElem? (i := 112) rfl) rfl
theorem wm_X8_off : Cond.instanceMethod yX8_off ∈ ev_GW := tm_4 (List.mem_of_getElem? (i := 110) rfl) rfl
theorem wv_X8_off : Cond.selects "HelmHand$Wheel" yX8_off yX8_off ∈ ev_GW := tm_4 (List.mem_of_getElem? (i := 111) rfl) rfl
theorem mi_X8_off : ev_MI K_X8_off 0 := ⟨⟨wi_X8, wc_X8_off, ⟨by decide, by decide⟩, by decide +kernel⟩, wm_X8_off, wv_X8_off⟩
theorem wc_X8_wear : Cond.code yX8_wear cX8_wear 4 (some .long) ∈ ev_GW := tm_4 (List.mem_of_getElem? (i := 116) rfl) rfl
theorem wm_X8_wear : Cond.instanceMethod yX8_wear ∈ ev_GW := tm_4 (List.mem_of_getElem? (i := 114) rfl) rfl
theorem wv_X8_wear : Cond.selects "HelmHand$Wheel" yX8_wear yX8_wear ∈ ev_GW := tm_4 (List.mem_of_getElem? (i := 115) rfl) rfl
theorem mi_X8_wear : ev_MI K_X8_wear 0 := ⟨⟨wi_X8, wc_X8_wear, ⟨by decide, by decide⟩, by decide +kernel⟩, wm_X8_wear, wv_X8_wear⟩
theorem wc_X8_lost : Cond.code yX8_lost cX8_lost 4 (some .long) ∈ ev_GW := tm_4 (List.mem_of_getElem? (i := 120) rfl) rfl
theorem wm_X8_lost : Cond.instanceMethod yX8_lost ∈ ev_GW := tm_4 (List.mem_of_getElem? (i := 118) rfl) rfl
theorem wv_X8_lost : Cond.selects "HelmHand$Wheel" yX8_lost yX8_lost ∈ ev_GW := tm_4 (List.mem_of_getElem? (i := 119) rfl) rfl
theorem mi_X8_lost : ev_MI K_X8_lost 0 := ⟨⟨wi_X8, wc_X8_lost, ⟨by decide, by decide⟩, by decide +kernel⟩, wm_X8_lost, wv_X8_lost⟩
theorem wc_X8_widest : Cond.code yX8_widest cX8_widest 3 (some .long) ∈ ev_GW := tm_4 (List.mem_of_getElem? (i := 124) rfl) rfl
theorem wm_X8_widest : Cond.instanceMethod yX8_widest ∈ ev_GW := tm_4 (List.mem_of_getElem? (i := 122) rfl) rfl
theorem wv_X8_widest : Cond.selects "HelmHand$Wheel" yX8_widest yX8_widest ∈ ev_GW := tm_4 (List.mem_of_getElem? (i := 123) rfl) rfl
theorem mi_X8_widest : ev_MI K_X8_widest 0 := ⟨⟨wi_X8, wc_X8_widest, ⟨by decide, by decide⟩, by decide +kernel⟩, wm_X8_widest, wv_X8_widest⟩
theorem wc_X8_drift : Cond.code yX8_drift cX8_drift 4 (some .long) ∈ ev_GW := tm_4 (List.mem_of_getElem? (i := 128) rfl) rfl
theorem wm_X8_drift : Cond.instanceMethod yX8_drift ∈ ev_GW := tm_4 (List.mem_of_getElem? (i := 126) rfl) rfl
theorem wv_X8_drift : Cond.selects "HelmHand$Wheel" yX8_drift yX8_drift ∈ ev_GW := tm_4 (List.mem_of_getElem? (i := 127) rfl) rfl
theorem mi_X8_drift : ev_MI K_X8_drift 0 := ⟨⟨wi_X8, wc_X8_drift, ⟨by decide, by decide⟩, by decide +kernel⟩, wm_X8_drift, wv_X8_drift⟩
theorem wi_J6 : Cond.initialized "java/lang/Integer" ∈ ev_GW := tm_1 (List.mem_of_getElem? (i := 18) rfl) rfl
theorem wc_J6_compare_7cf53 : Cond.code yJ6_compare_7cf53 cJ6_compare_7cf53 2 (some .int) ∈ ev_GW := tm_4 (List.mem_of_getElem? (i := 139) rfl) rfl
theorem ws_J6_compare_7cf53 : Cond.static yJ6_compare_7cf53 ∈ ev_GW := tm_4 (List.mem_of_getElem? (i := 138) rfl) rfl
theorem mi_J6_compare_7cf53 : ev_MS K_J6_compare_7cf53 2 := ⟨⟨wi_J6, wc_J6_compare_7cf53, ⟨by decide, by decide⟩, by decide +kernel⟩, ws_J6_compare_7cf53⟩
theorem wc_X8_signAt : Cond.code yX8_signAt cX8_signAt 2 (some .int) ∈ ev_GW := tm_4 (List.mem_of_getElem? (i := 136) rfl) rfl
theorem wm_X8_signAt : Cond.instanceMethod yX8_signAt ∈ ev_GW := tm_4 (List.mem_of_getElem? (i := 135) rfl) rfl
theorem wv_X8_signAt : Cond.selects "HelmHand$Wheel" yX8_signAt yX8_signAt ∈ ev_GW := tm_0 (List.mem_of_getElem? (i := 27) rfl) rfl
theorem mi_X8_signAt : ev_MI K_X8_signAt 1 := ⟨⟨wi_X8, wc_X8_signAt, ⟨by decide, by decide⟩, by decide +kernel⟩, wm_X8_signAt, wv_X8_signAt⟩
theorem wc_X8_crossings : Cond.code yX8_crossings cX8_crossings 4 (some .long) ∈ ev_GW := tm_4 (List.mem_of_getElem? (i := 132) rfl) rfl
theorem wm_X8_crossings : Cond.instanceMethod yX8_crossings ∈ ev_GW := tm_4 (List.mem_of_getElem? (i := 130) rfl) rfl
theorem wv_X8_crossings : Cond.selects "HelmHand$Wheel" yX8_crossings yX8_crossings ∈ ev_GW := tm_4 (List.mem_of_getElem? (i := 131) rfl) rfl
theorem mi_X8_crossings : ev_MI K_X8_crossings 0 := ⟨⟨wi_X8, wc_X8_crossings, ⟨by decide, by decide⟩, by decide +kernel⟩, wm_X8_crossings, wv_X8_crossings⟩
theorem wc_X8_peakAt : Cond.code yX8_peakAt cX8_peakAt 6 (some .int) ∈ ev_GW := tm_4 (List.mem_of_getElem? (i := 147) rfl) rfl
theorem wm_X8_peakAt : Cond.instanceMethod yX8_peakAt ∈ ev_GW := tm_4 (List.mem_of_getElem? (i := 145) rfl) rfl
theorem wv_X8_peakAt : Cond.selects "HelmHand$Wheel" yX8_peakAt yX8_peakAt ∈ ev_GW := tm_4 (List.mem_of_getElem? (i := 146) rfl) rfl
theorem mi_X8_peakAt : ev_MI K_X8_peakAt 1 := ⟨⟨wi_X8, wc_X8_peakAt, ⟨by decide, by decide⟩, by decide +kernel⟩, wm_X8_peakAt, wv_X8_peakAt⟩
theorem wc_X8_grows : Cond.code yX8_grows cX8_grows 2 (some .boolean) ∈ ev_GW := tm_4 (List.mem_of_getElem? (i := 143) rfl) rfl
theorem wm_X8_grows : Cond.instanceMethod yX8_grows ∈ ev_GW := tm_4 (List.mem_of_getElem? (i := 141) rfl) rfl
theorem wv_X8_grows : Cond.selects "HelmHand$Wheel" yX8_grows yX8_grows ∈ ev_GW := tm_4 (List.mem_of_getElem? (i := 142) rfl) rfl
theorem mi_X8_grows : ev_MI K_X8_grows 0 := ⟨⟨wi_X8, wc_X8_grows, ⟨by decide, by decide⟩, by decide +kernel⟩, wm_X8_grows, wv_X8_grows⟩
theorem wc_X8_spokes : Cond.code yX8_spokes cX8_spokes 3 (some .long) ∈ ev_GW := tm_4 (List.mem_of_getElem? (i := 151) rfl) rfl
theorem wm_X8_spokes : Cond.instanceMethod yX8_spokes ∈ ev_GW := tm_4 (List.mem_of_getElem? (i := 149) rfl) rfl
theorem wv_X8_spokes : Cond.selects "HelmHand$Wheel" yX8_spokes yX8_spokes ∈ ev_GW := tm_4 (List.mem_of_getElem? (i := 150) rfl) rfl
theorem mi_X8_spokes : ev_MI K_X8_spokes 0 := ⟨⟨wi_X8, wc_X8_spokes, ⟨by decide, by decide⟩, by decide +kernel⟩, wm_X8_spokes, wv_X8_spokes⟩
theorem wc_X8_waits : Cond.code yX8_waits cX8_waits 4 (some .long) ∈ ev_GW := tm_4 (List.mem_of_getElem? (i := 155) rfl) rfl
theorem wm_X8_waits : Cond.instanceMethod yX8_waits ∈ ev_GW := tm_4 (List.mem_of_getElem? (i := 153) rfl) rfl
theorem wv_X8_waits : Cond.selects "HelmHand$Wheel" yX8_waits yX8_waits ∈ ev_GW := tm_4 (List.mem_of_getElem? (i := 154) rfl) rfl
theorem mi_X8_waits : ev_MI K_X8_waits 0 := ⟨⟨wi_X8, wc_X8_waits, ⟨by decide, by decide⟩, by decide +kernel⟩, wm_X8_waits, wv_X8_waits⟩
theorem wc_X8_tally : Cond.code yX8_tally cX8_tally 2 (some .long) ∈ ev_GW := tm_4 (List.mem_of_getElem? (i := 89) rfl) rfl
theorem wm_X8_tally : Cond.instanceMethod yX8_tally ∈ ev_GW := tm_4 (List.mem_of_getElem? (i := 87) rfl) rfl
theorem wv_X8_tally : Cond.selects "HelmHand$Wheel" yX8_tally yX8_tally ∈ ev_GW := tm_4 (List.mem_of_getElem? (i := 88) rfl) rfl
theorem mi_X8_tally : ev_MI K_X8_tally 1 := ⟨⟨wi_X8, wc_X8_tally, ⟨by decide, by decide⟩, by decide +kernel⟩, wm_X8_tally, wv_X8_tally⟩
theorem wc_X8_earliestBeyond : Cond.code yX8_earliestBeyond cX8_earliestBeyond 3 (some .int) ∈ ev_GW := tm_5 (List.mem_of_getElem? (i := 26) rfl) rfl
theorem wm_X8_earliestBeyond : Cond.instanceMethod yX8_earliestBeyond ∈ ev_GW := tm_5 (List.mem_of_getElem? (i := 24) rfl) rfl
theorem wv_X8_earliestBeyond : Cond.selects "HelmHand$Wheel" yX8_earliestBeyond yX8_earliestBeyond ∈ ev_GW := tm_5 (List.mem_of_getElem? (i := 25) rfl) rfl
theorem mi_X8_earliestBeyond : ev_MI K_X8_earliestBeyond 1 := ⟨⟨wi_X8, wc_X8_earliestBeyond, ⟨by decide, by decide⟩, by decide +kernel⟩, wm_X8_earliestBeyond, wv_X8_earliestBeyond⟩
theorem wc_X8_latestBeyond : Cond.code yX8_latestBeyond cX8_latestBeyond 3 (some .int) ∈ ev_GW := tm_5 (List.mem_of_getElem? (i := 30) rfl) rfl
theorem wm_X8_latestBeyond : Cond.instanceMethod yX8_latestBeyond ∈ ev_GW := tm_5 (List.mem_of_getElem? (i := 28) rfl) rfl
theorem wv_X8_latestBeyond : Cond.selects "HelmHand$Wheel" yX8_latestBeyond yX8_latestBeyond ∈ ev_GW := tm_5 (List.mem_of_getElem? (i := 29) rfl) rfl
theorem mi_X8_latestBeyond : ev_MI K_X8_latestBeyond 1 := ⟨⟨wi_X8, wc_X8_latestBeyond, ⟨by decide, by decide⟩, by decide +kernel⟩, wm_X8_latestBeyond, wv_X8_latestBeyond⟩
theorem wc_X8_dearest : Cond.code yX8_dearest cX8_dearest 3 (some .int) ∈ ev_GW := tm_5 (List.mem_of_getElem? (i := 143) rfl) rfl
theorem wm_X8_dearest : Cond.instanceMethod yX8_dearest ∈ ev_GW := tm_5 (List.mem_of_getElem? (i := 141) rfl) rfl
theorem wv_X8_dearest : Cond.selects "HelmHand$Wheel" yX8_dearest yX8_dearest ∈ ev_GW := tm_5 (List.mem_of_getElem? (i := 142) rfl) rfl
theorem mi_X8_dearest : ev_MI K_X8_dearest 0 := ⟨⟨wi_X8, wc_X8_dearest, ⟨by decide, by decide⟩, by decide +kernel⟩, wm_X8_dearest, wv_X8_dearest⟩
theorem wc_X8_halfway : Cond.code yX8_halfway cX8_halfway 6 (some .int) ∈ ev_GW := tm_5 (List.mem_of_getElem? (i := 147) rfl) rfl
theorem wm_X8_halfway : Cond.instanceMethod yX8_halfway ∈ ev_GW := tm_5 (List.mem_of_getElem? (i := 145) rfl) rfl
theorem wv_X8_halfway : Cond.selects "HelmHand$Wheel" yX8_halfway yX8_halfway ∈ ev_GW := tm_5 (List.mem_of_getElem? (i := 146) rfl) rfl
theorem mi_X8_halfway : ev_MI K_X8_halfway 0 := ⟨⟨wi_X8, wc_X8_halfway, ⟨by decide, by decide⟩, by decide +kernel⟩, wm_X8_halfway, wv_X8_halfway⟩
theorem wc_X8_apartFrom : Cond.code yX8_apartFrom cX8_apartFrom 4 (some .int) ∈ ev_GW := tm_4 (List.mem_of_getElem? (i := 194) rfl) rfl
theorem wm_X8_apartFrom : Cond.instanceMethod yX8_apartFrom ∈ ev_GW := tm_4 (List.mem_of_getElem? (i := 192) rfl) rfl
theorem wv_X8_apartFrom : Cond.selects "HelmHand$Wheel" yX8_apartFrom yX8_apartFrom ∈ ev_GW := tm_4 (List.mem_of_getElem? (i := 193) rfl) rfl
theorem mi_X8_apartFrom : ev_MI K_X8_apartFrom 1 := ⟨⟨wi_X8, wc_X8_apartFrom, ⟨by decide, by decide⟩, by decide +kernel⟩, wm_X8_apartFrom, wv_X8_apartFrom⟩
theorem wc_X8_alikeTo : Cond.code yX8_alikeTo cX8_alikeTo 3 (some .int) ∈ ev_GW := tm_5 (List.mem_of_getElem? (i := 106) rfl) rfl
theorem wm_X8_alikeTo : Cond.instanceMethod yX8_alikeTo ∈ ev_GW := tm_5 (List.mem_of_getElem? (i := 104) rfl) rfl
theorem wv_X8_alikeTo : Cond.selects "HelmHand$Wheel" yX8_alikeTo yX8_alikeTo ∈ ev_GW := tm_5 (List.mem_of_getElem? (i := 105) rfl) rfl
theorem mi_X8_alikeTo : ev_MI K_X8_alikeTo 1 := ⟨⟨wi_X8, wc_X8_alikeTo, ⟨by decide, by decide⟩, by decide +kernel⟩, wm_X8_alikeTo, wv_X8_alikeTo⟩
theorem wc_X9_feed : Cond.code yX9_feed cX9_feed 7 (some .int) ∈ ev_GW := tm_2 (List.mem_of_getElem? (i := 141) rfl) rfl
theorem wm_X9_feed : Cond.instanceMethod yX9_feed ∈ ev_GW := tm_2 (List.mem_of_getElem? (i := 139) rfl) rfl
theorem wv_X9_feed : Cond.selects "HelmHand" yX9_feed yX9_feed ∈ ev_GW := tm_2 (List.mem_of_getElem? (i := 140) rfl) rfl
theorem mi_X9_feed : ev_MI K_X9_feed 5 := ⟨⟨wi_X9, wc_X9_feed, ⟨by decide, by decide⟩, by decide +kernel⟩, wm_X9_feed, wv_X9_feed⟩
theorem wc_X9_end : Cond.code yX9_end cX9_end 2 (some .int) ∈ ev_GW := tm_2 (List.mem_of_getElem? (i := 153) rfl) rfl
theorem wm_X9_end : Cond.instanceMethod yX9_end ∈ ev_GW := tm_2 (List.mem_of_getElem? (i := 151) rfl) rfl
theorem wv_X9_end : Cond.selects "HelmHand" yX9_end yX9_end ∈ ev_GW := tm_2 (List.mem_of_getElem? (i := 152) rfl) rfl
theorem mi_X9_end : ev_MI K_X9_end 1 := ⟨⟨wi_X9, wc_X9_end, ⟨by decide, by decide⟩, by decide +kernel⟩, wm_X9_end, wv_X9_end⟩
theorem wc_X9_text : Cond.code yX9_text cX9_text 4 (some .int) ∈ ev_GW := tm_2 (List.mem_of_getElem? (i := 157) rfl) rfl
theorem wm_X9_text : Cond.instanceMethod yX9_text ∈ ev_GW := tm_2 (List.mem_of_getElem? (i := 155) rfl) rfl
theorem wv_X9_text : Cond.selects "HelmHand" yX9_text yX9_text ∈ ev_GW := tm_2 (List.mem_of_getElem? (i := 156) rfl) rfl
theorem mi_X9_text : ev_MI K_X9_text 2 := ⟨⟨wi_X9, wc_X9_text, ⟨by decide, by decide⟩, by decide +kernel⟩, wm_X9_text, wv_X9_text⟩
theorem wc_X9_fault : Cond.code yX9_fault cX9_fault 2 (some .int) ∈ ev_GW := tm_3 (List.mem_of_getElem? (i := 221) rfl) rfl
theorem wm_X9_fault : Cond.instanceMethod yX9_fault ∈ ev_GW := tm_3 (List.mem_of_getElem? (i := 219) rfl) rfl
theorem wv_X9_fault : Cond.selects "HelmHand" yX9_fault yX9_fault ∈ ev_GW := tm_3 (List.mem_of_getElem? (i := 220) rfl) rfl
theorem mi_X9_fault : ev_MI K_X9_fault 1 := ⟨⟨wi_X9, wc_X9_fault, ⟨by decide, by decide⟩, by decide +kernel⟩, wm_X9_fault, wv_X9_fault⟩
theorem wc_X9_ship : Cond.code yX9_ship cX9_ship 4 (some .int) ∈ ev_GW := tm_3 (List.mem_of_getElem? (i := 225) rfl) rfl
theorem wm_X9_ship : Cond.instanceMethod yX9_ship ∈ ev_GW := tm_3 (List.mem_of_getElem? (i := 223) rfl) rfl
theorem wv_X9_ship : Cond.selects "HelmHand" yX9_ship yX9_ship ∈ ev_GW := tm_3 (List.mem_of_getElem? (i := 224) rfl) rfl
theorem mi_X9_ship : ev_MI K_X9_ship 2 := ⟨⟨wi_X9, wc_X9_ship, ⟨by decide, by decide⟩, by decide +kernel⟩, wm_X9_ship, wv_X9_ship⟩
theorem wc_X9_hand : Cond.code yX9_hand cX9_hand 4 (some .int) ∈ ev_GW := tm_3 (List.mem_of_getElem? (i := 232) rfl) rfl
theorem wm_X9_hand : Cond.instanceMethod yX9_hand ∈ ev_GW := tm_3 (List.mem_of_getElem? (i := 230) rfl) rfl
theorem wv_X9_hand : Cond.selects "HelmHand" yX9_hand yX9_hand ∈ ev_GW := tm_3 (List.mem_of_getElem? (i := 231) rfl) rfl
theorem mi_X9_hand : ev_MI K_X9_hand 2 := ⟨⟨wi_X9, wc_X9_hand, ⟨by decide, by decide⟩, by decide +kernel⟩, wm_X9_hand, wv_X9_hand⟩
theorem wc_X9_paper : Cond.code yX9_paper cX9_paper 4 (some .int) ∈ ev_GW := tm_3 (List.mem_of_getElem? (i := 238) rfl) rfl
theorem wm_X9_paper : Cond.instanceMethod yX9_paper ∈ ev_GW := tm_3 (List.mem_of_getElem? (i := 236) rfl) rfl
theorem wv_X9_paper : Cond.selects "HelmHand" yX9_paper yX9_paper ∈ ev_GW := tm_3 (List.mem_of_getElem? (i := 237) rfl) rfl
theorem mi_X9_paper : ev_MI K_X9_paper 2 := ⟨⟨wi_X9, wc_X9_paper, ⟨by decide, by decide⟩, by decide +kernel⟩, wm_X9_paper, wv_X9_paper⟩
theorem wc_X9_watch : Cond.code yX9_watch cX9_watch 5 (some .int) ∈ ev_GW := tm_4 (List.mem_of_getElem? (i := 4) rfl) rfl
theorem wm_X9_watch : Cond.instanceMethod yX9_watch ∈ ev_GW := tm_4 (List.mem_of_getElem? (i := 2) rfl) rfl
theorem wv_X9_watch : Cond.selects "HelmHand" yX9_watch yX9_watch ∈ ev_GW := tm_4 (List.mem_of_getElem? (i := 3) rfl) rfl
theorem mi_X9_watch : ev_MI K_X9_watch 3 := ⟨⟨wi_X9, wc_X9_watch, ⟨by decide, by decide⟩, by decide +kernel⟩, wm_X9_watch, wv_X9_watch⟩
theorem wc_X9_sailed : Cond.code yX9_sailed cX9_sailed 7 (some .boolean) ∈ ev_GW := tm_4 (List.mem_of_getElem? (i := 13) rfl) rfl
theorem wm_X9_sailed : Cond.instanceMethod yX9_sailed ∈ ev_GW := tm_4 (List.mem_of_getElem? (i := 12) rfl) rfl
theorem wv_X9_sailed : Cond.selects "HelmHand" yX9_sailed yX9_sailed ∈ ev_GW := tm_0 (List.mem_of_getElem? (i := 22) rfl) rfl
theorem mi_X9_sailed : ev_MI K_X9_sailed 4 := ⟨⟨wi_X9, wc_X9_sailed, ⟨by decide, by decide⟩, by decide +kernel⟩, wm_X9_sailed, wv_X9_sailed⟩
theorem wc_X9_second : Cond.code yX9_second cX9_second 6 (some .int) ∈ ev_GW := tm_4 (List.mem_of_getElem? (i := 9) rfl) rfl
theorem wm_X9_second : Cond.instanceMethod yX9_second ∈ ev_GW := tm_4 (List.mem_of_getElem? (i := 7) rfl) rfl
theorem wv_X9_second : Cond.selects "HelmHand" yX9_second yX9_second ∈ ev_GW := tm_4 (List.mem_of_getElem? (i := 8) rfl) rfl
theorem mi_X9_second : ev_MI K_X9_second 5 := ⟨⟨wi_X9, wc_X9_second, ⟨by decide, by decide⟩, by decide +kernel⟩, wm_X9_second, wv_X9_second⟩
theorem wc_X9_run : Cond.code yX9_run cX9_run 6 (some .long) ∈ ev_GW := tm_4 (List.mem_of_getElem? (i := 84) rfl) rfl
theorem wm_X9_run : Cond.instanceMethod yX9_run ∈ ev_GW := tm_4 (List.mem_of_getElem? (i := 82) rfl) rfl
theorem wv_X9_run : Cond.selects "HelmHand" yX9_run yX9_run ∈ ev_GW := tm_4 (List.mem_of_getElem? (i := 83) rfl) rfl
theorem mi_X9_run : ev_MI K_X9_run 5 := ⟨⟨wi_X9, wc_X9_run, ⟨by decide, by decide⟩, by decide +kernel⟩, wm_X9_run, wv_X9_run⟩
theorem wc_X9_peak : Cond.code yX9_peak cX9_peak 6 (some .int) ∈ ev_GW := tm_4 (List.mem_of_getElem? (i := 160) rfl) rfl
theorem wm_X9_peak : Cond.instanceMethod yX9_peak ∈ ev_GW := tm_4 (List.mem_of_getElem? (i := 158) rfl) rfl
theorem wv_X9_peak : Cond.selects "HelmHand" yX9_peak yX9_peak ∈ ev_GW := tm_4 (List.mem_of_getElem? (i := 159) rfl) rfl
theorem mi_X9_peak : ev_MI K_X9_peak 5 := ⟨⟨wi_X9, wc_X9_peak, ⟨by decide, by decide⟩, by decide +kernel⟩, wm_X9_peak, wv_X9_peak⟩
theorem wc_X9_isTrial : Cond.code yX9_isTrial cX9_isTrial 1 (some .boolean) ∈ ev_GW := tm_4 (List.mem_of_getElem? (i := 172) rfl) rfl
theorem ws_X9_isTrial : Cond.static yX9_isTrial ∈ ev_GW := tm_4 (List.mem_of_getElem? (i := 171) rfl) rfl
theorem mi_X9_isTrial : ev_MS K_X9_isTrial 1 := ⟨⟨wi_X9, wc_X9_isTrial, ⟨by decide, by decide⟩, by decide +kernel⟩, ws_X9_isTrial⟩
theorem wc_X9_ready : Cond.code yX9_ready cX9_ready 6 (some .boolean) ∈ ev_GW := tm_4 (List.mem_of_getElem? (i := 169) rfl) rfl
theorem wm_X9_ready : Cond.instanceMethod yX9_ready ∈ ev_GW := tm_4 (List.mem_of_getElem? (i := 168) rfl) rfl
theorem wv_X9_ready : Cond.selects "HelmHand" yX9_ready yX9_ready ∈ ev_GW := tm_0 (List.mem_of_getElem? (i := 28) rfl) rfl
theorem mi_X9_ready : ev_MI K_X9_ready 3 := ⟨⟨wi_X9, wc_X9_ready, ⟨by decide, by decide⟩, by decide +kernel⟩, wm_X9_ready, wv_X9_ready⟩
theorem wc_X9_trialCost : Cond.code yX9_trialCost cX9_trialCost 2 (some .long) ∈ ev_GW := tm_4 (List.mem_of_getElem? (i := 185) rfl) rfl
theorem wm_X9_trialCost : Cond.instanceMethod yX9_trialCost ∈ ev_GW := tm_4 (List.mem_of_getElem? (i := 184) rfl) rfl
theorem wv_X9_trialCost : Cond.selects "HelmHand" yX9_trialCost yX9_trialCost ∈ ev_GW := tm_0 (List.mem_of_getElem? (i := 30) rfl) rfl
theorem mi_X9_trialCost : ev_MI K_X9_trialCost 1 := ⟨⟨wi_X9, wc_X9_trialCost, ⟨by decide, by decide⟩, by decide +kernel⟩, wm_X9_trialCost, wv_X9_trialCost⟩
theorem wc_X9_trialApart : Cond.code yX9_trialApart cX9_trialApart 2 (some .int) ∈ ev_GW := tm_4 (List.mem_of_getElem? (i := 190) rfl) rfl
theorem wm_X9_trialApart : Cond.instanceMethod yX9_trialApart ∈ ev_GW := tm_4 (List.mem_of_getElem? (i := 189) rfl) rfl
theorem wv_X9_trialApart : Cond.selects "HelmHand" yX9_trialApart yX9_trialApart ∈ ev_GW := tm_0 (List.mem_of_getElem? (i := 31) rfl) rfl
theorem mi_X9_trialApart : ev_MI K_X9_trialApart 1 := ⟨⟨wi_X9, wc_X9_trialApart, ⟨by decide, by decide⟩, by decide +kernel⟩, wm_X9_trialApart, wv_X9_trialApart⟩
theorem wc_X9_leastRule : Cond.code yX9_leastRule cX9_leastRule 14 (some .long) ∈ ev_GW := tm_4 (List.mem_of_getElem? (i := 179) rfl) rfl
theorem wm_X9_leastRule : Cond.instanceMethod yX9_leastRule ∈ ev_GW := tm_4 (List.mem_of_getElem? (i := 178) rfl) rfl
theorem wv_X9_leastRule : Cond.selects "HelmHand" yX9_leastRule yX9_leastRule ∈ ev_GW := tm_0 (List.mem_of_getElem? (i := 29) rfl) rfl
theorem mi_X9_leastRule : ev_MI K_X9_leastRule 5 := ⟨⟨wi_X9, wc_X9_leastRule, ⟨by decide, by decide⟩, by decide +kernel⟩, wm_X9_leastRule, wv_X9_leastRule⟩
theorem wc_X9_found : Cond.code yX9_found cX9_found 7 (some .long) ∈ ev_GW := tm_4 (List.mem_of_getElem? (i := 165) rfl) rfl
theorem wm_X9_found : Cond.instanceMethod yX9_found ∈ ev_GW := tm_4 (List.mem_of_getElem? (i := 163) rfl) rfl
theorem wv_X9_found : Cond.selects "HelmHand" yX9_found yX9_found ∈ ev_GW := tm_4 (List.mem_of_getElem? (i := 164) rfl) rfl
theorem mi_X9_found : ev_MI K_X9_found 6 := ⟨⟨wi_X9, wc_X9_found, ⟨by decide, by decide⟩, by decide +kernel⟩, wm_X9_found, wv_X9_found⟩
theorem wc_X9_costWith : Cond.code yX9_costWith cX9_costWith 4 (some .long) ∈ ev_GW := tm_4 (List.mem_of_getElem? (i := 202) rfl) rfl
theorem wm_X9_costWith : Cond.instanceMethod yX9_costWith ∈ ev_GW := tm_4 (List.mem_of_getElem? (i := 201) rfl) rfl
theorem wv_X9_costWith : Cond.selects "HelmHand" yX9_costWith yX9_costWith ∈ ev_GW := tm_0 (List.mem_of_getElem? (i := 32) rfl) rfl
theorem mi_X9_costWith : ev_MI K_X9_costWith 3 := ⟨⟨wi_X9, wc_X9_costWith, ⟨by decide, by decide⟩, by decide +kernel⟩, wm_X9_costWith, wv_X9_costWith⟩
theorem wc_X9_iron : Cond.code yX9_iron cX9_iron 11 (some .long) ∈ ev_GW := tm_4 (List.mem_of_getElem? (i := 198) rfl) rfl
theorem wm_X9_iron : Cond.instanceMethod yX9_iron ∈ ev_GW := tm_4 (List.mem_of_getElem? (i := 196) rfl) rfl
theorem wv_X9_iron : Cond.selects "HelmHand" yX9_iron yX9_iron ∈ ev_GW := tm_4 (List.mem_of_getElem? (i := 197) rfl) rfl
theorem mi_X9_iron : ev_MI K_X9_iron 4 := ⟨⟨wi_X9, wc_X9_iron, ⟨by decide, by decide⟩, by decide +kernel⟩, wm_X9_iron, wv_X9_iron⟩
theorem wc_X9_lagged : Cond.code yX9_lagged cX9_lagged 5 (some .boolean) ∈ ev_GW := tm_4 (List.mem_of_getElem? (i := 210) rfl) rfl
theorem wm_X9_lagged : Cond.instanceMethod yX9_lagged ∈ ev_GW := tm_4 (List.mem_of_getElem? (i := 209) rfl) rfl
theorem wv_X9_lagged : Cond.selects "HelmHand" yX9_lagged yX9_lagged ∈ ev_GW := tm_0 (List.mem_of_getElem? (i := 33) rfl) rfl
theorem mi_X9_lagged : ev_MI K_X9_lagged 4 := ⟨⟨wi_X9, wc_X9_lagged, ⟨by decide, by decide⟩, by decide +kernel⟩, wm_X9_lagged, wv_X9_lagged⟩
theorem wc_X9_growsWith : Cond.code yX9_growsWith cX9_growsWith 4 (some .boolean) ∈ ev_GW := tm_4 (List.mem_of_getElem? (i := 215) rfl) rfl
theorem wm_X9_growsWith : Cond.instanceMethod yX9_growsWith ∈ ev_GW := tm_4 (List.mem_of_getElem? (i := 214) rfl) rfl
theorem wv_X9_growsWith : Cond.selects "HelmHand" yX9_growsWith yX9_growsWith ∈ ev_GW := tm_0 (List.mem_of_getElem? (i := 34) rfl) rfl
theorem mi_X9_growsWith : ev_MI K_X9_growsWith 3 := ⟨⟨wi_X9, wc_X9_growsWith, ⟨by decide, by decide⟩, by decide +kernel⟩, wm_X9_growsWith, wv_X9_growsWith⟩
theorem wc_X9_line : Cond.code yX9_line cX9_line 6 (some .int) ∈ ev_GW := tm_4 (List.mem_of_getElem? (i := 206) rfl) rfl
theorem wm_X9_line : Cond.instanceMethod yX9_line ∈ ev_GW := tm_4 (List.mem_of_getElem? (i := 204) rfl) rfl
theorem wv_X9_line : Cond.selects "HelmHand" yX9_line yX9_line ∈ ev_GW := tm_4 (List.mem_of_getElem? (i := 205) rfl) rfl
theorem mi_X9_line : ev_MI K_X9_line 4 := ⟨⟨wi_X9, wc_X9_line, ⟨by decide, by decide⟩, by decide +kernel⟩, wm_X9_line, wv_X9_line⟩
theorem wc_X9_alone : Cond.code yX9_alone cX9_alone 6 (some .int) ∈ ev_GW := tm_4 (List.mem_of_getElem? (i := 220) rfl) rfl
theorem wm_X9_alone : Cond.instanceMethod yX9_alone ∈ ev_GW := tm_4 (List.mem_of_getElem? (i := 218) rfl) rfl
theorem wv_X9_alone : Cond.selects "HelmHand" yX9_alone yX9_alone ∈ ev_GW := tm_4 (List.mem_of_getElem? (i := 219) rfl) rfl
theorem mi_X9_alone : ev_MI K_X9_alone 3 := ⟨⟨wi_X9, wc_X9_alone, ⟨by decide, by decide⟩, by decide +kernel⟩, wm_X9_alone, wv_X9_alone⟩
theorem wc_X9_trialWidest : Cond.code yX9_trialWidest cX9_trialWidest 2 (some .long) ∈ ev_GW := tm_4 (List.mem_of_getElem? (i := 233) rfl) rfl
theorem wm_X9_trialWidest : Cond.instanceMethod yX9_trialWidest ∈ ev_GW := tm_4 (List.mem_of_getElem? (i := 232) rfl) rfl
theorem wv_X9_trialWidest : Cond.selects "HelmHand" yX9_trialWidest yX9_trialWidest ∈ ev_GW := tm_0 (List.mem_of_getElem? (i := 35) rfl) rfl
theorem mi_X9_trialWidest : ev_MI K_X9_trialWidest 1 := ⟨⟨wi_X9, wc_X9_trialWidest, ⟨by decide, by decide⟩, by decide +kernel⟩, wm_X9_trialWidest, wv_X9_trialWidest⟩
theorem wc_X9_hard : Cond.code yX9_hard cX9_hard 7 (some .int) ∈ ev_GW := tm_4 (List.mem_of_getElem? (i := 225) rfl) rfl
theorem wm_X9_hard : Cond.instanceMethod yX9_hard ∈ ev_GW := tm_4 (List.mem_of_getElem? (i := 223) rfl) rfl
theorem wv_X9_hard : Cond.selects "HelmHand" yX9_hard yX9_hard ∈ ev_GW := tm_4 (List.mem_of_getElem? (i := 224) rfl) rfl
theorem mi_X9_hard : ev_MI K_X9_hard 4 := ⟨⟨wi_X9, wc_X9_hard, ⟨by decide, by decide⟩, by decide +kernel⟩, wm_X9_hard, wv_X9_hard⟩
theorem wc_X9_set : Cond.code yX9_set cX9_set 11 (some .int) ∈ ev_GW := tm_4 (List.mem_of_getElem? (i := 237) rfl) rfl
theorem wm_X9_set : Cond.instanceMethod yX9_set ∈ ev_GW := tm_4 (List.mem_of_getElem? (i := 235) rfl) rfl
theorem wv_X9_set : Cond.selects "HelmHand" yX9_set yX9_set ∈ ev_GW := tm_4 (List.mem_of_getElem? (i := 236) rfl) rfl
theorem mi_X9_set : ev_MI K_X9_set 3 := ⟨⟨wi_X9, wc_X9_set, ⟨by decide, by decide⟩, by decide +kernel⟩, wm_X9_set, wv_X9_set⟩
theorem wc_X9_worth : Cond.code yX9_worth cX9_worth 7 (some .long) ∈ ev_GW := tm_5 (List.mem_of_getElem? (i := 5) rfl) rfl
theorem wm_X9_worth : Cond.instanceMethod yX9_worth ∈ ev_GW := tm_5 (List.mem_of_getElem? (i := 3) rfl) rfl
theorem wv_X9_worth : Cond.selects "HelmHand" yX9_worth yX9_worth ∈ ev_GW := tm_5 (List.mem_of_getElem? (i := 4) rfl) rfl
theorem mi_X9_worth : ev_MI K_X9_worth 4 := ⟨⟨wi_X9, wc_X9_worth, ⟨by decide, by decide⟩, by decide +kernel⟩, wm_X9_worth, wv_X9_worth⟩
theorem wc_X9_night : Cond.code yX9_night cX9_night 5 (some .long) ∈ ev_GW := tm_5 (List.mem_of_getElem? (i := 9) rfl) rfl
theorem wm_X9_night : Cond.instanceMethod yX9_night ∈ ev_GW := tm_5 (List.mem_of_getElem? (i := 7) rfl) rfl
theorem wv_X9_night : Cond.selects "HelmHand" yX9_night yX9_night ∈ ev_GW := tm_5 (List.mem_of_getElem? (i := 8) rfl) rfl
theorem mi_X9_night : ev_MI K_X9_night 4 := ⟨⟨wi_X9, wc_X9_night, ⟨by decide, by decide⟩, by decide +kernel⟩, wm_X9_night, wv_X9_night⟩
theorem wc_X9_cloud : Cond.code yX9_cloud cX9_cloud 6 (some .int) ∈ ev_GW := tm_5 (List.mem_of_getElem? (i := 13) rfl) rfl
theorem wm_X9_cloud : Cond.instanceMethod yX9_cloud ∈ ev_GW := tm_5 (List.mem_of_getElem? (i := 11) rfl) rfl
theorem wv_X9_cloud : Cond.selects "HelmHand" yX9_cloud yX9_cloud ∈ ev_GW := tm_5 (List.mem_of_getElem? (i := 12) rfl) rfl
theorem mi_X9_cloud : ev_MI K_X9_cloud 4 := ⟨⟨wi_X9, wc_X9_cloud, ⟨by decide, by decide⟩, by decide +kernel⟩, wm_X9_cloud, wv_X9_cloud⟩
theorem wc_X9_coarse : Cond.code yX9_coarse cX9_coarse 9 (some .int) ∈ ev_GW := tm_5 (List.mem_of_getElem? (i := 18) rfl) rfl
theorem wm_X9_coarse : Cond.instanceMethod yX9_coarse ∈ ev_GW := tm_5 (List.mem_of_getElem? (i := 16) rfl) rfl
theorem wv_X9_coarse : Cond.selects "HelmHand" yX9_coarse yX9_coarse ∈ ev_GW := tm_5 (List.mem_of_getElem? (i := 17) rfl) rfl
theorem mi_X9_coarse : ev_MI K_X9_coarse 4 := ⟨⟨wi_X9, wc_X9_coarse, ⟨by decide, by decide⟩, by decide +kernel⟩, wm_X9_coarse, wv_X9_coarse⟩
theorem wc_X9_weary : Cond.code yX9_weary cX9_weary 7 (some .int) ∈ ev_GW := tm_5 (List.mem_of_getElem? (i := 22) rfl) rfl
theorem wm_X9_weary : Cond.instanceMethod yX9_weary ∈ ev_GW := tm_5 (List.mem_of_getElem? (i := 20) rfl) rfl
theorem wv_X9_weary : Cond.selects "HelmHand" yX9_weary yX9_weary ∈ ev_GW := tm_5 (List.mem_of_getElem? (i := 21) rfl) rfl
theorem mi_X9_weary : ev_MI K_X9_weary 5 := ⟨⟨wi_X9, wc_X9_weary, ⟨by decide, by decide⟩, by decide +kernel⟩, wm_X9_weary, wv_X9_weary⟩
theorem wc_X9_leastOfThree : Cond.code yX9_leastOfThree cX9_leastOfThree 10 (some .int) ∈ ev_GW := tm_5 (List.mem_of_getElem? (i := 38) rfl) rfl
theorem wm_X9_leastOfThree : Cond.instanceMethod yX9_leastOfThree ∈ ev_GW := tm_5 (List.mem_of_getElem? (i := 37) rfl) rfl
theorem wv_X9_leastOfThree : Cond.selects "HelmHand" yX9_leastOfThree yX9_leastOfThree ∈ ev_GW := tm_0 (List.mem_of_getElem? (i := 36) rfl) rfl
theorem mi_X9_leastOfThree : ev_MI K_X9_leastOfThree 3 := ⟨⟨wi_X9, wc_X9_leastOfThree, ⟨by decide, by decide⟩, by decide +kernel⟩, wm_X9_leastOfThree, wv_X9_leastOfThree⟩
theorem wc_X9_tries : Cond.code yX9_tries cX9_tries 9 (some .long) ∈ ev_GW := tm_5 (List.mem_of_getElem? (i := 34) rfl) rfl
theorem wm_X9_tries : Cond.instanceMethod yX9_tries ∈ ev_GW := tm_5 (List.mem_of_getElem? (i := 32) rfl) rfl
theorem wv_X9_tries : Cond.selects "HelmHand" yX9_tries yX9_tries ∈ ev_GW := tm_5 (List.mem_of_getElem? (i := 33) rfl) rfl
theorem mi_X9_tries : ev_MI K_X9_tries 4 := ⟨⟨wi_X9, wc_X9_tries, ⟨by decide, by decide⟩, by decide +kernel⟩, wm_X9_tries, wv_X9_tries⟩
theorem wc_X9_learnt : Cond.code yX9_learnt cX9_learnt 8 (some .int) ∈ ev_GW := tm_5 (List.mem_of_getElem? (i := 49) rfl) rfl
theorem wm_X9_learnt : Cond.instanceMethod yX9_learnt ∈ ev_GW := tm_5 (List.mem_of_getElem? (i := 48) rfl) rfl
theorem wv_X9_learnt : Cond.selects "HelmHand" yX9_learnt yX9_learnt ∈ ev_GW := tm_0 (List.mem_of_getElem? (i := 37) rfl) rfl
theorem mi_X9_learnt : ev_MI K_X9_learnt 2 := ⟨⟨wi_X9, wc_X9_learnt, ⟨by decide, by decide⟩, by decide +kernel⟩, wm_X9_learnt, wv_X9_learnt⟩
theorem wc_X9_learning : Cond.code yX9_learning cX9_learning 7 (some .int) ∈ ev_GW := tm_5 (List.mem_of_getElem? (i := 45) rfl) rfl
theorem wm_X9_learning : Cond.instanceMethod yX9_learning ∈ ev_GW := tm_5 (List.mem_of_getElem? (i := 43) rfl) rfl
theorem wv_X9_learning : Cond.selects "HelmHand" yX9_learning yX9_learning ∈ ev_GW := tm_5 (List.mem_of_getElem? (i := 44) rfl) rfl
theorem mi_X9_learning : ev_MI K_X9_learning 4 := ⟨⟨wi_X9, wc_X9_learning, ⟨by decide, by decide⟩, by decide +kernel⟩, wm_X9_learning, wv_X9_learning⟩
theorem wc_X9_isManned : Cond.code yX9_isManned cX9_isManned 3 (some .boolean) ∈ ev_GW := tm_5 (List.mem_of_getElem? (i := 57) rfl) rfl
theorem wm_X9_isManned : Cond.instanceMethod yX9_isManned ∈ ev_GW := tm_5 (List.mem_of_getElem? (i := 56) rfl) rfl
theorem wv_X9_isManned : Cond.selects "HelmHand" yX9_isManned yX9_isManned ∈ ev_GW := tm_0 (List.mem_of_getElem? (i := 38) rfl) rfl
theorem mi_X9_isManned : ev_MI K_X9_isManned 1 := ⟨⟨wi_X9, wc_X9_isManned, ⟨by decide, by decide⟩, by decide +kernel⟩, wm_X9_isManned, wv_X9_isManned⟩
theorem wc_X9_steers : Cond.code yX9_steers cX9_steers 8 (some .long) ∈ ev_GW := tm_5 (List.mem_of_getElem? (i := 53) rfl) rfl
theorem wm_X9_steers : Cond.instanceMethod yX9_steers ∈ ev_GW := tm_5 (List.mem_of_getElem? (i := 51) rfl) rfl
theorem wv_X9_steers : Cond.selects "HelmHand" yX9_steers yX9_steers ∈ ev_GW := tm_5 (List.mem_of_getElem? (i := 52) rfl) rfl
theorem mi_X9_steers : ev_MI K_X9_steers 4 := ⟨⟨wi_X9, wc_X9_steers, ⟨by decide, by decide⟩, by decide +kernel⟩, wm_X9_steers, wv_X9_steers⟩
theorem wc_X9_sailChanged : Cond.code yX9_sailChanged cX9_sailChanged 6 none ∈ ev_GW := tm_5 (List.mem_of_getElem? (i := 70) rfl) rfl
theorem wm_X9_sailChanged : Cond.instanceMethod yX9_sailChanged ∈ ev_GW := tm_5 (List.mem_of_getElem? (i := 69) rfl) rfl
theorem wv_X9_sailChanged : Cond.selects "HelmHand" yX9_sailChanged yX9_sailChanged ∈ ev_GW := tm_0 (List.mem_of_getElem? (i := 39) rfl) rfl
theorem mi_X9_sailChanged : ev_MI K_X9_sailChanged 5 := ⟨⟨wi_X9, wc_X9_sailChanged, ⟨by decide, by decide⟩, by decide +kernel⟩, wm_X9_sailChanged, wv_X9_sailChanged⟩
theorem wc_X9_change : Cond.code yX9_change cX9_change 12 (some .int) ∈ ev_GW := tm_5 (List.mem_of_getElem? (i := 66) rfl) rfl
theorem wm_X9_change : Cond.instanceMethod yX9_change ∈ ev_GW := tm_5 (List.mem_of_getElem? (i := 64) rfl) rfl
theorem wv_X9_change : Cond.selects "HelmHand" yX9_change yX9_change ∈ ev_GW := tm_5 (List.mem_of_getElem? (i := 65) rfl) rfl
theorem mi_X9_change : ev_MI K_X9_change 4 := ⟨⟨wi_X9, wc_X9_change, ⟨by decide, by decide⟩, by decide +kernel⟩, wm_X9_change, wv_X9_change⟩
theorem wc_J6_bitCount_0f7a4 : Cond.code yJ6_bitCount_0f7a4 cJ6_bitCount_0f7a4 1 (some .int) ∈ ev_GW := tm_5 (List.mem_of_getElem? (i := 77) rfl) rfl
theorem ws_J6_bitCount_0f7a4 : Cond.static yJ6_bitCount_0f7a4 ∈ ev_GW := tm_5 (List.mem_of_getElem? (i := 76) rfl) rfl
theorem mi_J6_bitCount_0f7a4 : ev_MS K_J6_bitCount_0f7a4 1 := ⟨⟨wi_J6, wc_J6_bitCount_0f7a4, ⟨by decide, by decide⟩, by decide +kernel⟩, ws_J6_bitCount_0f7a4⟩
theorem wc_X9_handIn : Cond.code yX9_handIn cX9_handIn 3 (some .int) ∈ ev_GW := tm_5 (List.mem_of_getElem? (i := 86) rfl) rfl
theorem ws_X9_handIn : Cond.static yX9_handIn ∈ ev_GW := tm_5 (List.mem_of_getElem? (i := 85) rfl) rfl
theorem mi_X9_handIn : ev_MS K_X9_handIn 3 := ⟨⟨wi_X9, wc_X9_handIn, ⟨by decide, by decide⟩, by decide +kernel⟩, ws_X9_handIn⟩
theorem wc_X9_handsOf : Cond.code yX9_handsOf cX9_handsOf 4 (some .int) ∈ ev_GW := tm_5 (List.mem_of_getElem? (i := 83) rfl) rfl
theorem ws_X9_handsOf : Cond.static yX9_handsOf ∈ ev_GW := tm_5 (List.mem_of_getElem? (i := 82) rfl) rfl
theorem mi_X9_handsOf : ev_MS K_X9_handsOf 2 := ⟨⟨wi_X9, wc_X9_handsOf, ⟨by decide, by decide⟩, by decide +kernel⟩, ws_X9_handsOf⟩
theorem wc_X9_costInTurns : Cond.code yX9_costInTurns cX9_costInTurns 8 (some .long) ∈ ev_GW := tm_5 (List.mem_of_getElem? (i := 90) rfl) rfl
theorem wm_X9_costInTurns : Cond.instanceMethod yX9_costInTurns ∈ ev_GW := tm_5 (List.mem_of_getElem? (i := 89) rfl) rfl
theorem wv_X9_costInTurns : Cond.selects "HelmHand" yX9_costInTurns yX9_costInTurns ∈ ev_GW := tm_0 (List.mem_of_getElem? (i := 40) rfl) rfl
theorem mi_X9_costInTurns : ev_MI K_X9_costInTurns 4 := ⟨⟨wi_X9, wc_X9_costInTurns, ⟨by decide, by decide⟩, by decide +kernel⟩, wm_X9_costInTurns, wv_X9_costInTurns⟩
theorem wc_X9_order : Cond.code yX9_order cX9_order 14 (some .int) ∈ ev_GW := tm_5 (List.mem_of_getElem? (i := 74) rfl) rfl
theorem wm_X9_order : Cond.instanceMethod yX9_order ∈ ev_GW := tm_5 (List.mem_of_getElem? (i := 72) rfl) rfl
theorem wv_X9_order : Cond.selects "HelmHand" yX9_order yX9_order ∈ ev_GW := tm_5 (List.mem_of_getElem? (i := 73) rfl) rfl
theorem mi_X9_order : ev_MI K_X9_order 4 := ⟨⟨wi_X9, wc_X9_order, ⟨by decide, by decide⟩, by decide +kernel⟩, wm_X9_order, wv_X9_order⟩
theorem wc_X9_both : Cond.code yX9_both cX9_both 9 (some .long) ∈ ev_GW := tm_5 (List.mem_of_getElem? (i := 94) rfl) rfl
theorem wm_X9_both : Cond.instanceMethod yX9_both ∈ ev_GW := tm_5 (List.mem_of_getElem? (i := 92) rfl) rfl
theorem wv_X9_both : Cond.selects "HelmHand" yX9_both yX9_both ∈ ev_GW := tm_5 (List.mem_of_getElem? (i := 93) rfl) rfl
theorem mi_X9_both : ev_MI K_X9_both 5 := ⟨⟨wi_X9, wc_X9_both, ⟨by decide, by decide⟩, by decide +kernel⟩, wm_X9_both, wv_X9_both⟩
theorem wc_X9_apart : Cond.code yX9_apart cX9_apart 6 (some .int) ∈ ev_GW := tm_5 (List.mem_of_getElem? (i := 102) rfl) rfl
theorem wm_X9_apart : Cond.instanceMethod yX9_apart ∈ ev_GW := tm_5 (List.mem_of_getElem? (i := 100) rfl) rfl
theorem wv_X9_apart : Cond.selects "HelmHand" yX9_apart yX9_apart ∈ ev_GW := tm_5 (List.mem_of_getElem? (i := 101) rfl) rfl
theorem mi_X9_apart : ev_MI K_X9_apart 4 := ⟨⟨wi_X9, wc_X9_apart, ⟨by decide, by decide⟩, by decide +kernel⟩, wm_X9_apart, wv_X9_apart⟩
theorem wc_X9_whose : Cond.code yX9_whose cX9_whose 8 (some .int) ∈ ev_GW := tm_5 (List.mem_of_getElem? (i := 110) rfl) rfl
theorem wm_X9_whose : Cond.instanceMethod yX9_whose ∈ ev_GW := tm_5 (List.mem_of_getElem? (i := 108) rfl) rfl
theorem wv_X9_whose : Cond.selects "HelmHand" yX9_whose yX9_whose ∈ ev_GW := tm_5 (List.mem_of_getElem? (i := 109) rfl) rfl
theorem mi_X9_whose : ev_MI K_X9_whose 2 := ⟨⟨wi_X9, wc_X9_whose, ⟨by decide, by decide⟩, by decide +kernel⟩, wm_X9_whose, wv_X9_whose⟩
theorem wc_X9_tells : Cond.code yX9_tells cX9_tells 9 (some .int) ∈ ev_GW := tm_5 (List.mem_of_getElem? (i := 115) rfl) rfl
theorem wm_X9_tells : Cond.instanceMethod yX9_tells ∈ ev_GW := tm_5 (List.mem_of_getElem? (i := 113) rfl) rfl
theorem wv_X9_tells : Cond.selects "HelmHand" yX9_tells yX9_tells ∈ ev_GW := tm_5 (List.mem_of_getElem? (i := 114) rfl) rfl
theorem mi_X9_tells : ev_MI K_X9_tells 3 := ⟨⟨wi_X9, wc_X9_tells, ⟨by decide, by decide⟩, by decide +kernel⟩, wm_X9_tells, wv_X9_tells⟩
theorem wc_X9_slipped : Cond.code yX9_slipped cX9_slipped 15 (some .long) ∈ ev_GW := tm_5 (List.mem_of_getElem? (i := 119) rfl) rfl
theorem wm_X9_slipped : Cond.instanceMethod yX9_slipped ∈ ev_GW := tm_5 (List.mem_of_getElem? (i := 117) rfl) rfl
theorem wv_X9_slipped : Cond.selects "HelmHand" yX9_slipped yX9_slipped ∈ ev_GW := tm_5 (List.mem_of_getElem? (i := 118) rfl) rfl
theorem mi_X9_slipped : ev_MI K_X9_slipped 6 := ⟨⟨wi_X9, wc_X9_slipped, ⟨by decide, by decide⟩, by decide +kernel⟩, wm_X9_slipped, wv_X9_slipped⟩
theorem wc_X9_lead : Cond.code yX9_lead cX9_lead 6 (some .int) ∈ ev_GW := tm_5 (List.mem_of_getElem? (i := 123) rfl) rfl
theorem wm_X9_lead : Cond.instanceMethod yX9_lead ∈ ev_GW := tm_5 (List.mem_of_getElem? (i := 121) rfl) rfl
theorem wv_X9_lead : Cond.selects "HelmHand" yX9_lead yX9_lead ∈ ev_GW := tm_5 (List.mem_of_getElem? (i := 122) rfl) rfl
theorem mi_X9_lead : ev_MI K_X9_lead 4 := ⟨⟨wi_X9, wc_X9_lead, ⟨by decide, by decide⟩, by decide +kernel⟩, wm_X9_lead, wv_X9_lead⟩
theorem wc_X9_deadest : Cond.code yX9_deadest cX9_deadest 4 (some .int) ∈ ev_GW := tm_5 (List.mem_of_getElem? (i := 131) rfl) rfl
theorem wm_X9_deadest : Cond.instanceMethod yX9_deadest ∈ ev_GW := tm_5 (List.mem_of_getElem? (i := 130) rfl) rfl
theorem wv_X9_deadest : Cond.selects "HelmHand" yX9_deadest yX9_deadest ∈ ev_GW := tm_0 (List.mem_of_getElem? (i := 41) rfl) rfl
theorem mi_X9_deadest : ev_MI K_X9_deadest 2 := ⟨⟨wi_X9, wc_X9_deadest, ⟨by decide, by decide⟩, by decide +kernel⟩, wm_X9_deadest, wv_X9_deadest⟩
theorem wc_X9_leastGear : Cond.code yX9_leastGear cX9_leastGear 5 (some .int) ∈ ev_GW := tm_5 (List.mem_of_getElem? (i := 135) rfl) rfl
theorem wm_X9_leastGear : Cond.instanceMethod yX9_leastGear ∈ ev_GW := tm_5 (List.mem_of_getElem? (i := 134) rfl) rfl
theorem wv_X9_leastGear : Cond.selects "HelmHand" yX9_leastGear yX9_leastGear ∈ ev_GW := tm_0 (List.mem_of_getElem? (i := 42) rfl) rfl
theorem mi_X9_leastGear : ev_MI K_X9_leastGear 3 := ⟨⟨wi_X9, wc_X9_leastGear, ⟨by decide, by decide⟩, by decide +kernel⟩, wm_X9_leastGear, wv_X9_leastGear⟩
theorem wc_X9_bound : Cond.code yX9_bound cX9_bound 6 (some .int) ∈ ev_GW := tm_5 (List.mem_of_getElem? (i := 127) rfl) rfl
theorem wm_X9_bound : Cond.instanceMethod yX9_bound ∈ ev_GW := tm_5 (List.mem_of_getElem? (i := 125) rfl) rfl
theorem wv_X9_bound : Cond.selects "HelmHand" yX9_bound yX9_bound ∈ ev_GW := tm_5 (List.mem_of_getElem? (i := 126) rfl) rfl
theorem mi_X9_bound : ev_MI K_X9_bound 5 := ⟨⟨wi_X9, wc_X9_bound, ⟨by decide, by decide⟩, by decide +kernel⟩, wm_X9_bound, wv_X9_bound⟩
theorem wc_X9_first : Cond.code yX9_first cX9_first 5 (some .int) ∈ ev_GW := tm_5 (List.mem_of_getElem? (i := 139) rfl) rfl
theorem wm_X9_first : Cond.instanceMethod yX9_first ∈ ev_GW := tm_5 (List.mem_of_getElem? (i := 137) rfl) rfl
theorem wv_X9_first : Cond.selects "HelmHand" yX9_first yX9_first ∈ ev_GW := tm_5 (List.mem_of_getElem? (i := 138) rfl) rfl
theorem mi_X9_first : ev_MI K_X9_first 4 := ⟨⟨wi_X9, wc_X9_first, ⟨by decide, by decide⟩, by decide +kernel⟩, wm_X9_first, wv_X9_first⟩
theorem wc_X9_better : Cond.code yX9_better cX9_better 9 (some .int) ∈ ev_GW := tm_5 (List.mem_of_getElem? (i := 152) rfl) rfl
theorem wm_X9_better : Cond.instanceMethod yX9_better ∈ ev_GW := tm_5 (List.mem_of_getElem? (i := 150) rfl) rfl
theorem wv_X9_better : Cond.selects "HelmHand" yX9_better yX9_better ∈ ev_GW := tm_5 (List.mem_of_getElem? (i := 151) rfl) rfl
theorem mi_X9_better : ev_MI K_X9_better 4 := ⟨⟨wi_X9, wc_X9_better, ⟨by decide, by decide⟩, by decide +kernel⟩, wm_X9_better, wv_X9_better⟩
theorem wc_X9_reads : Cond.code yX9_reads cX9_reads 8 (some .int) ∈ ev_GW := tm_5 (List.mem_of_getElem? (i := 156) rfl) rfl
theorem wm_X9_reads : Cond.instanceMethod yX9_reads ∈ ev_GW := tm_5 (List.mem_of_getElem? (i := 154) rfl) rfl
theorem wv_X9_reads : Cond.selects "HelmHand" yX9_reads yX9_reads ∈ ev_GW := tm_5 (List.mem_of_getElem? (i := 155) rfl) rfl
theorem mi_X9_reads : ev_MI K_X9_reads 6 := ⟨⟨wi_X9, wc_X9_reads, ⟨by decide, by decide⟩, by decide +kernel⟩, wm_X9_reads, wv_X9_reads⟩
theorem wc_X9_parted : Cond.code yX9_parted cX9_parted 13 (some .int) ∈ ev_GW := tm_5 (List.mem_of_getElem? (i := 160) rfl) rfl
theorem wm_X9_parted : Cond.instanceMethod yX9_parted ∈ ev_GW := tm_5 (List.mem_of_getElem? (i := 158) rfl) rfl
theorem wv_X9_parted : Cond.selects "HelmHand" yX9_parted yX9_parted ∈ ev_GW := tm_5 (List.mem_of_getElem? (i := 159) rfl) rfl
theorem mi_X9_parted : ev_MI K_X9_parted 4 := ⟨⟨wi_X9, wc_X9_parted, ⟨by decide, by decide⟩, by decide +kernel⟩, wm_X9_parted, wv_X9_parted⟩
theorem wc_X9_count : Cond.code yX9_count cX9_count 2 (some .int) ∈ ev_GW := tm_5 (List.mem_of_getElem? (i := 164) rfl) rfl
theorem wm_X9_count : Cond.instanceMethod yX9_count ∈ ev_GW := tm_5 (List.mem_of_getElem? (i := 162) rfl) rfl
theorem wv_X9_count : Cond.selects "HelmHand" yX9_count yX9_count ∈ ev_GW := tm_5 (List.mem_of_getElem? (i := 163) rfl) rfl
theorem mi_X9_count : ev_MI K_X9_count 1 := ⟨⟨wi_X9, wc_X9_count, ⟨by decide, by decide⟩, by decide +kernel⟩, wm_X9_count, wv_X9_count⟩
theorem wc_X9_image : Cond.code yX9_image cX9_image 2 (some .boolean) ∈ ev_GW := tm_5 (List.mem_of_getElem? (i := 169) rfl) rfl
theorem wm_X9_image : Cond.instanceMethod yX9_image ∈ ev_GW := tm_5 (List.mem_of_getElem? (i := 167) rfl) rfl
theorem wv_X9_image : Cond.selects "HelmHand" yX9_image yX9_image ∈ ev_GW := tm_5 (List.mem_of_getElem? (i := 168) rfl) rfl
theorem mi_X9_image : ev_MI K_X9_image 1 := ⟨⟨wi_X9, wc_X9_image, ⟨by decide, by decide⟩, by decide +kernel⟩, wm_X9_image, wv_X9_image⟩
theorem wc_X9_again : Cond.code yX9_again cX9_again 2 (some .boolean) ∈ ev_GW := tm_5 (List.mem_of_getElem? (i := 178) rfl) rfl
theorem wm_X9_again : Cond.instanceMethod yX9_again ∈ ev_GW := tm_5 (List.mem_of_getElem? (i := 176) rfl) rfl
theorem wv_X9_again : Cond.selects "HelmHand" yX9_again yX9_again ∈ ev_GW := tm_5 (List.mem_of_getElem? (i := 177) rfl) rfl
theorem mi_X9_again : ev_MI K_X9_again 1 := ⟨⟨wi_X9, wc_X9_again, ⟨by decide, by decide⟩, by decide +kernel⟩, wm_X9_again, wv_X9_again⟩
theorem wc_X10_in : Cond.code yX10_in cX10_in 3 (some .boolean) ∈ ev_GW := tm_6 (List.mem_of_getElem? (i := 98) rfl) rfl
theorem ws_X10_in : Cond.static yX10_in ∈ ev_GW := tm_6 (List.mem_of_getElem? (i := 97) rfl) rfl
theorem mi_X10_in : ev_MS K_X10_in 3 := ⟨⟨wi_X10, wc_X10_in, ⟨by decide, by decide⟩, by decide +kernel⟩, ws_X10_in⟩
theorem wc_X10_has : Cond.code yX10_has cX10_has 2 (some .boolean) ∈ ev_GW := tm_7 (List.mem_of_getElem? (i := 153) rfl) rfl
theorem ws_X10_has : Cond.static yX10_has ∈ ev_GW := tm_7 (List.mem_of_getElem? (i := 152) rfl) rfl
theorem mi_X10_has : ev_MS K_X10_has 2 := ⟨⟨wi_X10, wc_X10_has, ⟨by decide, by decide⟩, by decide +kernel⟩, ws_X10_has⟩
theorem wc_X10_plain : Cond.code yX10_plain cX10_plain 1 (some .int) ∈ ev_GW := tm_7 (List.mem_of_getElem? (i := 33) rfl) rfl
theorem ws_X10_plain : Cond.static yX10_plain ∈ ev_GW := tm_7 (List.mem_of_getElem? (i := 32) rfl) rfl
theorem mi_X10_plain : ev_MS K_X10_plain 1 := ⟨⟨wi_X10, wc_X10_plain, ⟨by decide, by decide⟩, by decide +kernel⟩, ws_X10_plain⟩
theorem wc_X10_within : Cond.code yX10_within cX10_within 2 (some .int) ∈ ev_GW := tm_7 (List.mem_of_getElem? (i := 30) rfl) rfl
theorem ws_X10_within : Cond.static yX10_within ∈ ev_GW := tm_7 (List.mem_of_getElem? (i := 29) rfl) rfl
theorem mi_X10_within : ev_MS K_X10_within 2 := ⟨⟨wi_X10, wc_X10_within, ⟨by decide, by decide⟩, by decide +kernel⟩, ws_X10_within⟩
theorem wc_X10_copyAll : Cond.code yX10_copyAll cX10_copyAll 4 none ∈ ev_GW := tm_7 (List.mem_of_getElem? (i := 222) rfl) rfl
theorem wm_X10_copyAll : Cond.instanceMethod yX10_copyAll ∈ ev_GW := tm_7 (List.mem_of_getElem? (i := 221) rfl) rfl
theorem wv_X10_copyAll : Cond.selects "HelmHandModel" yX10_copyAll yX10_copyAll ∈ ev_GW := tm_0 (List.mem_of_getElem? (i := 85) rfl) rfl
theorem mi_X10_copyAll : ev_MI K_X10_copyAll 2 := ⟨⟨wi_X10, wc_X10_copyAll, ⟨by decide, by decide⟩, by decide +kernel⟩, wm_X10_copyAll, wv_X10_copyAll⟩
theorem wc_X10_mostOf : Cond.code yX10_mostOf cX10_mostOf 1 (some .int) ∈ ev_GW := tm_6 (List.mem_of_getElem? (i := 105) rfl) rfl
theorem ws_X10_mostOf : Cond.static yX10_mostOf ∈ ev_GW := tm_6 (List.mem_of_getElem? (i := 104) rfl) rfl
theorem mi_X10_mostOf : ev_MS K_X10_mostOf 1 := ⟨⟨wi_X10, wc_X10_mostOf, ⟨by decide, by decide⟩, by decide +kernel⟩, ws_X10_mostOf⟩
theorem wc_X10_is : Cond.code yX10_is cX10_is 3 (some .boolean) ∈ ev_GW := tm_6 (List.mem_of_getElem? (i := 109) rfl) rfl
theorem wm_X10_is : Cond.instanceMethod yX10_is ∈ ev_GW := tm_6 (List.mem_of_getElem? (i := 108) rfl) rfl
theorem wv_X10_is : Cond.selects "HelmHandModel" yX10_is yX10_is ∈ ev_GW := tm_0 (List.mem_of_getElem? (i := 44) rfl) rfl
theorem mi_X10_is : ev_MI K_X10_is 2 := ⟨⟨wi_X10, wc_X10_is, ⟨by decide, by decide⟩, by decide +kernel⟩, wm_X10_is, wv_X10_is⟩
theorem wc_X10_four : Cond.code yX10_four cX10_four 3 none ∈ ev_GW := tm_6 (List.mem_of_getElem? (i := 91) rfl) rfl
theorem wm_X10_four : Cond.instanceMethod yX10_four ∈ ev_GW := tm_6 (List.mem_of_getElem? (i := 90) rfl) rfl
theorem wv_X10_four : Cond.selects "HelmHandModel" yX10_four yX10_four ∈ ev_GW := tm_0 (List.mem_of_getElem? (i := 43) rfl) rfl
theorem mi_X10_four : ev_MI K_X10_four 1 := ⟨⟨wi_X10, wc_X10_four, ⟨by decide, by decide⟩, by decide +kernel⟩, wm_X10_four, wv_X10_four⟩
theorem wc_X10_feed : Cond.code yX10_feed cX10_feed 6 (some .int) ∈ ev_GW := tm_6 (List.mem_of_getElem? (i := 87) rfl) rfl
theorem wm_X10_feed : Cond.instanceMethod yX10_feed ∈ ev_GW := tm_6 (List.mem_of_getElem? (i := 85) rfl) rfl
theorem wv_X10_feed : Cond.selects "HelmHandModel" yX10_feed yX10_feed ∈ ev_GW := tm_6 (List.mem_of_getElem? (i := 86) rfl) rfl
theorem mi_X10_feed : ev_MI K_X10_feed 5 := ⟨⟨wi_X10, wc_X10_feed, ⟨by decide, by decide⟩, by decide +kernel⟩, wm_X10_feed, wv_X10_feed⟩
theorem wc_X10_end : Cond.code yX10_end cX10_end 2 (some .int) ∈ ev_GW := tm_6 (List.mem_of_getElem? (i := 95) rfl) rfl
theorem wm_X10_end : Cond.instanceMethod yX10_end ∈ ev_GW := tm_6 (List.mem_of_getElem? (i := 93) rfl) rfl
theorem wv_X10_end : Cond.selects "HelmHandModel" yX10_end yX10_end ∈ ev_GW := tm_6 (List.mem_of_getElem? (i := 94) rfl) rfl
theorem mi_X10_end : ev_MI K_X10_end 1 := ⟨⟨wi_X10, wc_X10_end, ⟨by decide, by decide⟩, by decide +kernel⟩, wm_X10_end, wv_X10_end⟩
theorem wc_X10_see : Cond.code yX10_see cX10_see 1 (some .int) ∈ ev_GW := tm_6 (List.mem_of_getElem? (i := 125) rfl) rfl
theorem wm_X10_see : Cond.instanceMethod yX10_see ∈ ev_GW := tm_6 (List.mem_of_getElem? (i := 124) rfl) rfl
theorem wv_X10_see : Cond.selects "HelmHandModel" yX10_see yX10_see ∈ ev_GW := tm_0 (List.mem_of_getElem? (i := 48) rfl) rfl
theorem mi_X10_see : ev_MI K_X10_see 0 := ⟨⟨wi_X10, wc_X10_see, ⟨by decide, by decide⟩, by decide +kernel⟩, wm_X10_see, wv_X10_see⟩
theorem wc_X10_token : Cond.code yX10_token cX10_token 3 none ∈ ev_GW := tm_6 (List.mem_of_getElem? (i := 121) rfl) rfl
theorem wm_X10_token : Cond.instanceMethod yX10_token ∈ ev_GW := tm_6 (List.mem_of_getElem? (i := 120) rfl) rfl
theorem wv_X10_token : Cond.selects "HelmHandModel" yX10_token yX10_token ∈ ev_GW := tm_0 (List.mem_of_getElem? (i := 47) rfl) rfl
theorem mi_X10_token : ev_MI K_X10_token 0 := ⟨⟨wi_X10, wc_X10_token, ⟨by decide, by decide⟩, by decide +kernel⟩, wm_X10_token, wv_X10_token⟩
theorem wc_X10_stops : Cond.code yX10_stops cX10_stops 1 (some .boolean) ∈ ev_GW := tm_6 (List.mem_of_getElem? (i := 143) rfl) rfl
theorem wm_X10_stops : Cond.instanceMethod yX10_stops ∈ ev_GW := tm_6 (List.mem_of_getElem? (i := 142) rfl) rfl
theorem wv_X10_stops : Cond.selects "HelmHandModel" yX10_stops yX10_stops ∈ ev_GW := tm_0 (List.mem_of_getElem? (i := 50) rfl) rfl
theorem mi_X10_stops : ev_MI K_X10_stops 0 := ⟨⟨wi_X10, wc_X10_stops, ⟨by decide, by decide⟩, by decide +kernel⟩, wm_X10_stops, wv_X10_stops⟩
theorem wc_X10_later : Cond.code yX10_later cX10_later 3 none ∈ ev_GW := tm_6 (List.mem_of_getElem? (i := 159) rfl) rfl
theorem wm_X10_later : Cond.instanceMethod yX10_later ∈ ev_GW := tm_6 (List.mem_of_getElem? (i := 158) rfl) rfl
theorem wv_X10_later : Cond.selects "HelmHandModel" yX10_later yX10_later ∈ ev_GW := tm_0 (List.mem_of_getElem? (i := 54) rfl) rfl
theorem mi_X10_later : ev_MI K_X10_later 2 := ⟨⟨wi_X10, wc_X10_later, ⟨by decide, by decide⟩, by decide +kernel⟩, wm_X10_later, wv_X10_later⟩
theorem wc_X10_number : Cond.code yX10_number cX10_number 3 (some .boolean) ∈ ev_GW := tm_6 (List.mem_of_getElem? (i := 155) rfl) rfl
theorem wm_X10_number : Cond.instanceMethod yX10_number ∈ ev_GW := tm_6 (List.mem_of_getElem? (i := 154) rfl) rfl
theorem wv_X10_number : Cond.selects "HelmHandModel" yX10_number yX10_number ∈ ev_GW := tm_0 (List.mem_of_getElem? (i := 53) rfl) rfl
theorem mi_X10_number : ev_MI K_X10_number 2 := ⟨⟨wi_X10, wc_X10_number, ⟨by decide, by decide⟩, by decide +kernel⟩, wm_X10_number, wv_X10_number⟩
theorem wc_X10_signed : Cond.code yX10_signed cX10_signed 4 (some .boolean) ∈ ev_GW := tm_6 (List.mem_of_getElem? (i := 151) rfl) rfl
theorem wm_X10_signed : Cond.instanceMethod yX10_signed ∈ ev_GW := tm_6 (List.mem_of_getElem? (i := 150) rfl) rfl
theorem wv_X10_signed : Cond.selects "HelmHandModel" yX10_signed yX10_signed ∈ ev_GW := tm_0 (List.mem_of_getElem? (i := 52) rfl) rfl
theorem mi_X10_signed : ev_MI K_X10_signed 1 := ⟨⟨wi_X10, wc_X10_signed, ⟨by decide, by decide⟩, by decide +kernel⟩, wm_X10_signed, wv_X10_signed⟩
theorem wc_X10_into : Cond.code yX10_into cX10_into 5 (some .boolean) ∈ ev_GW := tm_6 (List.mem_of_getElem? (i := 167) rfl) rfl
theorem wm_X10_into : Cond.instanceMethod yX10_into ∈ ev_GW := tm_6 (List.mem_of_getElem? (i := 166) rfl) rfl
theorem wv_X10_into : Cond.selects "HelmHandModel" yX10_into yX10_into ∈ ev_GW := tm_0 (List.mem_of_getElem? (i := 56) rfl) rfl
theorem mi_X10_into : ev_MI K_X10_into 3 := ⟨⟨wi_X10, wc_X10_into, ⟨by decide, by decide⟩, by decide +kernel⟩, wm_X10_into, wv_X10_into⟩
theorem wc_X10_signedInto : Cond.code yX10_signedInto cX10_signedInto 4 (some .boolean) ∈ ev_GW := tm_6 (List.mem_of_getElem? (i := 147) rfl) rfl
theorem wm_X10_signedInto : Cond.instanceMethod yX10_signedInto ∈ ev_GW := tm_6 (List.mem_of_getElem? (i := 146) rfl) rfl
theorem wv_X10_signedInto : Cond.selects "HelmHandModel" yX10_signedInto yX10_signedInto ∈ ev_GW := tm_0 (List.mem_of_getElem? (i := 51) rfl) rfl
theorem mi_X10_signedInto : ev_MI K_X10_signedInto 2 := ⟨⟨wi_X10, wc_X10_signedInto, ⟨by decide, by decide⟩, by decide +kernel⟩, wm_X10_signedInto, wv_X10_signedInto⟩
theorem wc_X10_list : Cond.code yX10_list cX10_list 5 (some .boolean) ∈ ev_GW := tm_6 (List.mem_of_getElem? (i := 163) rfl) rfl
theorem wm_X10_list : Cond.instanceMethod yX10_list ∈ ev_GW := tm_6 (List.mem_of_getElem? (i := 162) rfl) rfl
theorem wv_X10_list : Cond.selects "HelmHandModel" yX10_list yX10_list ∈ ev_GW := tm_0 (List.mem_of_getElem? (i := 55) rfl) rfl
theorem mi_X10_list : ev_MI K_X10_list 4 := ⟨⟨wi_X10, wc_X10_list, ⟨by decide, by decide⟩, by decide +kernel⟩, wm_X10_list, wv_X10_list⟩
theorem wc_X10_shipLine : Cond.code yX10_shipLine cX10_shipLine 4 (some .boolean) ∈ ev_GW := tm_6 (List.mem_of_getElem? (i := 129) rfl) rfl
theorem wm_X10_shipLine : Cond.instanceMethod yX10_shipLine ∈ ev_GW := tm_6 (List.mem_of_getElem? (i := 128) rfl) rfl
theorem wv_X10_shipLine : Cond.selects "HelmHandModel" yX10_shipLine yX10_shipLine ∈ ev_GW := tm_0 (List.mem_of_getElem? (i := 49) rfl) rfl
theorem mi_X10_shipLine : ev_MI K_X10_shipLine 1 := ⟨⟨wi_X10, wc_X10_shipLine, ⟨by decide, by decide⟩, by decide +kernel⟩, wm_X10_shipLine, wv_X10_shipLine⟩
theorem wc_X10_handLine : Cond.code yX10_handLine cX10_handLine 6 (some .boolean) ∈ ev_GW := tm_6 (List.mem_of_getElem? (i := 171) rfl) rfl
theorem wm_X10_handLine : Cond.instanceMethod yX10_handLine ∈ ev_GW := tm_6 (List.mem_of_getElem? (i := 170) rfl) rfl
theorem wv_X10_handLine : Cond.selects "HelmHandModel" yX10_handLine yX10_handLine ∈ ev_GW := tm_0 (List.mem_of_getElem? (i := 57) rfl) rfl
theorem mi_X10_handLine : ev_MI K_X10_handLine 2 := ⟨⟨wi_X10, wc_X10_handLine, ⟨by decide, by decide⟩, by decide +kernel⟩, wm_X10_handLine, wv_X10_handLine⟩
theorem wc_X10_paperLine : Cond.code yX10_paperLine cX10_paperLine 3 (some .boolean) ∈ ev_GW := tm_6 (List.mem_of_getElem? (i := 185) rfl) rfl
theorem wm_X10_paperLine : Cond.instanceMethod yX10_paperLine ∈ ev_GW := tm_6 (List.mem_of_getElem? (i := 184) rfl) rfl
theorem wv_X10_paperLine : Cond.selects "HelmHandModel" yX10_paperLine yX10_paperLine ∈ ev_GW := tm_0 (List.mem_of_getElem? (i := 58) rfl) rfl
theorem mi_X10_paperLine : ev_MI K_X10_paperLine 1 := ⟨⟨wi_X10, wc_X10_paperLine, ⟨by decide, by decide⟩, by decide +kernel⟩, wm_X10_paperLine, wv_X10_paperLine⟩
theorem wc_X10_watchLine : Cond.code yX10_watchLine cX10_watchLine 6 (some .boolean) ∈ ev_GW := tm_6 (List.mem_of_getElem? (i := 190) rfl) rfl
theorem wm_X10_watchLine : Cond.instanceMethod yX10_watchLine ∈ ev_GW := tm_6 (List.mem_of_getElem? (i := 189) rfl) rfl
theorem wv_X10_watchLine : Cond.selects "HelmHandModel" yX10_watchLine yX10_watchLine ∈ ev_GW := tm_0 (List.mem_of_getElem? (i := 59) rfl) rfl
theorem mi_X10_watchLine : ev_MI K_X10_watchLine 2 := ⟨⟨wi_X10, wc_X10_watchLine, ⟨by decide, by decide⟩, by decide +kernel⟩, wm_X10_watchLine, wv_X10_watchLine⟩
theorem wc_X10_clear : Cond.code yX10_clear cX10_clear 3 none ∈ ev_GW := tm_6 (List.mem_of_getElem? (i := 117) rfl) rfl
theorem wm_X10_clear : Cond.instanceMethod yX10_clear ∈ ev_GW := tm_6 (List.mem_of_getElem? (i := 116) rfl) rfl
theorem wv_X10_clear : Cond.selects "HelmHandModel" yX10_clear yX10_clear ∈ ev_GW := tm_0 (List.mem_of_getElem? (i := 46) rfl) rfl
theorem mi_X10_clear : ev_MI K_X10_clear 1 := ⟨⟨wi_X10, wc_X10_clear, ⟨by decide, by decide⟩, by decide +kernel⟩, wm_X10_clear, wv_X10_clear⟩
theorem wc_X10_readText : Cond.code yX10_readText cX10_readText 6 (some .boolean) ∈ ev_GW := tm_6 (List.mem_of_getElem? (i := 113) rfl) rfl
theorem wm_X10_readText : Cond.instanceMethod yX10_readText ∈ ev_GW := tm_6 (List.mem_of_getElem? (i := 112) rfl) rfl
theorem wv_X10_readText : Cond.selects "HelmHandModel" yX10_readText yX10_readText ∈ ev_GW := tm_0 (List.mem_of_getElem? (i := 45) rfl) rfl
theorem mi_X10_readText : ev_MI K_X10_readText 1 := ⟨⟨wi_X10, wc_X10_readText, ⟨by decide, by decide⟩, by decide +kernel⟩, wm_X10_readText, wv_X10_readText⟩
theorem wc_X10_store : Cond.code yX10_store cX10_store 4 none ∈ ev_GW := tm_6 (List.mem_of_getElem? (i := 195) rfl) rfl
theorem wm_X10_store : Cond.instanceMethod yX10_store ∈ ev_GW := tm_6 (List.mem_of_getElem? (i := 194) rfl) rfl
theorem wv_X10_store : Cond.selects "HelmHandModel" yX10_store yX10_store ∈ ev_GW := tm_0 (List.mem_of_getElem? (i := 60) rfl) rfl
theorem mi_X10_store : ev_MI K_X10_store 2 := ⟨⟨wi_X10, wc_X10_store, ⟨by decide, by decide⟩, by decide +kernel⟩, wm_X10_store, wv_X10_store⟩
theorem wc_X10_text : Cond.code yX10_text cX10_text 4 (some .int) ∈ ev_GW := tm_6 (List.mem_of_getElem? (i := 102) rfl) rfl
theorem wm_X10_text : Cond.instanceMethod yX10_text ∈ ev_GW := tm_6 (List.mem_of_getElem? (i := 100) rfl) rfl
theorem wv_X10_text : Cond.selects "HelmHandModel" yX10_text yX10_text ∈ ev_GW := tm_6 (List.mem_of_getElem? (i := 101) rfl) rfl
theorem mi_X10_text : ev_MI K_X10_text 2 := ⟨⟨wi_X10, wc_X10_text, ⟨by decide, by decide⟩, by decide +kernel⟩, wm_X10_text, wv_X10_text⟩
theorem wc_X10_fault : Cond.code yX10_fault cX10_fault 2 (some .int) ∈ ev_GW := tm_6 (List.mem_of_getElem? (i := 199) rfl) rfl
theorem wm_X10_fault : Cond.instanceMethod yX10_fault ∈ ev_GW := tm_6 (List.mem_of_getElem? (i := 197) rfl) rfl
theorem wv_X10_fault : Cond.selects "HelmHandModel" yX10_fault yX10_fault ∈ ev_GW := tm_6 (List.mem_of_getElem? (i := 198) rfl) rfl
theorem mi_X10_fault : ev_MI K_X10_fault 1 := ⟨⟨wi_X10, wc_X10_fault, ⟨by decide, by decide⟩, by decide +kernel⟩, wm_X10_fault, wv_X10_fault⟩
theorem wc_X10_ship : Cond.code yX10_ship cX10_ship 3 (some .int) ∈ ev_GW := tm_6 (List.mem_of_getElem? (i := 203) rfl) rfl
theorem wm_X10_ship : Cond.instanceMethod yX10_ship ∈ ev_GW := tm_6 (List.mem_of_getElem? (i := 201) rfl) rfl
theorem wv_X10_ship : Cond.selects "HelmHandModel" yX10_ship yX10_ship ∈ ev_GW := tm_6 (List.mem_of_getElem? (i := 202) rfl) rfl
theorem mi_X10_ship : ev_MI K_X10_ship 2 := ⟨⟨wi_X10, wc_X10_ship, ⟨by decide, by decide⟩, by decide +kernel⟩, wm_X10_ship, wv_X10_ship⟩
theorem wc_X10_hand : Cond.code yX10_hand cX10_hand 4 (some .int) ∈ ev_GW := tm_6 (List.mem_of_getElem? (i := 208) rfl) rfl
theorem wm_X10_hand : Cond.instanceMethod yX10_hand ∈ ev_GW := tm_6 (List.mem_of_getElem? (i := 206) rfl) rfl
theorem wv_X10_hand : Cond.selects "HelmHandModel" yX10_hand yX10_hand ∈ ev_GW := tm_6 (List.mem_of_getElem? (i := 207) rfl) rfl
theorem mi_X10_hand : ev_MI K_X10_hand 2 := ⟨⟨wi_X10, wc_X10_hand, ⟨by decide, by decide⟩, by decide +kernel⟩, wm_X10_hand, wv_X10_hand⟩
theorem wc_X10_paper : Cond.code yX10_paper cX10_paper 3 (some .int) ∈ ev_GW := tm_6 (List.mem_of_getElem? (i := 212) rfl) rfl
theorem wm_X10_paper : Cond.instanceMethod yX10_paper ∈ ev_GW := tm_6 (List.mem_of_getElem? (i := 210) rfl) rfl
theorem wv_X10_paper : Cond.selects "HelmHandModel" yX10_paper yX10_paper ∈ ev_GW := tm_6 (List.mem_of_getElem? (i := 211) rfl) rfl
theorem mi_X10_paper : ev_MI K_X10_paper 2 := ⟨⟨wi_X10, wc_X10_paper, ⟨by decide, by decide⟩, by decide +kernel⟩, wm_X10_paper, wv_X10_paper⟩
theorem wc_X10_watch : Cond.code yX10_watch cX10_watch 4 (some .int) ∈ ev_GW := tm_6 (List.mem_of_getElem? (i := 216) rfl) rfl
theorem wm_X10_watch : Cond.instanceMethod yX10_watch ∈ ev_GW := tm_6 (List.mem_of_getElem? (i := 214) rfl) rfl
theorem wv_X10_watch : Cond.selects "HelmHandModel" yX10_watch yX10_watch ∈ ev_GW := tm_6 (List.mem_of_getElem? (i := 215) rfl) rfl
theorem mi_X10_watch : ev_MI K_X10_watch 3 := ⟨⟨wi_X10, wc_X10_watch, ⟨by decide, by decide⟩, by decide +kernel⟩, wm_X10_watch, wv_X10_watch⟩
theorem wc_X10_layShip : Cond.code yX10_layShip cX10_layShip 3 none ∈ ev_GW := tm_6 (List.mem_of_getElem? (i := 228) rfl) rfl
theorem wm_X10_layShip : Cond.instanceMethod yX10_layShip ∈ ev_GW := tm_6 (List.mem_of_getElem? (i := 227) rfl) rfl
theorem wv_X10_layShip : Cond.selects "HelmHandModel" yX10_layShip yX10_layShip ∈ ev_GW := tm_0 (List.mem_of_getElem? (i := 62) rfl) rfl
theorem mi_X10_layShip : ev_MI K_X10_layShip 1 := ⟨⟨wi_X10, wc_X10_layShip, ⟨by decide, by decide⟩, by decide +kernel⟩, wm_X10_layShip, wv_X10_layShip⟩
theorem wc_X10_layHand : Cond.code yX10_layHand cX10_layHand 4 none ∈ ev_GW := tm_6 (List.mem_of_getElem? (i := 232) rfl) rfl
theorem wm_X10_layHand : Cond.instanceMethod yX10_layHand ∈ ev_GW := tm_6 (List.mem_of_getElem? (i := 231) rfl) rfl
theorem wv_X10_layHand : Cond.selects "HelmHandModel" yX10_layHand yX10_layHand ∈ ev_GW := tm_0 (List.mem_of_getElem? (i := 63) rfl) rfl
theorem mi_X10_layHand : ev_MI K_X10_layHand 2 := ⟨⟨wi_X10, wc_X10_layHand, ⟨by decide, by decide⟩, by decide +kernel⟩, wm_X10_layHand, wv_X10_layHand⟩
theorem wc_X10_of : Cond.code yX10_of cX10_of 3 (some .int) ∈ ev_GW := tm_7 (List.mem_of_getElem? (i := 23) rfl) rfl
theorem wm_X10_of : Cond.instanceMethod yX10_of ∈ ev_GW := tm_7 (List.mem_of_getElem? (i := 22) rfl) rfl
theorem wv_X10_of : Cond.selects "HelmHandModel" yX10_of yX10_of ∈ ev_GW := tm_0 (List.mem_of_getElem? (i := 70) rfl) rfl
theorem mi_X10_of : ev_MI K_X10_of 2 := ⟨⟨wi_X10, wc_X10_of, ⟨by decide, by decide⟩, by decide +kernel⟩, wm_X10_of, wv_X10_of⟩
theorem wc_X10_draw : Cond.code yX10_draw cX10_draw 2 (some .int) ∈ ev_GW := tm_7 (List.mem_of_getElem? (i := 37) rfl) rfl
theorem wm_X10_draw : Cond.instanceMethod yX10_draw ∈ ev_GW := tm_7 (List.mem_of_getElem? (i := 36) rfl) rfl
theorem wv_X10_draw : Cond.selects "HelmHandModel" yX10_draw yX10_draw ∈ ev_GW := tm_0 (List.mem_of_getElem? (i := 72) rfl) rfl
theorem mi_X10_draw : ev_MI K_X10_draw 1 := ⟨⟨wi_X10, wc_X10_draw, ⟨by decide, by decide⟩, by decide +kernel⟩, wm_X10_draw, wv_X10_draw⟩
theorem wc_X10_signOf : Cond.code yX10_signOf cX10_signOf 1 (some .int) ∈ ev_GW := tm_7 (List.mem_of_getElem? (i := 3) rfl) rfl
theorem ws_X10_signOf : Cond.static yX10_signOf ∈ ev_GW := tm_7 (List.mem_of_getElem? (i := 2) rfl) rfl
theorem mi_X10_signOf : ev_MS K_X10_signOf 1 := ⟨⟨wi_X10, wc_X10_signOf, ⟨by decide, by decide⟩, by decide +kernel⟩, ws_X10_signOf⟩
theorem wc_X10_begin : Cond.code yX10_begin cX10_begin 2 none ∈ ev_GW := tm_7 (List.mem_of_getElem? (i := 0) rfl) rfl
theorem wm_X10_begin : Cond.instanceMethod yX10_begin ∈ ev_GW := tm_6 (List.mem_of_getElem? (i := 239) rfl) rfl
theorem wv_X10_begin : Cond.selects "HelmHandModel" yX10_begin yX10_begin ∈ ev_GW := tm_0 (List.mem_of_getElem? (i := 65) rfl) rfl
theorem mi_X10_begin : ev_MI K_X10_begin 1 := ⟨⟨wi_X10, wc_X10_begin, ⟨by decide, by decide⟩, by decide +kernel⟩, wm_X10_begin, wv_X10_begin⟩
theorem wc_X10_takes : Cond.code yX10_takes cX10_takes 2 none ∈ ev_GW := tm_7 (List.mem_of_getElem? (i := 11) rfl) rfl
theorem wm_X10_takes : Cond.instanceMethod yX10_takes ∈ ev_GW := tm_7 (List.mem_of_getElem? (i := 10) rfl) rfl
theorem wv_X10_takes : Cond.selects "HelmHandModel" yX10_takes yX10_takes ∈ ev_GW := tm_0 (List.mem_of_getElem? (i := 67) rfl) rfl
theorem mi_X10_takes : ev_MI K_X10_takes 1 := ⟨⟨wi_X10, wc_X10_takes, ⟨by decide, by decide⟩, by decide +kernel⟩, wm_X10_takes, wv_X10_takes⟩
theorem wc_X10_isStar : Cond.code yX10_isStar cX10_isStar 4 (some .boolean) ∈ ev_GW := tm_7 (List.mem_of_getElem? (i := 27) rfl) rfl
theorem wm_X10_isStar : Cond.instanceMethod yX10_isStar ∈ ev_GW := tm_7 (List.mem_of_getElem? (i := 26) rfl) rfl
theorem wv_X10_isStar : Cond.selects "HelmHandModel" yX10_isStar yX10_isStar ∈ ev_GW := tm_0 (List.mem_of_getElem? (i := 71) rfl) rfl
theorem mi_X10_isStar : ev_MI K_X10_isStar 2 := ⟨⟨wi_X10, wc_X10_isStar, ⟨by decide, by decide⟩, by decide +kernel⟩, wm_X10_isStar, wv_X10_isStar⟩
theorem wc_X10_sees : Cond.code yX10_sees cX10_sees 6 (some .int) ∈ ev_GW := tm_7 (List.mem_of_getElem? (i := 19) rfl) rfl
theorem wm_X10_sees : Cond.instanceMethod yX10_sees ∈ ev_GW := tm_7 (List.mem_of_getElem? (i := 18) rfl) rfl
theorem wv_X10_sees : Cond.selects "HelmHandModel" yX10_sees yX10_sees ∈ ev_GW := tm_0 (List.mem_of_getElem? (i := 69) rfl) rfl
theorem mi_X10_sees : ev_MI K_X10_sees 2 := ⟨⟨wi_X10, wc_X10_sees, ⟨by decide, by decide⟩, by decide +kernel⟩, wm_X10_sees, wv_X10_sees⟩
theorem wc_X10_wants : Cond.code yX10_wants cX10_wants 6 (some .int) ∈ ev_GW := tm_7 (List.mem_of_getElem? (i := 15) rfl) rfl
theorem wm_X10_wants : Cond.instanceMethod yX10_wants ∈ ev_GW := tm_7 (List.mem_of_getElem? (i := 14) rfl) rfl
theorem wv_X10_wants : Cond.selects "HelmHandModel" yX10_wants yX10_wants ∈ ev_GW := tm_0 (List.mem_of_getElem? (i := 68) rfl) rfl
theorem mi_X10_wants : ev_MI K_X10_wants 1 := ⟨⟨wi_X10, wc_X10_wants, ⟨by decide, by decide⟩, by decide +kernel⟩, wm_X10_wants, wv_X10_wants⟩
theorem wc_X10_tally : Cond.code yX10_tally cX10_tally 4 none ∈ ev_GW := tm_7 (List.mem_of_getElem? (i := 46) rfl) rfl
theorem wm_X10_tally : Cond.instanceMethod yX10_tally ∈ ev_GW := tm_7 (List.mem_of_getElem? (i := 45) rfl) rfl
theorem wv_X10_tally : Cond.selects "HelmHandModel" yX10_tally yX10_tally ∈ ev_GW := tm_0 (List.mem_of_getElem? (i := 74) rfl) rfl
theorem mi_X10_tally : ev_MI K_X10_tally 0 := ⟨⟨wi_X10, wc_X10_tally, ⟨by decide, by decide⟩, by decide +kernel⟩, wm_X10_tally, wv_X10_tally⟩
theorem wc_X10_pass : Cond.code yX10_pass cX10_pass 8 none ∈ ev_GW := tm_7 (List.mem_of_getElem? (i := 42) rfl) rfl
theorem wm_X10_pass : Cond.instanceMethod yX10_pass ∈ ev_GW := tm_7 (List.mem_of_getElem? (i := 41) rfl) rfl
theorem wv_X10_pass : Cond.selects "HelmHandModel" yX10_pass yX10_pass ∈ ev_GW := tm_0 (List.mem_of_getElem? (i := 73) rfl) rfl
theorem mi_X10_pass : ev_MI K_X10_pass 2 := ⟨⟨wi_X10, wc_X10_pass, ⟨by decide, by decide⟩, by decide +kernel⟩, wm_X10_pass, wv_X10_pass⟩
theorem wc_X10_steer : Cond.code yX10_steer cX10_steer 5 none ∈ ev_GW := tm_7 (List.mem_of_getElem? (i := 7) rfl) rfl
theorem wm_X10_steer : Cond.instanceMethod yX10_steer ∈ ev_GW := tm_7 (List.mem_of_getElem? (i := 6) rfl) rfl
theorem wv_X10_steer : Cond.selects "HelmHandModel" yX10_steer yX10_steer ∈ ev_GW := tm_0 (List.mem_of_getElem? (i := 66) rfl) rfl
theorem mi_X10_steer : ev_MI K_X10_steer 2 := ⟨⟨wi_X10, wc_X10_steer, ⟨by decide, by decide⟩, by decide +kernel⟩, wm_X10_steer, wv_X10_steer⟩
theorem wc_X10_runBy : Cond.code yX10_runBy cX10_runBy 5 none ∈ ev_GW := tm_6 (List.mem_of_getElem? (i := 236) rfl) rfl
theorem wm_X10_runBy : Cond.instanceMethod yX10_runBy ∈ ev_GW := tm_6 (List.mem_of_getElem? (i := 235) rfl) rfl
theorem wv_X10_runBy : Cond.selects "HelmHandModel" yX10_runBy yX10_runBy ∈ ev_GW := tm_0 (List.mem_of_getElem? (i := 64) rfl) rfl
theorem mi_X10_runBy : ev_MI K_X10_runBy 3 := ⟨⟨wi_X10, wc_X10_runBy, ⟨by decide, by decide⟩, by decide +kernel⟩, wm_X10_runBy, wv_X10_runBy⟩
theorem wc_X10_cost : Cond.code yX10_cost cX10_cost 1 (some .long) ∈ ev_GW := tm_7 (List.mem_of_getElem? (i := 56) rfl) rfl
theorem wm_X10_cost : Cond.instanceMethod yX10_cost ∈ ev_GW := tm_7 (List.mem_of_getElem? (i := 55) rfl) rfl
theorem wv_X10_cost : Cond.selects "HelmHandModel" yX10_cost yX10_cost ∈ ev_GW := tm_0 (List.mem_of_getElem? (i := 75) rfl) rfl
theorem mi_X10_cost : ev_MI K_X10_cost 0 := ⟨⟨wi_X10, wc_X10_cost, ⟨by decide, by decide⟩, by decide +kernel⟩, wm_X10_cost, wv_X10_cost⟩
theorem wc_X10_costBy : Cond.code yX10_costBy cX10_costBy 2 (some .long) ∈ ev_GW := tm_7 (List.mem_of_getElem? (i := 81) rfl) rfl
theorem wm_X10_costBy : Cond.instanceMethod yX10_costBy ∈ ev_GW := tm_7 (List.mem_of_getElem? (i := 80) rfl) rfl
theorem wv_X10_costBy : Cond.selects "HelmHandModel" yX10_costBy yX10_costBy ∈ ev_GW := tm_0 (List.mem_of_getElem? (i := 79) rfl) rfl
theorem mi_X10_costBy : ev_MI K_X10_costBy 1 := ⟨⟨wi_X10, wc_X10_costBy, ⟨by decide, by decide⟩, by decide +kernel⟩, wm_X10_costBy, wv_X10_costBy⟩
theorem wc_X10_grows : Cond.code yX10_grows cX10_grows 1 (some .boolean) ∈ ev_GW := tm_7 (List.mem_of_getElem? (i := 60) rfl) rfl
theorem wm_X10_grows : Cond.instanceMethod yX10_grows ∈ ev_GW := tm_7 (List.mem_of_getElem? (i := 59) rfl) rfl
theorem wv_X10_grows : Cond.selects "HelmHandModel" yX10_grows yX10_grows ∈ ev_GW := tm_0 (List.mem_of_getElem? (i := 76) rfl) rfl
theorem mi_X10_grows : ev_MI K_X10_grows 0 := ⟨⟨wi_X10, wc_X10_grows, ⟨by decide, by decide⟩, by decide +kernel⟩, wm_X10_grows, wv_X10_grows⟩
theorem wc_X10_lay : Cond.code yX10_lay cX10_lay 4 (some .boolean) ∈ ev_GW := tm_6 (List.mem_of_getElem? (i := 224) rfl) rfl
theorem wm_X10_lay : Cond.instanceMethod yX10_lay ∈ ev_GW := tm_6 (List.mem_of_getElem? (i := 223) rfl) rfl
theorem wv_X10_lay : Cond.selects "HelmHandModel" yX10_lay yX10_lay ∈ ev_GW := tm_0 (List.mem_of_getElem? (i := 61) rfl) rfl
theorem mi_X10_lay : ev_MI K_X10_lay 3 := ⟨⟨wi_X10, wc_X10_lay, ⟨by decide, by decide⟩, by decide +kernel⟩, wm_X10_lay, wv_X10_lay⟩
theorem wc_X10_second : Cond.code yX10_second cX10_second 6 (some .int) ∈ ev_GW := tm_6 (List.mem_of_getElem? (i := 220) rfl) rfl
theorem wm_X10_second : Cond.instanceMethod yX10_second ∈ ev_GW := tm_6 (List.mem_of_getElem? (i := 218) rfl) rfl
theorem wv_X10_second : Cond.selects "HelmHandModel" yX10_second yX10_second ∈ ev_GW := tm_6 (List.mem_of_getElem? (i := 219) rfl) rfl
theorem mi_X10_second : ev_MI K_X10_second 5 := ⟨⟨wi_X10, wc_X10_second, ⟨by decide, by decide⟩, by decide +kernel⟩, wm_X10_second, wv_X10_second⟩
theorem wc_X10_run : Cond.code yX10_run cX10_run 6 (some .long) ∈ ev_GW := tm_7 (List.mem_of_getElem? (i := 51) rfl) rfl
theorem wm_X10_run : Cond.instanceMethod yX10_run ∈ ev_GW := tm_7 (List.mem_of_getElem? (i := 49) rfl) rfl
theorem wv_X10_run : Cond.selects "HelmHandModel" yX10_run yX10_run ∈ ev_GW := tm_7 (List.mem_of_getElem? (i := 50) rfl) rfl
theorem mi_X10_run : ev_MI K_X10_run 5 := ⟨⟨wi_X10, wc_X10_run, ⟨by decide, by decide⟩, by decide +kernel⟩, wm_X10_run, wv_X10_run⟩
theorem wc_X10_peak : Cond.code yX10_peak cX10_peak 6 (some .int) ∈ ev_GW := tm_7 (List.mem_of_getElem? (i := 64) rfl) rfl
theorem wm_X10_peak : Cond.instanceMethod yX10_peak ∈ ev_GW := tm_7 (List.mem_of_getElem? (i := 62) rfl) rfl
theorem wv_X10_peak : Cond.selects "HelmHandModel" yX10_peak yX10_peak ∈ ev_GW := tm_7 (List.mem_of_getElem? (i := 63) rfl) rfl
theorem mi_X10_peak : ev_MI K_X10_peak 5 := ⟨⟨wi_X10, wc_X10_peak, ⟨by decide, by decide⟩, by decide +kernel⟩, wm_X10_peak, wv_X10_peak⟩
theorem wc_X10_layFor : Cond.code yX10_layFor cX10_layFor 4 (some .boolean) ∈ ev_GW := tm_7 (List.mem_of_getElem? (i := 72) rfl) rfl
theorem wm_X10_layFor : Cond.instanceMethod yX10_layFor ∈ ev_GW := tm_7 (List.mem_of_getElem? (i := 71) rfl) rfl
theorem wv_X10_layFor : Cond.selects "HelmHandModel" yX10_layFor yX10_layFor ∈ ev_GW := tm_0 (List.mem_of_getElem? (i := 77) rfl) rfl
theorem mi_X10_layFor : ev_MI K_X10_layFor 3 := ⟨⟨wi_X10, wc_X10_layFor, ⟨by decide, by decide⟩, by decide +kernel⟩, wm_X10_layFor, wv_X10_layFor⟩
theorem wc_X10_put : Cond.code yX10_put cX10_put 3 none ∈ ev_GW := tm_7 (List.mem_of_getElem? (i := 77) rfl) rfl
theorem wm_X10_put : Cond.instanceMethod yX10_put ∈ ev_GW := tm_7 (List.mem_of_getElem? (i := 76) rfl) rfl
theorem wv_X10_put : Cond.selects "HelmHandModel" yX10_put yX10_put ∈ ev_GW := tm_0 (List.mem_of_getElem? (i := 78) rfl) rfl
theorem mi_X10_put : ev_MI K_X10_put 2 := ⟨⟨wi_X10, wc_X10_put, ⟨by decide, by decide⟩, by decide +kernel⟩, wm_X10_put, wv_X10_put⟩
theorem wc_X10_found : Cond.code yX10_found cX10_found 13 (some .long) ∈ ev_GW := tm_7 (List.mem_of_getElem? (i := 68) rfl) rfl
theorem wm_X10_found : Cond.instanceMethod yX10_found ∈ ev_GW := tm_7 (List.mem_of_getElem? (i := 66) rfl) rfl
theorem wv_X10_found : Cond.selects "HelmHandModel" yX10_found yX10_found ∈ ev_GW := tm_7 (List.mem_of_getElem? (i := 67) rfl) rfl
theorem mi_X10_found : ev_MI K_X10_found 6 := ⟨⟨wi_X10, wc_X10_found, ⟨by decide, by decide⟩, by decide +kernel⟩, wm_X10_found, wv_X10_found⟩
theorem wc_X10_iron : Cond.code yX10_iron cX10_iron 11 (some .long) ∈ ev_GW := tm_7 (List.mem_of_getElem? (i := 85) rfl) rfl
theorem wm_X10_iron : Cond.instanceMethod yX10_iron ∈ ev_GW := tm_7 (List.mem_of_getElem? (i := 83) rfl) rfl
theorem wv_X10_iron : Cond.selects "HelmHandModel" yX10_iron yX10_iron ∈ ev_GW := tm_7 (List.mem_of_getElem? (i := 84) rfl) rfl
theorem mi_X10_iron : ev_MI K_X10_iron 4 := ⟨⟨wi_X10, wc_X10_iron, ⟨by decide, by decide⟩, by decide +kernel⟩, wm_X10_iron, wv_X10_iron⟩
theorem wc_X10_line : Cond.code yX10_line cX10_line 7 (some .int) ∈ ev_GW := tm_7 (List.mem_of_getElem? (i := 89) rfl) rfl
theorem wm_X10_line : Cond.instanceMethod yX10_line ∈ ev_GW := tm_7 (List.mem_of_getElem? (i := 87) rfl) rfl
theorem wv_X10_line : Cond.selects "HelmHandModel" yX10_line yX10_line ∈ ev_GW := tm_7 (List.mem_of_getElem? (i := 88) rfl) rfl
theorem mi_X10_line : ev_MI K_X10_line 4 := ⟨⟨wi_X10, wc_X10_line, ⟨by decide, by decide⟩, by decide +kernel⟩, wm_X10_line, wv_X10_line⟩
theorem wc_X10_alone : Cond.code yX10_alone cX10_alone 5 (some .int) ∈ ev_GW := tm_7 (List.mem_of_getElem? (i := 93) rfl) rfl
theorem wm_X10_alone : Cond.instanceMethod yX10_alone ∈ ev_GW := tm_7 (List.mem_of_getElem? (i := 91) rfl) rfl
theorem wv_X10_alone : Cond.selects "HelmHandModel" yX10_alone yX10_alone ∈ ev_GW := tm_7 (List.mem_of_getElem? (i := 92) rfl) rfl
theorem mi_X10_alone : ev_MI K_X10_alone 3 := ⟨⟨wi_X10, wc_X10_alone, ⟨by decide, by decide⟩, by decide +kernel⟩, wm_X10_alone, wv_X10_alone⟩
theorem wc_X10_hard : Cond.code yX10_hard cX10_hard 8 (some .int) ∈ ev_GW := tm_7 (List.mem_of_getElem? (i := 97) rfl) rfl
theorem wm_X10_hard : Cond.instanceMethod yX10_hard ∈ ev_GW := tm_7 (List.mem_of_getElem? (i := 95) rfl) rfl
theorem wv_X10_hard : Cond.selects "HelmHandModel" yX10_hard yX10_hard ∈ ev_GW := tm_7 (List.mem_of_getElem? (i := 96) rfl) rfl
theorem mi_X10_hard : ev_MI K_X10_hard 4 := ⟨⟨wi_X10, wc_X10_hard, ⟨by decide, by decide⟩, by decide +kernel⟩, wm_X10_hard, wv_X10_hard⟩
theorem wc_X10_set : Cond.code yX10_set cX10_set 11 (some .int) ∈ ev_GW := tm_7 (List.mem_of_getElem? (i := 101) rfl) rfl
theorem wm_X10_set : Cond.instanceMethod yX10_set ∈ ev_GW := tm_7 (List.mem_of_getElem? (i := 99) rfl) rfl
theorem wv_X10_set : Cond.selects "HelmHandModel" yX10_set yX10_set ∈ ev_GW := tm_7 (List.mem_of_getElem? (i := 100) rfl) rfl
theorem mi_X10_set : ev_MI K_X10_set 3 := ⟨⟨wi_X10, wc_X10_set, ⟨by decide, by decide⟩, by decide +kernel⟩, wm_X10_set, wv_X10_set⟩
theorem wc_X10_costWith : Cond.code yX10_costWith cX10_costWith 7 (some .long) ∈ ev_GW := tm_7 (List.mem_of_getElem? (i := 109) rfl) rfl
theorem wm_X10_costWith : Cond.instanceMethod yX10_costWith ∈ ev_GW := tm_7 (List.mem_of_getElem? (i := 108) rfl) rfl
theorem wv_X10_costWith : Cond.selects "HelmHandModel" yX10_costWith yX10_costWith ∈ ev_GW := tm_0 (List.mem_of_getElem? (i := 80) rfl) rfl
theorem mi_X10_costWith : ev_MI K_X10_costWith 3 := ⟨⟨wi_X10, wc_X10_costWith, ⟨by decide, by decide⟩, by decide +kernel⟩, wm_X10_costWith, wv_X10_costWith⟩
theorem wc_X10_worth : Cond.code yX10_worth cX10_worth 5 (some .long) ∈ ev_GW := tm_7 (List.mem_of_getElem? (i := 105) rfl) rfl
theorem wm_X10_worth : Cond.instanceMethod yX10_worth ∈ ev_GW := tm_7 (List.mem_of_getElem? (i := 103) rfl) rfl
theorem wv_X10_worth : Cond.selects "HelmHandModel" yX10_worth yX10_worth ∈ ev_GW := tm_7 (List.mem_of_getElem? (i := 104) rfl) rfl
theorem mi_X10_worth : ev_MI K_X10_worth 4 := ⟨⟨wi_X10, wc_X10_worth, ⟨by decide, by decide⟩, by decide +kernel⟩, wm_X10_worth, wv_X10_worth⟩
theorem wc_X10_night : Cond.code yX10_night cX10_night 5 (some .long) ∈ ev_GW := tm_7 (List.mem_of_getElem? (i := 113) rfl) rfl
theorem wm_X10_night : Cond.instanceMethod yX10_night ∈ ev_GW := tm_7 (List.mem_of_getElem? (i := 111) rfl) rfl
theorem wv_X10_night : Cond.selects "HelmHandModel" yX10_night yX10_night ∈ ev_GW := tm_7 (List.mem_of_getElem? (i := 112) rfl) rfl
theorem mi_X10_night : ev_MI K_X10_night 4 := ⟨⟨wi_X10, wc_X10_night, ⟨by decide, by decide⟩, by decide +kernel⟩, wm_X10_night, wv_X10_night⟩
theorem wc_X10_cloud : Cond.code yX10_cloud cX10_cloud 7 (some .int) ∈ ev_GW := tm_7 (List.mem_of_getElem? (i := 117) rfl) rfl
theorem wm_X10_cloud : Cond.instanceMethod yX10_cloud ∈ ev_GW := tm_7 (List.mem_of_getElem? (i := 115) rfl) rfl
theorem wv_X10_cloud : Cond.selects "HelmHandModel" yX10_cloud yX10_cloud ∈ ev_GW := tm_7 (List.mem_of_getElem? (i := 116) rfl) rfl
theorem mi_X10_cloud : ev_MI K_X10_cloud 4 := ⟨⟨wi_X10, wc_X10_cloud, ⟨by decide, by decide⟩, by decide +kernel⟩, wm_X10_cloud, wv_X10_cloud⟩
theorem wc_X10_coarse : Cond.code yX10_coarse cX10_coarse 9 (some .int) ∈ ev_GW := tm_7 (List.mem_of_getElem? (i := 121) rfl) rfl
theorem wm_X10_coarse : Cond.instanceMethod yX10_coarse ∈ ev_GW := tm_7 (List.mem_of_getElem? (i := 119) rfl) rfl
theorem wv_X10_coarse : Cond.selects "HelmHandModel" yX10_coarse yX10_coarse ∈ ev_GW := tm_7 (List.mem_of_getElem? (i := 120) rfl) rfl
theorem mi_X10_coarse : ev_MI K_X10_coarse 4 := ⟨⟨wi_X10, wc_X10_coarse, ⟨by decide, by decide⟩, by decide +kernel⟩, wm_X10_coarse, wv_X10_coarse⟩
theorem wc_X10_weary : Cond.code yX10_weary cX10_weary 10 (some .int) ∈ ev_GW := tm_7 (List.mem_of_getElem? (i := 125) rfl) rfl
theorem wm_X10_weary : Cond.instanceMethod yX10_weary ∈ ev_GW := tm_7 (List.mem_of_getElem? (i := 123) rfl) rfl
theorem wv_X10_weary : Cond.selects "HelmHandModel" yX10_weary yX10_weary ∈ ev_GW := tm_7 (List.mem_of_getElem? (i := 124) rfl) rfl
theorem mi_X10_weary : ev_MI K_X10_weary 5 := ⟨⟨wi_X10, wc_X10_weary, ⟨by decide, by decide⟩, by decide +kernel⟩, wm_X10_weary, wv_X10_weary⟩
theorem wc_X10_third : Cond.code yX10_third cX10_third 10 (some .int) ∈ ev_GW := tm_7 (List.mem_of_getElem? (i := 133) rfl) rfl
theorem wm_X10_third : Cond.instanceMethod yX10_third ∈ ev_GW := tm_7 (List.mem_of_getElem? (i := 132) rfl) rfl
theorem wv_X10_third : Cond.selects "HelmHandModel" yX10_third yX10_third ∈ ev_GW := tm_0 (List.mem_of_getElem? (i := 81) rfl) rfl
theorem mi_X10_third : ev_MI K_X10_third 3 := ⟨⟨wi_X10, wc_X10_third, ⟨by decide, by decide⟩, by decide +kernel⟩, wm_X10_third, wv_X10_third⟩
theorem wc_X10_tries : Cond.code yX10_tries cX10_tries 11 (some .long) ∈ ev_GW := tm_7 (List.mem_of_getElem? (i := 129) rfl) rfl
theorem wm_X10_tries : Cond.instanceMethod yX10_tries ∈ ev_GW := tm_7 (List.mem_of_getElem? (i := 127) rfl) rfl
theorem wv_X10_tries : Cond.selects "HelmHandModel" yX10_tries yX10_tries ∈ ev_GW := tm_7 (List.mem_of_getElem? (i := 128) rfl) rfl
theorem mi_X10_tries : ev_MI K_X10_tries 4 := ⟨⟨wi_X10, wc_X10_tries, ⟨by decide, by decide⟩, by decide +kernel⟩, wm_X10_tries, wv_X10_tries⟩
theorem wc_X10_learning : Cond.code yX10_learning cX10_learning 13 (some .int) ∈ ev_GW := tm_7 (List.mem_of_getElem? (i := 137) rfl) rfl
theorem wm_X10_learning : Cond.instanceMethod yX10_learning ∈ ev_GW := tm_7 (List.mem_of_getElem? (i := 135) rfl) rfl
theorem wv_X10_learning : Cond.selects "HelmHandModel" yX10_learning yX10_learning ∈ ev_GW := tm_7 (List.mem_of_getElem? (i := 136) rfl) rfl
theorem mi_X10_learning : ev_MI K_X10_learning 4 := ⟨⟨wi_X10, wc_X10_learning, ⟨by decide, by decide⟩, by decide +kernel⟩, wm_X10_learning, wv_X10_learning⟩
theorem wc_X10_steers : Cond.code yX10_steers cX10_steers 7 (some .long) ∈ ev_GW := tm_7 (List.mem_of_getElem? (i := 141) rfl) rfl
theorem wm_X10_steers : Cond.instanceMethod yX10_steers ∈ ev_GW := tm_7 (List.mem_of_getElem? (i := 139) rfl) rfl
theorem wv_X10_steers : Cond.selects "HelmHandModel" yX10_steers yX10_steers ∈ ev_GW := tm_7 (List.mem_of_getElem? (i := 140) rfl) rfl
theorem mi_X10_steers : ev_MI K_X10_steers 4 := ⟨⟨wi_X10, wc_X10_steers, ⟨by decide, by decide⟩, by decide +kernel⟩, wm_X10_steers, wv_X10_steers⟩
theorem wc_X10_change : Cond.code yX10_change cX10_change 9 (some .int) ∈ ev_GW := tm_7 (List.mem_of_getElem? (i := 146) rfl) rfl
theorem wm_X10_change : Cond.instanceMethod yX10_change ∈ ev_GW := tm_7 (List.mem_of_getElem? (i := 144) rfl) rfl
theorem wv_X10_change : Cond.selects "HelmHandModel" yX10_change yX10_change ∈ ev_GW := tm_7 (List.mem_of_getElem? (i := 145) rfl) rfl
theorem mi_X10_change : ev_MI K_X10_change 4 := ⟨⟨wi_X10, wc_X10_change, ⟨by decide, by decide⟩, by decide +kernel⟩, wm_X10_change, wv_X10_change⟩
theorem wc_X10_isOrder : Cond.code yX10_isOrder cX10_isOrder 8 (some .boolean) ∈ ev_GW := tm_7 (List.mem_of_getElem? (i := 157) rfl) rfl
theorem wm_X10_isOrder : Cond.instanceMethod yX10_isOrder ∈ ev_GW := tm_7 (List.mem_of_getElem? (i := 156) rfl) rfl
theorem wv_X10_isOrder : Cond.selects "HelmHandModel" yX10_isOrder yX10_isOrder ∈ ev_GW := tm_0 (List.mem_of_getElem? (i := 82) rfl) rfl
theorem mi_X10_isOrder : ev_MI K_X10_isOrder 3 := ⟨⟨wi_X10, wc_X10_isOrder, ⟨by decide, by decide⟩, by decide +kernel⟩, wm_X10_isOrder, wv_X10_isOrder⟩
theorem wc_X10_order : Cond.code yX10_order cX10_order 11 (some .int) ∈ ev_GW := tm_7 (List.mem_of_getElem? (i := 150) rfl) rfl
theorem wm_X10_order : Cond.instanceMethod yX10_order ∈ ev_GW := tm_7 (List.mem_of_getElem? (i := 148) rfl) rfl
theorem wv_X10_order : Cond.selects "HelmHandModel" yX10_order yX10_order ∈ ev_GW := tm_7 (List.mem_of_getElem? (i := 149) rfl) rfl
theorem mi_X10_order : ev_MI K_X10_order 4 := ⟨⟨wi_X10, wc_X10_order, ⟨by decide, by decide⟩, by decide +kernel⟩, wm_X10_order, wv_X10_order⟩
theorem wc_X10_both : Cond.code yX10_both cX10_both 8 (some .long) ∈ ev_GW := tm_7 (List.mem_of_getElem? (i := 161) rfl) rfl
theorem wm_X10_both : Cond.instanceMethod yX10_both ∈ ev_GW := tm_7 (List.mem_of_getElem? (i := 159) rfl) rfl
theorem wv_X10_both : Cond.selects "HelmHandModel" yX10_both yX10_both ∈ ev_GW := tm_7 (List.mem_of_getElem? (i := 160) rfl) rfl
theorem mi_X10_both : ev_MI K_X10_both 5 := ⟨⟨wi_X10, wc_X10_both, ⟨by decide, by decide⟩, by decide +kernel⟩, wm_X10_both, wv_X10_both⟩
theorem wc_X10_apartFrom : Cond.code yX10_apartFrom cX10_apartFrom 6 (some .long) ∈ ev_GW := tm_7 (List.mem_of_getElem? (i := 169) rfl) rfl
theorem wm_X10_apartFrom : Cond.instanceMethod yX10_apartFrom ∈ ev_GW := tm_7 (List.mem_of_getElem? (i := 168) rfl) rfl
theorem wv_X10_apartFrom : Cond.selects "HelmHandModel" yX10_apartFrom yX10_apartFrom ∈ ev_GW := tm_0 (List.mem_of_getElem? (i := 83) rfl) rfl
theorem mi_X10_apartFrom : ev_MI K_X10_apartFrom 1 := ⟨⟨wi_X10, wc_X10_apartFrom, ⟨by decide, by decide⟩, by decide +kernel⟩, wm_X10_apartFrom, wv_X10_apartFrom⟩
theorem wc_X10_apart : Cond.code yX10_apart cX10_apart 7 (some .int) ∈ ev_GW := tm_7 (List.mem_of_getElem? (i := 165) rfl) rfl
theorem wm_X10_apart : Cond.instanceMethod yX10_apart ∈ ev_GW := tm_7 (List.mem_of_getElem? (i := 163) rfl) rfl
theorem wv_X10_apart : Cond.selects "HelmHandModel" yX10_apart yX10_apart ∈ ev_GW := tm_7 (List.mem_of_getElem? (i := 164) rfl) rfl
theorem mi_X10_apart : ev_MI K_X10_apart 4 := ⟨⟨wi_X10, wc_X10_apart, ⟨by decide, by decide⟩, by decide +kernel⟩, wm_X10_apart, wv_X10_apart⟩
theorem wc_X10_whose : Cond.code yX10_whose cX10_whose 8 (some .int) ∈ ev_GW := tm_7 (List.mem_of_getElem? (i := 173) rfl) rfl
theorem wm_X10_whose : Cond.instanceMethod yX10_whose ∈ ev_GW := tm_7 (List.mem_of_getElem? (i := 171) rfl) rfl
theorem wv_X10_whose : Cond.selects "HelmHandModel" yX10_whose yX10_whose ∈ ev_GW := tm_7 (List.mem_of_getElem? (i := 172) rfl) rfl
theorem mi_X10_whose : ev_MI K_X10_whose 2 := ⟨⟨wi_X10, wc_X10_whose, ⟨by decide, by decide⟩, by decide +kernel⟩, wm_X10_whose, wv_X10_whose⟩
theorem wc_X10_tells : Cond.code yX10_tells cX10_tells 8 (some .int) ∈ ev_GW := tm_7 (List.mem_of_getElem? (i := 177) rfl) rfl
theorem wm_X10_tells : Cond.instanceMethod yX10_tells ∈ ev_GW := tm_7 (List.mem_of_getElem? (i := 175) rfl) rfl
theorem wv_X10_tells : Cond.selects "HelmHandModel" yX10_tells yX10_tells ∈ ev_GW := tm_7 (List.mem_of_getElem? (i := 176) rfl) rfl
theorem mi_X10_tells : ev_MI K_X10_tells 3 := ⟨⟨wi_X10, wc_X10_tells, ⟨by decide, by decide⟩, by decide +kernel⟩, wm_X10_tells, wv_X10_tells⟩
theorem wc_X10_slipped : Cond.code yX10_slipped cX10_slipped 13 (some .long) ∈ ev_GW := tm_7 (List.mem_of_getElem? (i := 181) rfl) rfl
theorem wm_X10_slipped : Cond.instanceMethod yX10_slipped ∈ ev_GW := tm_7 (List.mem_of_getElem? (i := 179) rfl) rfl
theorem wv_X10_slipped : Cond.selects "HelmHandModel" yX10_slipped yX10_slipped ∈ ev_GW := tm_7 (List.mem_of_getElem? (i := 180) rfl) rfl
theorem mi_X10_slipped : ev_MI K_X10_slipped 6 := ⟨⟨wi_X10, wc_X10_slipped, ⟨by decide, by decide⟩, by decide +kernel⟩, wm_X10_slipped, wv_X10_slipped⟩
theorem wc_X10_lead : Cond.code yX10_lead cX10_lead 6 (some .int) ∈ ev_GW := tm_7 (List.mem_of_getElem? (i := 185) rfl) rfl
theorem wm_X10_lead : Cond.instanceMethod yX10_lead ∈ ev_GW := tm_7 (List.mem_of_getElem? (i := 183) rfl) rfl
theorem wv_X10_lead : Cond.selects "HelmHandModel" yX10_lead yX10_lead ∈ ev_GW := tm_7 (List.mem_of_getElem? (i := 184) rfl) rfl
theorem mi_X10_lead : ev_MI K_X10_lead 4 := ⟨⟨wi_X10, wc_X10_lead, ⟨by decide, by decide⟩, by decide +kernel⟩, wm_X10_lead, wv_X10_lead⟩
theorem wc_X10_bound : Cond.code yX10_bound cX10_bound 8 (some .int) ∈ ev_GW := tm_7 (List.mem_of_getElem? (i := 189) rfl) rfl
theorem wm_X10_bound : Cond.instanceMethod yX10_bound ∈ ev_GW := tm_7 (List.mem_of_getElem? (i := 187) rfl) rfl
theorem wv_X10_bound : Cond.selects "HelmHandModel" yX10_bound yX10_bound ∈ ev_GW := tm_7 (List.mem_of_getElem? (i := 188) rfl) rfl
theorem mi_X10_bound : ev_MI K_X10_bound 5 := ⟨⟨wi_X10, wc_X10_bound, ⟨by decide, by decide⟩, by decide +kernel⟩, wm_X10_bound, wv_X10_bound⟩
theorem wc_X10_costOf : Cond.code yX10_costOf cX10_costOf 2 (some .long) ∈ ev_GW := tm_7 (List.mem_of_getElem? (i := 197) rfl) rfl
theorem wm_X10_costOf : Cond.instanceMethod yX10_costOf ∈ ev_GW := tm_7 (List.mem_of_getElem? (i := 196) rfl) rfl
theorem wv_X10_costOf : Cond.selects "HelmHandModel" yX10_costOf yX10_costOf ∈ ev_GW := tm_0 (List.mem_of_getElem? (i := 84) rfl) rfl
theorem mi_X10_costOf : ev_MI K_X10_costOf 1 := ⟨⟨wi_X10, wc_X10_costOf, ⟨by decide, by decide⟩, by decide +kernel⟩, wm_X10_costOf, wv_X10_costOf⟩
theorem wc_X10_first : Cond.code yX10_first cX10_first 11 (some .int) ∈ ev_GW := tm_7 (List.mem_of_getElem? (i := 193) rfl) rfl
theorem wm_X10_first : Cond.instanceMethod yX10_first ∈ ev_GW := tm_7 (List.mem_of_getElem? (i := 191) rfl) rfl
theorem wv_X10_first : Cond.selects "HelmHandModel" yX10_first yX10_first ∈ ev_GW := tm_7 (List.mem_of_getElem? (i := 192) rfl) rfl
theorem mi_X10_first : ev_MI K_X10_first 4 := ⟨⟨wi_X10, wc_X10_first, ⟨by decide, by decide⟩, by decide +kernel⟩, wm_X10_first, wv_X10_first⟩
theorem wc_X10_better : Cond.code yX10_better cX10_better 9 (some .int) ∈ ev_GW := tm_7 (List.mem_of_getElem? (i := 202) rfl) rfl
theorem wm_X10_better : Cond.instanceMethod yX10_better ∈ ev_GW := tm_7 (List.mem_of_getElem? (i := 200) rfl) rfl
theorem wv_X10_better : Cond.selects "HelmHandModel" yX10_better yX10_better ∈ ev_GW := tm_7 (List.mem_of_getElem? (i := 201) rfl) rfl
theorem mi_X10_better : ev_MI K_X10_better 4 := ⟨⟨wi_X10, wc_X10_better, ⟨by decide, by decide⟩, by decide +kernel⟩, wm_X10_better, wv_X10_better⟩
theorem wc_X10_reads : Cond.code yX10_reads cX10_reads 11 (some .int) ∈ ev_GW := tm_7 (List.mem_of_getElem? (i := 206) rfl) rfl
theorem wm_X10_reads : Cond.instanceMethod yX10_reads ∈ ev_GW := tm_7 (List.mem_of_getElem? (i := 204) rfl) rfl
theorem wv_X10_reads : Cond.selects "HelmHandModel" yX10_reads yX10_reads ∈ ev_GW := tm_7 (List.mem_of_getElem? (i := 205) rfl) rfl
theorem mi_X10_reads : ev_MI K_X10_reads 6 := ⟨⟨wi_X10, wc_X10_reads, ⟨by decide, by decide⟩, by decide +kernel⟩, wm_X10_reads, wv_X10_reads⟩
theorem wc_X10_parted : Cond.code yX10_parted cX10_parted 10 (some .int) ∈ ev_GW := tm_7 (List.mem_of_getElem? (i := 210) rfl) rfl
theorem wm_X10_parted : Cond.instanceMethod yX10_parted ∈ ev_GW := tm_7 (List.mem_of_getElem? (i := 208) rfl) rfl
theorem wv_X10_parted : Cond.selects "HelmHandModel" yX10_parted yX10_parted ∈ ev_GW := tm_7 (List.mem_of_getElem? (i := 209) rfl) rfl
theorem mi_X10_parted : ev_MI K_X10_parted 4 := ⟨⟨wi_X10, wc_X10_parted, ⟨by decide, by decide⟩, by decide +kernel⟩, wm_X10_parted, wv_X10_parted⟩
theorem wc_X10_count : Cond.code yX10_count cX10_count 2 (some .int) ∈ ev_GW := tm_7 (List.mem_of_getElem? (i := 214) rfl) rfl
theorem wm_X10_count : Cond.instanceMethod yX10_count ∈ ev_GW := tm_7 (List.mem_of_getElem? (i := 212) rfl) rfl
theorem wv_X10_count : Cond.selects "HelmHandModel" yX10_count yX10_count ∈ ev_GW := tm_7 (List.mem_of_getElem? (i := 213) rfl) rfl
theorem mi_X10_count : ev_MI K_X10_count 1 := ⟨⟨wi_X10, wc_X10_count, ⟨by decide, by decide⟩, by decide +kernel⟩, wm_X10_count, wv_X10_count⟩
theorem wc_X10_image : Cond.code yX10_image cX10_image 2 (some .boolean) ∈ ev_GW := tm_7 (List.mem_of_getElem? (i := 218) rfl) rfl
theorem wm_X10_image : Cond.instanceMethod yX10_image ∈ ev_GW := tm_7 (List.mem_of_getElem? (i := 216) rfl) rfl
theorem wv_X10_image : Cond.selects "HelmHandModel" yX10_image yX10_image ∈ ev_GW := tm_7 (List.mem_of_getElem? (i := 217) rfl) rfl
theorem mi_X10_image : ev_MI K_X10_image 1 := ⟨⟨wi_X10, wc_X10_image, ⟨by decide, by decide⟩, by decide +kernel⟩, wm_X10_image, wv_X10_image⟩
theorem wc_X10_again : Cond.code yX10_again cX10_again 2 (some .boolean) ∈ ev_GW := tm_7 (List.mem_of_getElem? (i := 229) rfl) rfl
theorem wm_X10_again : Cond.instanceMethod yX10_again ∈ ev_GW := tm_7 (List.mem_of_getElem? (i := 227) rfl) rfl
theorem wv_X10_again : Cond.selects "HelmHandModel" yX10_again yX10_again ∈ ev_GW := tm_7 (List.mem_of_getElem? (i := 228) rfl) rfl
theorem mi_X10_again : ev_MI K_X10_again 1 := ⟨⟨wi_X10, wc_X10_again, ⟨by decide, by decide⟩, by decide +kernel⟩, wm_X10_again, wv_X10_again⟩
theorem wl_J0_1059 : Cond.methodLink "java/lang/String" 1059 yJ3_checkIndex_8e157 ∈ ev_GW := tm_3 (List.mem_of_getElem? (i := 9) rfl) rfl
theorem cl1_J0_1059 {G : ev_G} {k : ev_K} {b : ev_B} {u : Nat × Nat} {pc : Nat} {L : List (Option ev_V)} {st : List ev_V} {m : ev_m} {Q : Option ev_V → ev_M → Prop} {fr lo : Nat} {m' : ev_m} {a0 a1 a2 : ev_V} {v : ev_V} (hc : k.2.1.cls = "java/lang/String") (d : decode k.1 pc = .ok (.invokestatic 1059, 3)) (hb : fr + 1 ≤ b.1 ∧ 22 + lo ≤ b.2.1) (hs : ev_cats st ≤ 8) (hC : ev_CF G K_J3_checkIndex_8e157 (fr, lo, 0, 0) [a0, a1, a2] m (some v) m') (kk : ev_E G k b u (pc + 3) L (v :: st) (ev_emb m') Q) : ev_E G k b u pc L (a2 :: a1 :: a0 :: st) (ev_emb m) Q := ev_cS (As := [a0, a1, a2]) (hc ▸ wl_J0_1059) mi_J3_checkIndex_8e157 rfl d hb hs rfl hC kk
theorem wl_J0_495 : Cond.methodLink "java/lang/String" 495 yJ1_charAt_3b067 ∈ ev_GW := tm_3 (List.mem_of_getElem? (i := 1) rfl) rfl
theorem cl1_J0_495 {G : ev_G} {k : ev_K} {b : ev_B} {u : Nat × Nat} {pc : Nat} {L : List (Option ev_V)} {st : List ev_V} {m : ev_m} {Q : Option ev_V → ev_M → Prop} {fr lo : Nat} {m' : ev_m} {a0 a1 : ev_V} {v : ev_V} (hc : k.2.1.cls = "java/lang/String") (d : decode k.1 pc = .ok (.invokestatic 495, 3)) (hb : fr + 1 ≤ b.1 ∧ 21 + lo ≤ b.2.1) (hs : ev_cats st ≤ 8) (hC : ev_CF G K_J1_charAt_3b067 (fr, lo, 0, 0) [a0, a1] m (some v) m') (kk : ev_E G k b u (pc + 3) L (v :: st) (ev_emb m') Q) : ev_E G k b u pc L (a1 :: a0 :: st) (ev_emb m) Q := ev_cS (As := [a0, a1]) (hc ▸ wl_J0_495) mi_J1_charAt_3b067 rfl d hb hs rfl hC kk
theorem wl_J1_9 : Cond.methodLink "java/lang/StringLatin1" 9 yJ0_checkIndex_df160 ∈ ev_GW := tm_3 (List.mem_of_getElem? (i := 4) rfl) rfl
theorem cl0_J1_9 {G : ev_G} {k : ev_K} {b : ev_B} {u : Nat × Nat} {pc : Nat} {L : List (Option ev_V)} {st : List ev_V} {m : ev_m} {Q : Option ev_V → ev_M → Prop} {fr lo : Nat} {m' : ev_m} {a0 a1 : ev_V} (hc : k.2.1.cls = "java/lang/StringLatin1") (d : decode k.1 pc = .ok (.invokestatic 9, 3)) (hb : fr + 1 ≤ b.1 ∧ 21 + lo ≤ b.2.1) (hs : ev_cats st ≤ 8) (hC : ev_CF G K_J0_checkIndex_df160 (fr, lo, 0, 0) [a0, a1] m none m') (kk : ev_E G k b u (pc + 3) L st (ev_emb m') Q) : ev_E G k b u pc L (a1 :: a0 :: st) (ev_emb m) Q := ev_cS (As := [a0, a1]) (hc ▸ wl_J1_9) mi_J0_checkIndex_df160 rfl d hb hs rfl hC kk
theorem wl_L_101 : Cond.methodLink "HelmHandLaw" 101 yX10_cloud ∈ ev_GW := tm_7 (List.mem_of_getElem? (i := 114) rfl) rfl
theorem cl1_L_101 {G : ev_G} {k : ev_K} {b : ev_B} {u : Nat × Nat} {pc : Nat} {L : List (Option ev_V)} {st : List ev_V} {m : ev_m} {Q : Option ev_V → ev_M → Prop} {i fr lo : Nat} {m' : ev_m} {a0 a1 a2 a3 : ev_V} {v : ev_V} (hc : k.2.1.cls = "HelmHandLaw") (d : decode k.1 pc = .ok (.invokevirtual 101, 3)) (hb : fr + 1 ≤ b.1 ∧ 26 + lo ≤ b.2.1) (hs : ev_cats st ≤ 8) (hC : ev_CF G K_X10_cloud (fr, lo, 0, 0) [vr 10 i, a0, a1, a2, a3] m (some v) m') (kk : ev_E G k b u (pc + 3) L (v :: st) (ev_emb m') Q) : ev_E G k b u pc L (a3 :: a2 :: a1 :: a0 :: vr 10 i :: st) (ev_emb m) Q := ev_cV1 (As := [a0, a1, a2, a3]) (ci := 10) (hc ▸ wl_L_101) mi_X10_cloud rfl rfl rfl d hb hs rfl hC kk
theorem wl_L_102 : Cond.methodLink "HelmHandLaw" 102 yX9_coarse ∈ ev_GW := tm_5 (List.mem_of_getElem? (i := 15) rfl) rfl
theorem cl1_L_102 {G : ev_G} {k : ev_K} {b : ev_B} {u : Nat × Nat} {pc : Nat} {L : List (Option ev_V)} {st : List ev_V} {m : ev_m} {Q : Option ev_V → ev_M → Prop} {i fr lo : Nat} {m' : ev_m} {a0 a1 a2 a3 : ev_V} {v : ev_V} (hc : k.2.1.cls = "HelmHandLaw") (d : decode k.1 pc = .ok (.invokevirtual 102, 3)) (hb : fr + 1 ≤ b.1 ∧ 28 + lo ≤ b.2.1) (hs : ev_cats st ≤ 8) (hC : ev_CF G K_X9_coarse (fr, lo, 0, 0) [vr 0 i, a0, a1, a2, a3] m (some v) m') (kk : ev_E G k b u (pc + 3) L (v :: st) (ev_emb m') Q) : ev_E G k b u pc L (a3 :: a2 :: a1 :: a0 :: vr 0 i :: st) (ev_emb m) Q := ev_cV1 (As := [a0, a1, a2, a3]) (ci := 9) (hc ▸ wl_L_102) mi_X9_coarse rfl rfl rfl d hb hs rfl hC kk
theorem wl_L_105 : Cond.methodLink "HelmHandLaw" 105 yX10_coarse ∈ ev_GW := tm_7 (List.mem_of_getElem? (i := 118) rfl) rfl
theorem cl1_L_105 {G : ev_G} {k : ev_K} {b : ev_B} {u : Nat × Nat} {pc : Nat} {L : List (Option ev_V)} {st : List ev_V} {m : ev_m} {Q : Option ev_V → ev_M → Prop} {i fr lo : Nat} {m' : ev_m} {a0 a1 a2 a3 : ev_V} {v : ev_V} (hc : k.2.1.cls = "HelmHandLaw") (d : decode k.1 pc = .ok (.invokevirtual 105, 3)) (hb : fr + 1 ≤ b.1 ∧ 28 + lo ≤ b.2.1) (hs : ev_cats st ≤ 8) (hC : ev_CF G K_X10_coarse (fr, lo, 0, 0) [vr 10 i, a0, a1, a2, a3] m (some v) m') (kk : ev_E G k b u (pc + 3) L (v :: st) (ev_emb m') Q) : ev_E G k b u pc L (a3 :: a2 :: a1 :: a0 :: vr 10 i :: st) (ev_emb m) Q := ev_cV1 (As := [a0, a1, a2, a3]) (ci := 10) (hc ▸ wl_L_105) mi_X10_coarse rfl rfl rfl d hb hs rfl hC kk
theorem wl_L_106 : Cond.methodLink "HelmHandLaw" 106 yX9_weary ∈ ev_GW := tm_5 (List.mem_of_getElem? (i := 19) rfl) rfl
theorem cl1_L_106 {G : ev_G} {k : ev_K} {b : ev_B} {u : Nat × Nat} {pc : Nat} {L : List (Option ev_V)} {st : List ev_V} {m : ev_m} {Q : Option ev_V → ev_M → Prop} {i fr lo : Nat} {m' : ev_m} {a0 a1 a2 a3 a4 : ev_V} {v : ev_V} (hc : k.2.1.cls = "HelmHandLaw") (d : decode k.1 pc = .ok (.invokevirtual 106, 3)) (hb : fr + 1 ≤ b.1 ∧ 26 + lo ≤ b.2.1) (hs : ev_cats st ≤ 8) (hC : ev_CF G K_X9_weary (fr, lo, 0, 0) [vr 0 i, a0, a1, a2, a3, a4] m (some v) m') (kk : ev_E G k b u (pc + 3) L (v :: st) (ev_emb m') Q) : ev_E G k b u pc L (a4 :: a3 :: a2 :: a1 :: a0 :: vr 0 i :: st) (ev_emb m) Q := ev_cV1 (As := [a0, a1, a2, a3, a4]) (ci := 9) (hc ▸ wl_L_106) mi_X9_weary rfl rfl rfl d hb hs rfl hC kk
theorem wl_L_110 : Cond.methodLink "HelmHandLaw" 110 yX10_weary ∈ ev_GW := tm_7 (List.mem_of_getElem? (i := 122) rfl) rfl
theorem cl1_L_110 {G : ev_G} {k : ev_K} {b : ev_B} {u : Nat × Nat} {pc : Nat} {L : List (Option ev_V)} {st : List ev_V} {m : ev_m} {Q : Option ev_V → ev_M → Prop} {i fr lo : Nat} {m' : ev_m} {a0 a1 a2 a3 a4 : ev_V} {v : ev_V} (hc : k.2.1.cls = "HelmHandLaw") (d : decode k.1 pc = .ok (.invokevirtual 110, 3)) (hb : fr + 1 ≤ b.1 ∧ 29 + lo ≤ b.2.1) (hs : ev_cats st ≤ 8) (hC : ev_CF G K_X10_weary (fr, lo, 0, 0) [vr 10 i, a0, a1, a2, a3, a4] m (some v) m') (kk : ev_E G k b u (pc + 3) L (v :: st) (ev_emb m') Q) : ev_E G k b u pc L (a4 :: a3 :: a2 :: a1 :: a0 :: vr 10 i :: st) (ev_emb m) Q := ev_cV1 (As := [a0, a1, a2, a3, a4]) (ci := 10) (hc ▸ wl_L_110) mi_X10_weary rfl rfl rfl d hb hs rfl hC kk
theorem wl_L_111 : Cond.methodLink "HelmHandLaw" 111 yX9_tries ∈ ev_GW := tm_5 (List.mem_of_getElem? (i := 31) rfl) rfl
theorem cl1_L_111 {G : ev_G} {k : ev_K} {b : ev_B} {u : Nat × Nat} {pc : Nat} {L : List (Option ev_V)} {st : List ev_V} {m : ev_m} {Q : Option ev_V → ev_M → Prop} {i fr lo : Nat} {m' : ev_m} {a0 a1 a2 a3 : ev_V} {v : ev_V} (hc : k.2.1.cls = "HelmHandLaw") (d : decode k.1 pc = .ok (.invokevirtual 111, 3)) (hb : fr + 1 ≤ b.1 ∧ 28 + lo ≤ b.2.1) (hs : ev_cats st ≤ 8) (hC : ev_CF G K_X9_tries (fr, lo, 0, 0) [vr 0 i, a0, a1, a2, a3] m (some v) m') (kk : ev_E G k b u (pc + 3) L (v :: st) (ev_emb m') Q) : ev_E G k b u pc L (a3 :: a2 :: a1 :: a0 :: vr 0 i :: st) (ev_emb m) Q := ev_cV1 (As := [a0, a1, a2, a3]) (ci := 9) (hc ▸ wl_L_111) mi_X9_tries rfl rfl rfl d hb hs rfl hC kk
theorem wl_L_114 : Cond.methodLink "HelmHandLaw" 114 yX10_tries ∈ ev_GW := tm_7 (List.mem_of_getElem? (i := 126) rfl) rfl
theorem cl1_L_114 {G : ev_G} {k : ev_K} {b : ev_B} {u : Nat × Nat} {pc : Nat} {L : List (Option ev_V)} {st : List ev_V} {m : ev_m} {Q : Option ev_V → ev_M → Prop} {i fr lo : Nat} {m' : ev_m} {a0 a1 a2 a3 : ev_V} {v : ev_V} (hc : k.2.1.cls = "HelmHandLaw") (d : decode k.1 pc = .ok (.invokevirtual 114, 3)) (hb : fr + 1 ≤ b.1 ∧ 30 + lo ≤ b.2.1) (hs : ev_cats st ≤ 8) (hC : ev_CF G K_X10_tries (fr, lo, 0, 0) [vr 10 i, a0, a1, a2, a3] m (some v) m') (kk : ev_E G k b u (pc + 3) L (v :: st) (ev_emb m') Q) : ev_E G k b u pc L (a3 :: a2 :: a1 :: a0 :: vr 10 i :: st) (ev_emb m) Q := ev_cV1 (As := [a0, a1, a2, a3]) (ci := 10) (hc ▸ wl_L_114) mi_X10_tries rfl rfl rfl d hb hs rfl hC kk
theorem wl_L_115 : Cond.methodLink "HelmHandLaw" 115 yX9_learning ∈ ev_GW := tm_5 (List.mem_of_getElem? (i := 42) rfl) rfl
theorem cl1_L_115 {G : ev_G} {k : ev_K} {b : ev_B} {u : Nat × Nat} {pc : Nat} {L : List (Option ev_V)} {st : List ev_V} {m : ev_m} {Q : Option ev_V → ev_M → Prop} {i fr lo : Nat} {m' : ev_m} {a0 a1 a2 a3 : ev_V} {v : ev_V} (hc : k.2.1.cls = "HelmHandLaw") (d : decode k.1 pc = .ok (.invokevirtual 115, 3)) (hb : fr + 1 ≤ b.1 ∧ 26 + lo ≤ b.2.1) (hs : ev_cats st ≤ 8) (hC : ev_CF G K_X9_learning (fr, lo, 0, 0) [vr 0 i, a0, a1, a2, a3] m (some v) m') (kk : ev_E G k b u (pc + 3) L (v :: st) (ev_emb m') Q) : ev_E G k b u pc L (a3 :: a2 :: a1 :: a0 :: vr 0 i :: st) (ev_emb m) Q := ev_cV1 (As := [a0, a1, a2, a3]) (ci := 9) (hc ▸ wl_L_115) mi_X9_learning rfl rfl rfl d hb hs rfl hC kk
theorem wl_L_118 : Cond.methodLink "HelmHandLaw" 118 yX10_learning ∈ ev_GW := tm_7 (List.mem_of_getElem? (i := 134) rfl) rfl
theorem cl1_L_118 {G : ev_G} {k : ev_K} {b : ev_B} {u : Nat × Nat} {pc : Nat} {L : List (Option ev_V)} {st : List ev_V} {m : ev_m} {Q : Option ev_V → ev_M → Prop} {i fr lo : Nat} {m' : ev_m} {a0 a1 a2 a3 : ev_V} {v : ev_V} (hc : k.2.1.cls = "HelmHandLaw") (d : decode k.1 pc = .ok (.invokevirtual 118, 3)) (hb : fr + 1 ≤ b.1 ∧ 32 + lo ≤ b.2.1) (hs : ev_cats st ≤ 8) (hC : ev_CF G K_X10_learning (fr, lo, 0, 0) [vr 10 i, a0, a1, a2, a3] m (some v) m') (kk : ev_E G k b u (pc + 3) L (v :: st) (ev_emb m') Q) : ev_E G k b u pc L (a3 :: a2 :: a1 :: a0 :: vr 10 i :: st) (ev_emb m) Q := ev_cV1 (As := [a0, a1, a2, a3]) (ci := 10) (hc ▸ wl_L_118) mi_X10_learning rfl rfl rfl d hb hs rfl hC kk
theorem wl_L_119 : Cond.methodLink "HelmHandLaw" 119 yX9_steers ∈ ev_GW := tm_5 (List.mem_of_getElem? (i := 50) rfl) rfl
theorem cl1_L_119 {G : ev_G} {k : ev_K} {b : ev_B} {u : Nat × Nat} {pc : Nat} {L : List (Option ev_V)} {st : List ev_V} {m : ev_m} {Q : Option ev_V → ev_M → Prop} {i fr lo : Nat} {m' : ev_m} {a0 a1 a2 a3 : ev_V} {v : ev_V} (hc : k.2.1.cls = "HelmHandLaw") (d : decode k.1 pc = .ok (.invokevirtual 119, 3)) (hb : fr + 1 ≤ b.1 ∧ 27 + lo ≤ b.2.1) (hs : ev_cats st ≤ 8) (hC : ev_CF G K_X9_steers (fr, lo, 0, 0) [vr 0 i, a0, a1, a2, a3] m (some v) m') (kk : ev_E G k b u (pc + 3) L (v :: st) (ev_emb m') Q) : ev_E G k b u pc L (a3 :: a2 :: a1 :: a0 :: vr 0 i :: st) (ev_emb m) Q := ev_cV1 (As := [a0, a1, a2, a3]) (ci := 9) (hc ▸ wl_L_119) mi_X9_steers rfl rfl rfl d hb hs rfl hC kk
theorem wl_L_122 : Cond.methodLink "HelmHandLaw" 122 yX10_steers ∈ ev_GW := tm_7 (List.mem_of_getElem? (i := 138) rfl) rfl
theorem cl1_L_122 {G : ev_G} {k : ev_K} {b : ev_B} {u : Nat × Nat} {pc : Nat} {L : List (Option ev_V)} {st : List ev_V} {m : ev_m} {Q : Option ev_V → ev_M → Prop} {i fr lo : Nat} {m' : ev_m} {a0 a1 a2 a3 : ev_V} {v : ev_V} (hc : k.2.1.cls = "HelmHandLaw") (d : decode k.1 pc = .ok (.invokevirtual 122, 3)) (hb : fr + 1 ≤ b.1 ∧ 26 + lo ≤ b.2.1) (hs : ev_cats st ≤ 8) (hC : ev_CF G K_X10_steers (fr, lo, 0, 0) [vr 10 i, a0, a1, a2, a3] m (some v) m') (kk : ev_E G k b u (pc + 3) L (v :: st) (ev_emb m') Q) : ev_E G k b u pc L (a3 :: a2 :: a1 :: a0 :: vr 10 i :: st) (ev_emb m) Q := ev_cV1 (As := [a0, a1, a2, a3]) (ci := 10) (hc ▸ wl_L_122) mi_X10_steers rfl rfl rfl d hb hs rfl hC kk
theorem wl_L_123 : Cond.methodLink "HelmHandLaw" 123 yX9_change ∈ ev_GW := tm_5 (List.mem_of_getElem? (i := 63) rfl) rfl
theorem cl1_L_123 {G : ev_G} {k : ev_K} {b : ev_B} {u : Nat × Nat} {pc : Nat} {L : List (Option ev_V)} {st : List ev_V} {m : ev_m} {Q : Option ev_V → ev_M → Prop} {i fr lo : Nat} {m' : ev_m} {a0 a1 a2 a3 : ev_V} {v : ev_V} (hc : k.2.1.cls = "HelmHandLaw") (d : decode k.1 pc = .ok (.invokevirtual 123, 3)) (hb : fr + 1 ≤ b.1 ∧ 31 + lo ≤ b.2.1) (hs : ev_cats st ≤ 8) (hC : ev_CF G K_X9_change (fr, lo, 0, 0) [vr 0 i, a0, a1, a2, a3] m (some v) m') (kk : ev_E G k b u (pc + 3) L (v :: st) (ev_emb m') Q) : ev_E G k b u pc L (a3 :: a2 :: a1 :: a0 :: vr 0 i :: st) (ev_emb m) Q := ev_cV1 (As := [a0, a1, a2, a3]) (ci := 9) (hc ▸ wl_L_123) mi_X9_change rfl rfl rfl d hb hs rfl hC kk
theorem wl_L_126 : Cond.methodLink "HelmHandLaw" 126 yX10_change ∈ ev_GW := tm_7 (List.mem_of_getElem? (i := 143) rfl) rfl
theorem cl1_L_126 {G : ev_G} {k : ev_K} {b : ev_B} {u : Nat × Nat} {pc : Nat} {L : List (Option ev_V)} {st : List ev_V} {m : ev_m} {Q : Option ev_V → ev_M → Prop} {i fr lo : Nat} {m' : ev_m} {a0 a1 a2 a3 : ev_V} {v : ev_V} (hc : k.2.1.cls = "HelmHandLaw") (d : decode k.1 pc = .ok (.invokevirtual 126, 3)) (hb : fr + 1 ≤ b.1 ∧ 28 + lo ≤ b.2.1) (hs : ev_cats st ≤ 8) (hC : ev_CF G K_X10_change (fr, lo, 0, 0) [vr 10 i, a0, a1, a2, a3] m (some v) m') (kk : ev_E G k b u (pc + 3) L (v :: st) (ev_emb m') Q) : ev_E G k b u pc L (a3 :: a2 :: a1 :: a0 :: vr 10 i :: st) (ev_emb m) Q := ev_cV1 (As := [a0, a1, a2, a3]) (ci := 10) (hc ▸ wl_L_126) mi_X10_change rfl rfl rfl d hb hs rfl hC kk
theorem wl_L_127 : Cond.methodLink "HelmHandLaw" 127 yX9_order ∈ ev_GW := tm_5 (List.mem_of_getElem? (i := 71) rfl) rfl
theorem cl1_L_127 {G : ev_G} {k : ev_K} {b : ev_B} {u : Nat × Nat} {pc : Nat} {L : List (Option ev_V)} {st : List ev_V} {m : ev_m} {Q : Option ev_V → ev_M → Prop} {i fr lo : Nat} {m' : ev_m} {a0 a1 a2 a3 : ev_V} {v : ev_V} (hc : k.2.1.cls = "HelmHandLaw") (d : decode k.1 pc = .ok (.invokevirtual 127, 3)) (hb : fr + 1 ≤ b.1 ∧ 33 + lo ≤ b.2.1) (hs : ev_cats st ≤ 8) (hC : ev_CF G K_X9_order (fr, lo, 0, 0) [vr 0 i, a0, a1, a2, a3] m (some v) m') (kk : ev_E G k b u (pc + 3) L (v :: st) (ev_emb m') Q) : ev_E G k b u pc L (a3 :: a2 :: a1 :: a0 :: vr 0 i :: st) (ev_emb m) Q := ev_cV1 (As := [a0, a1, a2, a3]) (ci := 9) (hc ▸ wl_L_127) mi_X9_order rfl rfl rfl d hb hs rfl hC kk
theorem wl_L_13 : Cond.methodLink "HelmHandLaw" 13 yX9_feed ∈ ev_GW := tm_2 (List.mem_of_getElem? (i := 138) rfl) rfl
theorem cl1_L_13 {G : ev_G} {k : ev_K} {b : ev_B} {u : Nat × Nat} {pc : Nat} {L : List (Option ev_V)} {st : List ev_V} {m : ev_m} {Q : Option ev_V → ev_M → Prop} {i fr lo : Nat} {m' : ev_m} {a0 a1 a2 a3 a4 : ev_V} {v : ev_V} (hc : k.2.1.cls = "HelmHandLaw") (d : decode k.1 pc = .ok (.invokevirtual 13, 3)) (hb : fr + 1 ≤ b.1 ∧ 26 + lo ≤ b.2.1) (hs : ev_cats st ≤ 8) (hC : ev_CF G K_X9_feed (fr, lo, 0, 0) [vr 0 i, a0, a1, a2, a3, a4] m (some v) m') (kk : ev_E G k b u (pc + 3) L (v :: st) (ev_emb m') Q) : ev_E G k b u pc L (a4 :: a3 :: a2 :: a1 :: a0 :: vr 0 i :: st) (ev_emb m) Q := ev_cV1 (As := [a0, a1, a2, a3, a4]) (ci := 9) (hc ▸ wl_L_13) mi_X9_feed rfl rfl rfl d hb hs rfl hC kk
theorem wl_L_130 : Cond.methodLink "HelmHandLaw" 130 yX10_order ∈ ev_GW := tm_7 (List.mem_of_getElem? (i := 147) rfl) rfl
theorem cl1_L_130 {G : ev_G} {k : ev_K} {b : ev_B} {u : Nat × Nat} {pc : Nat} {L : List (Option ev_V)} {st : List ev_V} {m : ev_m} {Q : Option ev_V → ev_M → Prop} {i fr lo : Nat} {m' : ev_m} {a0 a1 a2 a3 : ev_V} {v : ev_V} (hc : k.2.1.cls = "HelmHandLaw") (d : decode k.1 pc = .ok (.invokevirtual 130, 3)) (hb : fr + 1 ≤ b.1 ∧ 30 + lo ≤ b.2.1) (hs : ev_cats st ≤ 8) (hC : ev_CF G K_X10_order (fr, lo, 0, 0) [vr 10 i, a0, a1, a2, a3] m (some v) m') (kk : ev_E G k b u (pc + 3) L (v :: st) (ev_emb m') Q) : ev_E G k b u pc L (a3 :: a2 :: a1 :: a0 :: vr 10 i :: st) (ev_emb m) Q := ev_cV1 (As := [a0, a1, a2, a3]) (ci := 10) (hc ▸ wl_L_130) mi_X10_order rfl rfl rfl d hb hs rfl hC kk
theorem wl_L_131 : Cond.methodLink "HelmHandLaw" 131 yX9_both ∈ ev_GW := tm_5 (List.mem_of_getElem? (i := 91) rfl) rfl
theorem cl1_L_131 {G : ev_G} {k : ev_K} {b : ev_B} {u : Nat × Nat} {pc : Nat} {L : List (Option ev_V)} {st : List ev_V} {m : ev_m} {Q : Option ev_V → ev_M → Prop} {i fr lo : Nat} {m' : ev_m} {a0 a1 a2 a3 a4 : ev_V} {v : ev_V} (hc : k.2.1.cls = "HelmHandLaw") (d : decode k.1 pc = .ok (.invokevirtual 131, 3)) (hb : fr + 1 ≤ b.1 ∧ 28 + lo ≤ b.2.1) (hs : ev_cats st ≤ 8) (hC : ev_CF G K_X9_both (fr, lo, 0, 0) [vr 0 i, a0, a1, a2, a3, a4] m (some v) m') (kk : ev_E G k b u (pc + 3) L (v :: st) (ev_emb m') Q) : ev_E G k b u pc L (a4 :: a3 :: a2 :: a1 :: a0 :: vr 0 i :: st) (ev_emb m) Q := ev_cV1 (As := [a0, a1, a2, a3, a4]) (ci := 9) (hc ▸ wl_L_131) mi_X9_both rfl rfl rfl d hb hs rfl hC kk
theorem wl_L_135 : Cond.methodLink "HelmHandLaw" 135 yX10_both ∈ ev_GW := tm_7 (List.mem_of_getElem? (i := 158) rfl) rfl
theorem cl1_L_135 {G : ev_G} {k : ev_K} {b : ev_B} {u : Nat × Nat} {pc : Nat} {L : List (Option ev_V)} {st : List ev_V} {m : ev_m} {Q : Option ev_V → ev_M → Prop} {i fr lo : Nat} {m' : ev_m} {a0 a1 a2 a3 a4 : ev_V} {v : ev_V} (hc : k.2.1.cls = "HelmHandLaw") (d : decode k.1 pc = .ok (.invokevirtual 135, 3)) (hb : fr + 1 ≤ b.1 ∧ 27 + lo ≤ b.2.1) (hs : ev_cats st ≤ 8) (hC : ev_CF G K_X10_both (fr, lo, 0, 0) [vr 10 i, a0, a1, a2, a3, a4] m (some v) m') (kk : ev_E G k b u (pc + 3) L (v :: st) (ev_emb m') Q) : ev_E G k b u pc L (a4 :: a3 :: a2 :: a1 :: a0 :: vr 10 i :: st) (ev_emb m) Q := ev_cV1 (As := [a0, a1, a2, a3, a4]) (ci := 10) (hc ▸ wl_L_135) mi_X10_both rfl rfl rfl d hb hs rfl hC kk
theorem wl_L_136 : Cond.methodLink "HelmHandLaw" 136 yX9_apart ∈ ev_GW := tm_5 (List.mem_of_getElem? (i := 99) rfl) rfl
theorem cl1_L_136 {G : ev_G} {k : ev_K} {b : ev_B} {u : Nat × Nat} {pc : Nat} {L : List (Option ev_V)} {st : List ev_V} {m : ev_m} {Q : Option ev_V → ev_M → Prop} {i fr lo : Nat} {m' : ev_m} {a0 a1 a2 a3 : ev_V} {v : ev_V} (hc : k.2.1.cls = "HelmHandLaw") (d : decode k.1 pc = .ok (.invokevirtual 136, 3)) (hb : fr + 1 ≤ b.1 ∧ 25 + lo ≤ b.2.1) (hs : ev_cats st ≤ 8) (hC : ev_CF G K_X9_apart (fr, lo, 0, 0) [vr 0 i, a0, a1, a2, a3] m (some v) m') (kk : ev_E G k b u (pc + 3) L (v :: st) (ev_emb m') Q) : ev_E G k b u pc L (a3 :: a2 :: a1 :: a0 :: vr 0 i :: st) (ev_emb m) Q := ev_cV1 (As := [a0, a1, a2, a3]) (ci := 9) (hc ▸ wl_L_136) mi_X9_apart rfl rfl rfl d hb hs rfl hC kk
theorem wl_L_140 : Cond.methodLink "HelmHandLaw" 140 yX10_apart ∈ ev_GW := tm_7 (List.mem_of_getElem? (i := 162) rfl) rfl
theorem cl1_L_140 {G : ev_G} {k : ev_K} {b : ev_B} {u : Nat × Nat} {pc : Nat} {L : List (Option ev_V)} {st : List ev_V} {m : ev_m} {Q : Option ev_V → ev_M → Prop} {i fr lo : Nat} {m' : ev_m} {a0 a1 a2 a3 : ev_V} {v : ev_V} (hc : k.2.1.cls = "HelmHandLaw") (d : decode k.1 pc = .ok (.invokevirtual 140, 3)) (hb : fr + 1 ≤ b.1 ∧ 26 + lo ≤ b.2.1) (hs : ev_cats st ≤ 8) (hC : ev_CF G K_X10_apart (fr, lo, 0, 0) [vr 10 i, a0, a1, a2, a3] m (some v) m') (kk : ev_E G k b u (pc + 3) L (v :: st) (ev_emb m') Q) : ev_E G k b u pc L (a3 :: a2 :: a1 :: a0 :: vr 10 i :: st) (ev_emb m) Q := ev_cV1 (As := [a0, a1, a2, a3]) (ci := 10) (hc ▸ wl_L_140) mi_X10_apart rfl rfl rfl d hb hs rfl hC kk
theorem wl_L_141 : Cond.methodLink "HelmHandLaw" 141 yX9_whose ∈ ev_GW := tm_5 (List.mem_of_getElem? (i := 107) rfl) rfl
theorem cl1_L_141 {G : ev_G} {k : ev_K} {b : ev_B} {u : Nat × Nat} {pc : Nat} {L : List (Option ev_V)} {st : List ev_V} {m : ev_m} {Q : Option ev_V → ev_M → Prop} {i fr lo : Nat} {m' : ev_m} {a0 a1 : ev_V} {v : ev_V} (hc : k.2.1.cls = "HelmHandLaw") (d : decode k.1 pc = .ok (.invokevirtual 141, 3)) (hb : fr + 1 ≤ b.1 ∧ 27 + lo ≤ b.2.1) (hs : ev_cats st ≤ 8) (hC : ev_CF G K_X9_whose (fr, lo, 0, 0) [vr 0 i, a0, a1] m (some v) m') (kk : ev_E G k b u (pc + 3) L (v :: st) (ev_emb m') Q) : ev_E G k b u pc L (a1 :: a0 :: vr 0 i :: st) (ev_emb m) Q := ev_cV1 (As := [a0, a1]) (ci := 9) (hc ▸ wl_L_141) mi_X9_whose rfl rfl rfl d hb hs rfl hC kk
theorem wl_L_144 : Cond.methodLink "HelmHandLaw" 144 yX10_whose ∈ ev_GW := tm_7 (List.mem_of_getElem? (i := 170) rfl) rfl
theorem cl1_L_144 {G : ev_G} {k : ev_K} {b : ev_B} {u : Nat × Nat} {pc : Nat} {L : List (Option ev_V)} {st : List ev_V} {m : ev_m} {Q : Option ev_V → ev_M → Prop} {i fr lo : Nat} {m' : ev_m} {a0 a1 : ev_V} {v : ev_V} (hc : k.2.1.cls = "HelmHandLaw") (d : decode k.1 pc = .ok (.invokevirtual 144, 3)) (hb : fr + 1 ≤ b.1 ∧ 27 + lo ≤ b.2.1) (hs : ev_cats st ≤ 8) (hC : ev_CF G K_X10_whose (fr, lo, 0, 0) [vr 10 i, a0, a1] m (some v) m') (kk : ev_E G k b u (pc + 3) L (v :: st) (ev_emb m') Q) : ev_E G k b u pc L (a1 :: a0 :: vr 10 i :: st) (ev_emb m) Q := ev_cV1 (As := [a0, a1]) (ci := 10) (hc ▸ wl_L_144) mi_X10_whose rfl rfl rfl d hb hs rfl hC kk
theorem wl_L_145 : Cond.methodLink "HelmHandLaw" 145 yX9_tells ∈ ev_GW := tm_5 (List.mem_of_getElem? (i := 112) rfl) rfl
theorem cl1_L_145 {G : ev_G} {k : ev_K} {b : ev_B} {u : Nat × Nat} {pc : Nat} {L : List (Option ev_V)} {st : List ev_V} {m : ev_m} {Q : Option ev_V → ev_M → Prop} {i fr lo : Nat} {m' : ev_m} {a0 a1 a2 : ev_V} {v : ev_V} (hc : k.2.1.cls = "HelmHandLaw") (d : decode k.1 pc = .ok (.invokevirtual 145, 3)) (hb : fr + 1 ≤ b.1 ∧ 28 + lo ≤ b.2.1) (hs : ev_cats st ≤ 8) (hC : ev_CF G K_X9_tells (fr, lo, 0, 0) [vr 0 i, a0, a1, a2] m (some v) m') (kk : ev_E G k b u (pc + 3) L (v :: st) (ev_emb m') Q) : ev_E G k b u pc L (a2 :: a1 :: a0 :: vr 0 i :: st) (ev_emb m) Q := ev_cV1 (As := [a0, a1, a2]) (ci := 9) (hc ▸ wl_L_145) mi_X9_tells rfl rfl rfl d hb hs rfl hC kk
theorem wl_L_148 : Cond.methodLink "HelmHandLaw" 148 yX10_tells ∈ ev_GW := tm_7 (List.mem_of_getElem? (i := 174) rfl) rfl
theorem cl1_L_148 {G : ev_G} {k : ev_K} {b : ev_B} {u : Nat × Nat} {pc : Nat} {L : List (Option ev_V)} {st : List ev_V} {m : ev_m} {Q : Option ev_V → ev_M → Prop} {i fr lo : Nat} {m' : ev_m} {a0 a1 a2 : ev_V} {v : ev_V} (hc : k.2.1.cls = "HelmHandLaw") (d : decode k.1 pc = .ok (.invokevirtual 148, 3)) (hb : fr + 1 ≤ b.1 ∧ 27 + lo ≤ b.2.1) (hs : ev_cats st ≤ 8) (hC : ev_CF G K_X10_tells (fr, lo, 0, 0) [vr 10 i, a0, a1, a2] m (some v) m') (kk : ev_E G k b u (pc + 3) L (v :: st) (ev_emb m') Q) : ev_E G k b u pc L (a2 :: a1 :: a0 :: vr 10 i :: st) (ev_emb m) Q := ev_cV1 (As := [a0, a1, a2]) (ci := 10) (hc ▸ wl_L_148) mi_X10_tells rfl rfl rfl d hb hs rfl hC kk
theorem wl_L_149 : Cond.methodLink "HelmHandLaw" 149 yX9_slipped ∈ ev_GW := tm_5 (List.mem_of_getElem? (i := 116) rfl) rfl
theorem cl1_L_149 {G : ev_G} {k : ev_K} {b : ev_B} {u : Nat × Nat} {pc : Nat} {L : List (Option ev_V)} {st : List ev_V} {m : ev_m} {Q : Option ev_V → ev_M → Prop} {i fr lo : Nat} {m' : ev_m} {a0 a1 a2 a3 a4 a5 : ev_V} {v : ev_V} (hc : k.2.1.cls = "HelmHandLaw") (d : decode k.1 pc = .ok (.invokevirtual 149, 3)) (hb : fr + 1 ≤ b.1 ∧ 34 + lo ≤ b.2.1) (hs : ev_cats st ≤ 8) (hC : ev_CF G K_X9_slipped (fr, lo, 0, 0) [vr 0 i, a0, a1, a2, a3, a4, a5] m (some v) m') (kk : ev_E G k b u (pc + 3) L (v :: st) (ev_emb m') Q) : ev_E G k b u pc L (a5 :: a4 :: a3 :: a2 :: a1 :: a0 :: vr 0 i :: st) (ev_emb m) Q := ev_cV1 (As := [a0, a1, a2, a3, a4, a5]) (ci := 9) (hc ▸ wl_L_149) mi_X9_slipped rfl rfl rfl d hb hs rfl hC kk
theorem wl_L_153 : Cond.methodLink "HelmHandLaw" 153 yX10_slipped ∈ ev_GW := tm_7 (List.mem_of_getElem? (i := 178) rfl) rfl
theorem cl1_L_153 {G : ev_G} {k : ev_K} {b : ev_B} {u : Nat × Nat} {pc : Nat} {L : List (Option ev_V)} {st : List ev_V} {m : ev_m} {Q : Option ev_V → ev_M → Prop} {i fr lo : Nat} {m' : ev_m} {a0 a1 a2 a3 a4 a5 : ev_V} {v : ev_V} (hc : k.2.1.cls = "HelmHandLaw") (d : decode k.1 pc = .ok (.invokevirtual 153, 3)) (hb : fr + 1 ≤ b.1 ∧ 32 + lo ≤ b.2.1) (hs : ev_cats st ≤ 8) (hC : ev_CF G K_X10_slipped (fr, lo, 0, 0) [vr 10 i, a0, a1, a2, a3, a4, a5] m (some v) m') (kk : ev_E G k b u (pc + 3) L (v :: st) (ev_emb m') Q) : ev_E G k b u pc L (a5 :: a4 :: a3 :: a2 :: a1 :: a0 :: vr 10 i :: st) (ev_emb m) Q := ev_cV1 (As := [a0, a1, a2, a3, a4, a5]) (ci := 10) (hc ▸ wl_L_153) mi_X10_slipped rfl rfl rfl d hb hs rfl hC kk
theorem wl_L_154 : Cond.methodLink "HelmHandLaw" 154 yX9_lead ∈ ev_GW := tm_5 (List.mem_of_getElem? (i := 120) rfl) rfl
theorem cl1_L_154 {G : ev_G} {k : ev_K} {b : ev_B} {u : Nat × Nat} {pc : Nat} {L : List (Option ev_V)} {st : List ev_V} {m : ev_m} {Q : Option ev_V → ev_M → Prop} {i fr lo : Nat} {m' : ev_m} {a0 a1 a2 a3 : ev_V} {v : ev_V} (hc : k.2.1.cls = "HelmHandLaw") (d : decode k.1 pc = .ok (.invokevirtual 154, 3)) (hb : fr + 1 ≤ b.1 ∧ 25 + lo ≤ b.2.1) (hs : ev_cats st ≤ 8) (hC : ev_CF G K_X9_lead (fr, lo, 0, 0) [vr 0 i, a0, a1, a2, a3] m (some v) m') (kk : ev_E G k b u (pc + 3) L (v :: st) (ev_emb m') Q) : ev_E G k b u pc L (a3 :: a2 :: a1 :: a0 :: vr 0 i :: st) (ev_emb m) Q := ev_cV1 (As := [a0, a1, a2, a3]) (ci := 9) (hc ▸ wl_L_154) mi_X9_lead rfl rfl rfl d hb hs rfl hC kk
theorem wl_L_157 : Cond.methodLink "HelmHandLaw" 157 yX10_lead ∈ ev_GW := tm_7 (List.mem_of_getElem? (i := 182) rfl) rfl
theorem cl1_L_157 {G : ev_G} {k : ev_K} {b : ev_B} {u : Nat × Nat} {pc : Nat} {L : List (Option ev_V)} {st : List ev_V} {m : ev_m} {Q : Option ev_V → ev_M → Prop} {i fr lo : Nat} {m' : ev_m} {a0 a1 a2 a3 : ev_V} {v : ev_V} (hc : k.2.1.cls = "HelmHandLaw") (d : decode k.1 pc = .ok (.invokevirtual 157, 3)) (hb : fr + 1 ≤ b.1 ∧ 25 + lo ≤ b.2.1) (hs : ev_cats st ≤ 8) (hC : ev_CF G K_X10_lead (fr, lo, 0, 0) [vr 10 i, a0, a1, a2, a3] m (some v) m') (kk : ev_E G k b u (pc + 3) L (v :: st) (ev_emb m') Q) : ev_E G k b u pc L (a3 :: a2 :: a1 :: a0 :: vr 10 i :: st) (ev_emb m) Q := ev_cV1 (As := [a0, a1, a2, a3]) (ci := 10) (hc ▸ wl_L_157) mi_X10_lead rfl rfl rfl d hb hs rfl hC kk
theorem wl_L_158 : Cond.methodLink "HelmHandLaw" 158 yX9_bound ∈ ev_GW := tm_5 (List.mem_of_getElem? (i := 124) rfl) rfl
theorem cl1_L_158 {G : ev_G} {k : ev_K} {b : ev_B} {u : Nat × Nat} {pc : Nat} {L : List (Option ev_V)} {st : List ev_V} {m : ev_m} {Q : Option ev_V → ev_M → Prop} {i fr lo : Nat} {m' : ev_m} {a0 a1 a2 a3 a4 : ev_V} {v : ev_V} (hc : k.2.1.cls = "HelmHandLaw") (d : decode k.1 pc = .ok (.invokevirtual 158, 3)) (hb : fr + 1 ≤ b.1 ∧ 25 + lo ≤ b.2.1) (hs : ev_cats st ≤ 8) (hC : ev_CF G K_X9_bound (fr, lo, 0, 0) [vr 0 i, a0, a1, a2, a3, a4] m (some v) m') (kk : ev_E G k b u (pc + 3) L (v :: st) (ev_emb m') Q) : ev_E G k b u pc L (a4 :: a3 :: a2 :: a1 :: a0 :: vr 0 i :: st) (ev_emb m) Q := ev_cV1 (As := [a0, a1, a2, a3, a4]) (ci := 9) (hc ▸ wl_L_158) mi_X9_bound rfl rfl rfl d hb hs rfl hC kk
theorem wl_L_161 : Cond.methodLink "HelmHandLaw" 161 yX10_bound ∈ ev_GW := tm_7 (List.mem_of_getElem? (i := 186) rfl) rfl
theorem cl1_L_161 {G : ev_G} {k : ev_K} {b : ev_B} {u : Nat × Nat} {pc : Nat} {L : List (Option ev_V)} {st : List ev_V} {m : ev_m} {Q : Option ev_V → ev_M → Prop} {i fr lo : Nat} {m' : ev_m} {a0 a1 a2 a3 a4 : ev_V} {v : ev_V} (hc : k.2.1.cls = "HelmHandLaw") (d : decode k.1 pc = .ok (.invokevirtual 161, 3)) (hb : fr + 1 ≤ b.1 ∧ 27 + lo ≤ b.2.1) (hs : ev_cats st ≤ 8) (hC : ev_CF G K_X10_bound (fr, lo, 0, 0) [vr 10 i, a0, a1, a2, a3, a4] m (some v) m') (kk : ev_E G k b u (pc + 3) L (v :: st) (ev_emb m') Q) : ev_E G k b u pc L (a4 :: a3 :: a2 :: a1 :: a0 :: vr 10 i :: st) (ev_emb m) Q := ev_cV1 (As := [a0, a1, a2, a3, a4]) (ci := 10) (hc ▸ wl_L_161) mi_X10_bound rfl rfl rfl d hb hs rfl hC kk
theorem wl_L_162 : Cond.methodLink "HelmHandLaw" 162 yX9_first ∈ ev_GW := tm_5 (List.mem_of_getElem? (i := 136) rfl) rfl
theorem cl1_L_162 {G : ev_G} {k : ev_K} {b : ev_B} {u : Nat × Nat} {pc : Nat} {L : List (Option ev_V)} {st : List ev_V} {m : ev_m} {Q : Option ev_V → ev_M → Prop} {i fr lo : Nat} {m' : ev_m} {a0 a1 a2 a3 : ev_V} {v : ev_V} (hc : k.2.1.cls = "HelmHandLaw") (d : decode k.1 pc = .ok (.invokevirtual 162, 3)) (hb : fr + 1 ≤ b.1 ∧ 24 + lo ≤ b.2.1) (hs : ev_cats st ≤ 8) (hC : ev_CF G K_X9_first (fr, lo, 0, 0) [vr 0 i, a0, a1, a2, a3] m (some v) m') (kk : ev_E G k b u (pc + 3) L (v :: st) (ev_emb m') Q) : ev_E G k b u pc L (a3 :: a2 :: a1 :: a0 :: vr 0 i :: st) (ev_emb m) Q := ev_cV1 (As := [a0, a1, a2, a3]) (ci := 9) (hc ▸ wl_L_162) mi_X9_first rfl rfl rfl d hb hs rfl hC kk
theorem wl_L_165 : Cond.methodLink "HelmHandLaw" 165 yX10_first ∈ ev_GW := tm_7 (List.mem_of_getElem? (i := 190) rfl) rfl
theorem cl1_L_165 {G : ev_G} {k : ev_K} {b : ev_B} {u : Nat × Nat} {pc : Nat} {L : List (Option ev_V)} {st : List ev_V} {m : ev_m} {Q : Option ev_V → ev_M → Prop} {i fr lo : Nat} {m' : ev_m} {a0 a1 a2 a3 : ev_V} {v : ev_V} (hc : k.2.1.cls = "HelmHandLaw") (d : decode k.1 pc = .ok (.invokevirtual 165, 3)) (hb : fr + 1 ≤ b.1 ∧ 30 + lo ≤ b.2.1) (hs : ev_cats st ≤ 8) (hC : ev_CF G K_X10_first (fr, lo, 0, 0) [vr 10 i, a0, a1, a2, a3] m (some v) m') (kk : ev_E G k b u (pc + 3) L (v :: st) (ev_emb m') Q) : ev_E G k b u pc L (a3 :: a2 :: a1 :: a0 :: vr 10 i :: st) (ev_emb m) Q := ev_cV1 (As := [a0, a1, a2, a3]) (ci := 10) (hc ▸ wl_L_165) mi_X10_first rfl rfl rfl d hb hs rfl hC kk
theorem wl_L_166 : Cond.methodLink "HelmHandLaw" 166 yX9_better ∈ ev_GW := tm_5 (List.mem_of_getElem? (i := 149) rfl) rfl
theorem cl1_L_166 {G : ev_G} {k : ev_K} {b : ev_B} {u : Nat × Nat} {pc : Nat} {L : List (Option ev_V)} {st : List ev_V} {m : ev_m} {Q : Option ev_V → ev_M → Prop} {i fr lo : Nat} {m' : ev_m} {a0 a1 a2 a3 : ev_V} {v : ev_V} (hc : k.2.1.cls = "HelmHandLaw") (d : decode k.1 pc = .ok (.invokevirtual 166, 3)) (hb : fr + 1 ≤ b.1 ∧ 28 + lo ≤ b.2.1) (hs : ev_cats st ≤ 8) (hC : ev_CF G K_X9_better (fr, lo, 0, 0) [vr 0 i, a0, a1, a2, a3] m (some v) m') (kk : ev_E G k b u (pc + 3) L (v :: st) (ev_emb m') Q) : ev_E G k b u pc L (a3 :: a2 :: a1 :: a0 :: vr 0 i :: st) (ev_emb m) Q := ev_cV1 (As := [a0, a1, a2, a3]) (ci := 9) (hc ▸ wl_L_166) mi_X9_better rfl rfl rfl d hb hs rfl hC kk
theorem wl_L_169 : Cond.methodLink "HelmHandLaw" 169 yX10_better ∈ ev_GW := tm_7 (List.mem_of_getElem? (i := 199) rfl) rfl
theorem cl1_L_169 {G : ev_G} {k : ev_K} {b : ev_B} {u : Nat × Nat} {pc : Nat} {L : List (Option ev_V)} {st : List ev_V} {m : ev_m} {Q : Option ev_V → ev_M → Prop} {i fr lo : Nat} {m' : ev_m} {a0 a1 a2 a3 : ev_V} {v : ev_V} (hc : k.2.1.cls = "HelmHandLaw") (d : decode k.1 pc = .ok (.invokevirtual 169, 3)) (hb : fr + 1 ≤ b.1 ∧ 28 + lo ≤ b.2.1) (hs : ev_cats st ≤ 8) (hC : ev_CF G K_X10_better (fr, lo, 0, 0) [vr 10 i, a0, a1, a2, a3] m (some v) m') (kk : ev_E G k b u (pc + 3) L (v :: st) (ev_emb m') Q) : ev_E G k b u pc L (a3 :: a2 :: a1 :: a0 :: vr 10 i :: st) (ev_emb m) Q := ev_cV1 (As := [a0, a1, a2, a3]) (ci := 10) (hc ▸ wl_L_169) mi_X10_better rfl rfl rfl d hb hs rfl hC kk
theorem wl_L_17 : Cond.methodLink "HelmHandLaw" 17 yX10_feed ∈ ev_GW := tm_6 (List.mem_of_getElem? (i := 84) rfl) rfl
theorem cl1_L_17 {G : ev_G} {k : ev_K} {b : ev_B} {u : Nat × Nat} {pc : Nat} {L : List (Option ev_V)} {st : List ev_V} {m : ev_m} {Q : Option ev_V → ev_M → Prop} {i fr lo : Nat} {m' : ev_m} {a0 a1 a2 a3 a4 : ev_V} {v : ev_V} (hc : k.2.1.cls = "HelmHandLaw") (d : decode k.1 pc = .ok (.invokevirtual 17, 3)) (hb : fr + 1 ≤ b.1 ∧ 25 + lo ≤ b.2.1) (hs : ev_cats st ≤ 8) (hC : ev_CF G K_X10_feed (fr, lo, 0, 0) [vr 10 i, a0, a1, a2, a3, a4] m (some v) m') (kk : ev_E G k b u (pc + 3) L (v :: st) (ev_emb m') Q) : ev_E G k b u pc L (a4 :: a3 :: a2 :: a1 :: a0 :: vr 10 i :: st) (ev_emb m) Q := ev_cV1 (As := [a0, a1, a2, a3, a4]) (ci := 10) (hc ▸ wl_L_17) mi_X10_feed rfl rfl rfl d hb hs rfl hC kk
theorem wl_L_170 : Cond.methodLink "HelmHandLaw" 170 yX9_reads ∈ ev_GW := tm_5 (List.mem_of_getElem? (i := 153) rfl) rfl
theorem cl1_L_170 {G : ev_G} {k : ev_K} {b : ev_B} {u : Nat × Nat} {pc : Nat} {L : List (Option ev_V)} {st : List ev_V} {m : ev_m} {Q : Option ev_V → ev_M → Prop} {i fr lo : Nat} {m' : ev_m} {a0 a1 a2 a3 a4 a5 : ev_V} {v : ev_V} (hc : k.2.1.cls = "HelmHandLaw") (d : decode k.1 pc = .ok (.invokevirtual 170, 3)) (hb : fr + 1 ≤ b.1 ∧ 27 + lo ≤ b.2.1) (hs : ev_cats st ≤ 8) (hC : ev_CF G K_X9_reads (fr, lo, 0, 0) [vr 0 i, a0, a1, a2, a3, a4, a5] m (some v) m') (kk : ev_E G k b u (pc + 3) L (v :: st) (ev_emb m') Q) : ev_E G k b u pc L (a5 :: a4 :: a3 :: a2 :: a1 :: a0 :: vr 0 i :: st) (ev_emb m) Q := ev_cV1 (As := [a0, a1, a2, a3, a4, a5]) (ci := 9) (hc ▸ wl_L_170) mi_X9_reads rfl rfl rfl d hb hs rfl hC kk
theorem wl_L_174 : Cond.methodLink "HelmHandLaw" 174 yX10_reads ∈ ev_GW := tm_7 (List.mem_of_getElem? (i := 203) rfl) rfl
theorem cl1_L_174 {G : ev_G} {k : ev_K} {b : ev_B} {u : Nat × Nat} {pc : Nat} {L : List (Option ev_V)} {st : List ev_V} {m : ev_m} {Q : Option ev_V → ev_M → Prop} {i fr lo : Nat} {m' : ev_m} {a0 a1 a2 a3 a4 a5 : ev_V} {v : ev_V} (hc : k.2.1.cls = "HelmHandLaw") (d : decode k.1 pc = .ok (.invokevirtual 174, 3)) (hb : fr + 1 ≤ b.1 ∧ 30 + lo ≤ b.2.1) (hs : ev_cats st ≤ 8) (hC : ev_CF G K_X10_reads (fr, lo, 0, 0) [vr 10 i, a0, a1, a2, a3, a4, a5] m (some v) m') (kk : ev_E G k b u (pc + 3) L (v :: st) (ev_emb m') Q) : ev_E G k b u pc L (a5 :: a4 :: a3 :: a2 :: a1 :: a0 :: vr 10 i :: st) (ev_emb m) Q := ev_cV1 (As := [a0, a1, a2, a3, a4, a5]) (ci := 10) (hc ▸ wl_L_174) mi_X10_reads rfl rfl rfl d hb hs rfl hC kk
theorem wl_L_175 : Cond.methodLink "HelmHandLaw" 175 yX9_parted ∈ ev_GW := tm_5 (List.mem_of_getElem? (i := 157) rfl) rfl
theorem cl1_L_175 {G : ev_G} {k : ev_K} {b : ev_B} {u : Nat × Nat} {pc : Nat} {L : List (Option ev_V)} {st : List ev_V} {m : ev_m} {Q : Option ev_V → ev_M → Prop} {i fr lo : Nat} {m' : ev_m} {a0 a1 a2 a3 : ev_V} {v : ev_V} (hc : k.2.1.cls = "HelmHandLaw") (d : decode k.1 pc = .ok (.invokevirtual 175, 3)) (hb : fr + 1 ≤ b.1 ∧ 32 + lo ≤ b.2.1) (hs : ev_cats st ≤ 8) (hC : ev_CF G K_X9_parted (fr, lo, 0, 0) [vr 0 i, a0, a1, a2, a3] m (some v) m') (kk : ev_E G k b u (pc + 3) L (v :: st) (ev_emb m') Q) : ev_E G k b u pc L (a3 :: a2 :: a1 :: a0 :: vr 0 i :: st) (ev_emb m) Q := ev_cV1 (As := [a0, a1, a2, a3]) (ci := 9) (hc ▸ wl_L_175) mi_X9_parted rfl rfl rfl d hb hs rfl hC kk
theorem wl_L_178 : Cond.methodLink "HelmHandLaw" 178 yX10_parted ∈ ev_GW := tm_7 (List.mem_of_getElem? (i := 207) rfl) rfl
theorem cl1_L_178 {G : ev_G} {k : ev_K} {b : ev_B} {u : Nat × Nat} {pc : Nat} {L : List (Option ev_V)} {st : List ev_V} {m : ev_m} {Q : Option ev_V → ev_M → Prop} {i fr lo : Nat} {m' : ev_m} {a0 a1 a2 a3 : ev_V} {v : ev_V} (hc : k.2.1.cls = "HelmHandLaw") (d : decode k.1 pc = .ok (.invokevirtual 178, 3)) (hb : fr + 1 ≤ b.1 ∧ 29 + lo ≤ b.2.1) (hs : ev_cats st ≤ 8) (hC : ev_CF G K_X10_parted (fr, lo, 0, 0) [vr 10 i, a0, a1, a2, a3] m (some v) m') (kk : ev_E G k b u (pc + 3) L (v :: st) (ev_emb m') Q) : ev_E G k b u pc L (a3 :: a2 :: a1 :: a0 :: vr 10 i :: st) (ev_emb m) Q := ev_cV1 (As := [a0, a1, a2, a3]) (ci := 10) (hc ▸ wl_L_178) mi_X10_parted rfl rfl rfl d hb hs rfl hC kk
theorem wl_L_179 : Cond.methodLink "HelmHandLaw" 179 yX9_count ∈ ev_GW := tm_5 (List.mem_of_getElem? (i := 161) rfl) rfl
theorem cl1_L_179 {G : ev_G} {k : ev_K} {b : ev_B} {u : Nat × Nat} {pc : Nat} {L : List (Option ev_V)} {st : List ev_V} {m : ev_m} {Q : Option ev_V → ev_M → Prop} {i fr lo : Nat} {m' : ev_m} {a0 : ev_V} {v : ev_V} (hc : k.2.1.cls = "HelmHandLaw") (d : decode k.1 pc = .ok (.invokevirtual 179, 3)) (hb : fr + 1 ≤ b.1 ∧ 21 + lo ≤ b.2.1) (hs : ev_cats st ≤ 8) (hC : ev_CF G K_X9_count (fr, lo, 0, 0) [vr 0 i, a0] m (some v) m') (kk : ev_E G k b u (pc + 3) L (v :: st) (ev_emb m') Q) : ev_E G k b u pc L (a0 :: vr 0 i :: st) (ev_emb m) Q := ev_cV1 (As := [a0]) (ci := 9) (hc ▸ wl_L_179) mi_X9_count rfl rfl rfl d hb hs rfl hC kk
theorem wl_L_18 : Cond.methodLink "HelmHandLaw" 18 yX9_end ∈ ev_GW := tm_2 (List.mem_of_getElem? (i := 150) rfl) rfl
theorem cl1_L_18 {G : ev_G} {k : ev_K} {b : ev_B} {u : Nat × Nat} {pc : Nat} {L : List (Option ev_V)} {st : List ev_V} {m : ev_m} {Q : Option ev_V → ev_M → Prop} {i fr lo : Nat} {m' : ev_m} {a0 : ev_V} {v : ev_V} (hc : k.2.1.cls = "HelmHandLaw") (d : decode k.1 pc = .ok (.invokevirtual 18, 3)) (hb : fr + 1 ≤ b.1 ∧ 21 + lo ≤ b.2.1) (hs : ev_cats st ≤ 8) (hC : ev_CF G K_X9_end (fr, lo, 0, 0) [vr 0 i, a0] m (some v) m') (kk : ev_E G k b u (pc + 3) L (v :: st) (ev_emb m') Q) : ev_E G k b u pc L (a0 :: vr 0 i :: st) (ev_emb m) Q := ev_cV1 (As := [a0]) (ci := 9) (hc ▸ wl_L_18) mi_X9_end rfl rfl rfl d hb hs rfl hC kk
theorem wl_L_182 : Cond.methodLink "HelmHandLaw" 182 yX10_count ∈ ev_GW := tm_7 (List.mem_of_getElem? (i := 211) rfl) rfl
theorem cl1_L_182 {G : ev_G} {k : ev_K} {b : ev_B} {u : Nat × Nat} {pc : Nat} {L : List (Option ev_V)} {st : List ev_V} {m : ev_m} {Q : Option ev_V → ev_M → Prop} {i fr lo : Nat} {m' : ev_m} {a0 : ev_V} {v : ev_V} (hc : k.2.1.cls = "HelmHandLaw") (d : decode k.1 pc = .ok (.invokevirtual 182, 3)) (hb : fr + 1 ≤ b.1 ∧ 21 + lo ≤ b.2.1) (hs : ev_cats st ≤ 8) (hC : ev_CF G K_X10_count (fr, lo, 0, 0) [vr 10 i, a0] m (some v) m') (kk : ev_E G k b u (pc + 3) L (v :: st) (ev_emb m') Q) : ev_E G k b u pc L (a0 :: vr 10 i :: st) (ev_emb m) Q := ev_cV1 (As := [a0]) (ci := 10) (hc ▸ wl_L_182) mi_X10_count rfl rfl rfl d hb hs rfl hC kk
theorem wl_L_183 : Cond.methodLink "HelmHandLaw" 183 yX9_image ∈ ev_GW := tm_5 (List.mem_of_getElem? (i := 166) rfl) rfl
theorem cl1_L_183 {G : ev_G} {k : ev_K} {b : ev_B} {u : Nat × Nat} {pc : Nat} {L : List (Option ev_V)} {st : List ev_V} {m : ev_m} {Q : Option ev_V → ev_M → Prop} {i fr lo : Nat} {m' : ev_m} {a0 : ev_V} {v : ev_V} (hc : k.2.1.cls = "HelmHandLaw") (d : decode k.1 pc = .ok (.invokevirtual 183, 3)) (hb : fr + 1 ≤ b.1 ∧ 21 + lo ≤ b.2.1) (hs : ev_cats st ≤ 8) (hC : ev_CF G K_X9_image (fr, lo, 0, 0) [vr 0 i, a0] m (some v) m') (kk : ev_E G k b u (pc + 3) L (v :: st) (ev_emb m') Q) : ev_E G k b u pc L (a0 :: vr 0 i :: st) (ev_emb m) Q := ev_cV1 (As := [a0]) (ci := 9) (hc ▸ wl_L_183) mi_X9_image rfl rfl rfl d hb hs rfl hC kk
theorem wl_L_187 : Cond.methodLink "HelmHandLaw" 187 yX10_image ∈ ev_GW := tm_7 (List.mem_of_getElem? (i := 215) rfl) rfl
theorem cl1_L_187 {G : ev_G} {k : ev_K} {b : ev_B} {u : Nat × Nat} {pc : Nat} {L : List (Option ev_V)} {st : List ev_V} {m : ev_m} {Q : Option ev_V → ev_M → Prop} {i fr lo : Nat} {m' : ev_m} {a0 : ev_V} {v : ev_V} (hc : k.2.1.cls = "HelmHandLaw") (d : decode k.1 pc = .ok (.invokevirtual 187, 3)) (hb : fr + 1 ≤ b.1 ∧ 21 + lo ≤ b.2.1) (hs : ev_cats st ≤ 8) (hC : ev_CF G K_X10_image (fr, lo, 0, 0) [vr 10 i, a0] m (some v) m') (kk : ev_E G k b u (pc + 3) L (v :: st) (ev_emb m') Q) : ev_E G k b u pc L (a0 :: vr 10 i :: st) (ev_emb m) Q := ev_cV1 (As := [a0]) (ci := 10) (hc ▸ wl_L_187) mi_X10_image rfl rfl rfl d hb hs rfl hC kk
theorem wl_L_188 : Cond.methodLink "HelmHandLaw" 188 yX9_again ∈ ev_GW := tm_5 (List.mem_of_getElem? (i := 175) rfl) rfl
theorem cl1_L_188 {G : ev_G} {k : ev_K} {b : ev_B} {u : Nat × Nat} {pc : Nat} {L : List (Option ev_V)} {st : List ev_V} {m : ev_m} {Q : Option ev_V → ev_M → Prop} {i fr lo : Nat} {m' : ev_m} {a0 : ev_V} {v : ev_V} (hc : k.2.1.cls = "HelmHandLaw") (d : decode k.1 pc = .ok (.invokevirtual 188, 3)) (hb : fr + 1 ≤ b.1 ∧ 21 + lo ≤ b.2.1) (hs : ev_cats st ≤ 8) (hC : ev_CF G K_X9_again (fr, lo, 0, 0) [vr 0 i, a0] m (some v) m') (kk : ev_E G k b u (pc + 3) L (v :: st) (ev_emb m') Q) : ev_E G k b u pc L (a0 :: vr 0 i :: st) (ev_emb m) Q := ev_cV1 (As := [a0]) (ci := 9) (hc ▸ wl_L_188) mi_X9_again rfl rfl rfl d hb hs rfl hC kk
theorem wl_L_191 : Cond.methodLink "HelmHandLaw" 191 yX10_again ∈ ev_GW := tm_7 (List.mem_of_getElem? (i := 226) rfl) rfl
theorem cl1_L_191 {G : ev_G} {k : ev_K} {b : ev_B} {u : Nat × Nat} {pc : Nat} {L : List (Option ev_V)} {st : List ev_V} {m : ev_m} {Q : Option ev_V → ev_M → Prop} {i fr lo : Nat} {m' : ev_m} {a0 : ev_V} {v : ev_V} (hc : k.2.1.cls = "HelmHandLaw") (d : decode k.1 pc = .ok (.invokevirtual 191, 3)) (hb : fr + 1 ≤ b.1 ∧ 21 + lo ≤ b.2.1) (hs : ev_cats st ≤ 8) (hC : ev_CF G K_X10_again (fr, lo, 0, 0) [vr 10 i, a0] m (some v) m') (kk : ev_E G k b u (pc + 3) L (v :: st) (ev_emb m') Q) : ev_E G k b u pc L (a0 :: vr 10 i :: st) (ev_emb m) Q := ev_cV1 (As := [a0]) (ci := 10) (hc ▸ wl_L_191) mi_X10_again rfl rfl rfl d hb hs rfl hC kk
theorem wl_L_22 : Cond.methodLink "HelmHandLaw" 22 yX10_end ∈ ev_GW := tm_6 (List.mem_of_getElem? (i := 92) rfl) rfl
theorem cl1_L_22 {G : ev_G} {k : ev_K} {b : ev_B} {u : Nat × Nat} {pc : Nat} {L : List (Option ev_V)} {st : List ev_V} {m : ev_m} {Q : Option ev_V → ev_M → Prop} {i fr lo : Nat} {m' : ev_m} {a0 : ev_V} {v : ev_V} (hc : k.2.1.cls = "HelmHandLaw") (d : decode k.1 pc = .ok (.invokevirtual 22, 3)) (hb : fr + 1 ≤ b.1 ∧ 21 + lo ≤ b.2.1) (hs : ev_cats st ≤ 8) (hC : ev_CF G K_X10_end (fr, lo, 0, 0) [vr 10 i, a0] m (some v) m') (kk : ev_E G k b u (pc + 3) L (v :: st) (ev_emb m') Q) : ev_E G k b u pc L (a0 :: vr 10 i :: st) (ev_emb m) Q := ev_cV1 (As := [a0]) (ci := 10) (hc ▸ wl_L_22) mi_X10_end rfl rfl rfl d hb hs rfl hC kk
theorem wl_L_23 : Cond.methodLink "HelmHandLaw" 23 yX9_text ∈ ev_GW := tm_2 (List.mem_of_getElem? (i := 154) rfl) rfl
theorem cl1_L_23 {G : ev_G} {k : ev_K} {b : ev_B} {u : Nat × Nat} {pc : Nat} {L : List (Option ev_V)} {st : List ev_V} {m : ev_m} {Q : Option ev_V → ev_M → Prop} {i fr lo : Nat} {m' : ev_m} {a0 a1 : ev_V} {v : ev_V} (hc : k.2.1.cls = "HelmHandLaw") (d : decode k.1 pc = .ok (.invokevirtual 23, 3)) (hb : fr + 1 ≤ b.1 ∧ 23 + lo ≤ b.2.1) (hs : ev_cats st ≤ 8) (hC : ev_CF G K_X9_text (fr, lo, 0, 0) [vr 0 i, a0, a1] m (some v) m') (kk : ev_E G k b u (pc + 3) L (v :: st) (ev_emb m') Q) : ev_E G k b u pc L (a1 :: a0 :: vr 0 i :: st) (ev_emb m) Q := ev_cV1 (As := [a0, a1]) (ci := 9) (hc ▸ wl_L_23) mi_X9_text rfl rfl rfl d hb hs rfl hC kk
theorem wl_L_27 : Cond.methodLink "HelmHandLaw" 27 yX10_text ∈ ev_GW := tm_6 (List.mem_of_getElem? (i := 99) rfl) rfl
theorem cl1_L_27 {G : ev_G} {k : ev_K} {b : ev_B} {u : Nat × Nat} {pc : Nat} {L : List (Option ev_V)} {st : List ev_V} {m : ev_m} {Q : Option ev_V → ev_M → Prop} {i fr lo : Nat} {m' : ev_m} {a0 a1 : ev_V} {v : ev_V} (hc : k.2.1.cls = "HelmHandLaw") (d : decode k.1 pc = .ok (.invokevirtual 27, 3)) (hb : fr + 1 ≤ b.1 ∧ 23 + lo ≤ b.2.1) (hs : ev_cats st ≤ 8) (hC : ev_CF G K_X10_text (fr, lo, 0, 0) [vr 10 i, a0, a1] m (some v) m') (kk : ev_E G k b u (pc + 3) L (v :: st) (ev_emb m') Q) : ev_E G k b u pc L (a1 :: a0 :: vr 10 i :: st) (ev_emb m) Q := ev_cV1 (As := [a0, a1]) (ci := 10) (hc ▸ wl_L_27) mi_X10_text rfl rfl rfl d hb hs rfl hC kk
theorem wl_L_28 : Cond.methodLink "HelmHandLaw" 28 yX9_fault ∈ ev_GW := tm_3 (List.mem_of_getElem? (i := 218) rfl) rfl
theorem cl1_L_28 {G : ev_G} {k : ev_K} {b : ev_B} {u : Nat × Nat} {pc : Nat} {L : List (Option ev_V)} {st : List ev_V} {m : ev_m} {Q : Option ev_V → ev_M → Prop} {i fr lo : Nat} {m' : ev_m} {a0 : ev_V} {v : ev_V} (hc : k.2.1.cls = "HelmHandLaw") (d : decode k.1 pc = .ok (.invokevirtual 28, 3)) (hb : fr + 1 ≤ b.1 ∧ 21 + lo ≤ b.2.1) (hs : ev_cats st ≤ 8) (hC : ev_CF G K_X9_fault (fr, lo, 0, 0) [vr 0 i, a0] m (some v) m') (kk : ev_E G k b u (pc + 3) L (v :: st) (ev_emb m') Q) : ev_E G k b u pc L (a0 :: vr 0 i :: st) (ev_emb m) Q := ev_cV1 (As := [a0]) (ci := 9) (hc ▸ wl_L_28) mi_X9_fault rfl rfl rfl d hb hs rfl hC kk
theorem wl_L_31 : Cond.methodLink "HelmHandLaw" 31 yX10_fault ∈ ev_GW := tm_6 (List.mem_of_getElem? (i := 196) rfl) rfl
theorem cl1_L_31 {G : ev_G} {k : ev_K} {b : ev_B} {u : Nat × Nat} {pc : Nat} {L : List (Option ev_V)} {st : List ev_V} {m : ev_m} {Q : Option ev_V → ev_M → Prop} {i fr lo : Nat} {m' : ev_m} {a0 : ev_V} {v : ev_V} (hc : k.2.1.cls = "HelmHandLaw") (d : decode k.1 pc = .ok (.invokevirtual 31, 3)) (hb : fr + 1 ≤ b.1 ∧ 21 + lo ≤ b.2.1) (hs : ev_cats st ≤ 8) (hC : ev_CF G K_X10_fault (fr, lo, 0, 0) [vr 10 i, a0] m (some v) m') (kk : ev_E G k b u (pc + 3) L (v :: st) (ev_emb m') Q) : ev_E G k b u pc L (a0 :: vr 10 i :: st) (ev_emb m) Q := ev_cV1 (As := [a0]) (ci := 10) (hc ▸ wl_L_31) mi_X10_fault rfl rfl rfl d hb hs rfl hC kk
theorem wl_L_32 : Cond.methodLink "HelmHandLaw" 32 yX9_ship ∈ ev_GW := tm_3 (List.mem_of_getElem? (i := 222) rfl) rfl
theorem cl1_L_32 {G : ev_G} {k : ev_K} {b : ev_B} {u : Nat × Nat} {pc : Nat} {L : List (Option ev_V)} {st : List ev_V} {m : ev_m} {Q : Option ev_V → ev_M → Prop} {i fr lo : Nat} {m' : ev_m} {a0 a1 : ev_V} {v : ev_V} (hc : k.2.1.cls = "HelmHandLaw") (d : decode k.1 pc = .ok (.invokevirtual 32, 3)) (hb : fr + 1 ≤ b.1 ∧ 23 + lo ≤ b.2.1) (hs : ev_cats st ≤ 8) (hC : ev_CF G K_X9_ship (fr, lo, 0, 0) [vr 0 i, a0, a1] m (some v) m') (kk : ev_E G k b u (pc + 3) L (v :: st) (ev_emb m') Q) : ev_E G k b u pc L (a1 :: a0 :: vr 0 i :: st) (ev_emb m) Q := ev_cV1 (As := [a0, a1]) (ci := 9) (hc ▸ wl_L_32) mi_X9_ship rfl rfl rfl d hb hs rfl hC kk
theorem wl_L_35 : Cond.methodLink "HelmHandLaw" 35 yX10_ship ∈ ev_GW := tm_6 (List.mem_of_getElem? (i := 200) rfl) rfl
theorem cl1_L_35 {G : ev_G} {k : ev_K} {b : ev_B} {u : Nat × Nat} {pc : Nat} {L : List (Option ev_V)} {st : List ev_V} {m : ev_m} {Q : Option ev_V → ev_M → Prop} {i fr lo : Nat} {m' : ev_m} {a0 a1 : ev_V} {v : ev_V} (hc : k.2.1.cls = "HelmHandLaw") (d : decode k.1 pc = .ok (.invokevirtual 35, 3)) (hb : fr + 1 ≤ b.1 ∧ 22 + lo ≤ b.2.1) (hs : ev_cats st ≤ 8) (hC : ev_CF G K_X10_ship (fr, lo, 0, 0) [vr 10 i, a0, a1] m (some v) m') (kk : ev_E G k b u (pc + 3) L (v :: st) (ev_emb m') Q) : ev_E G k b u pc L (a1 :: a0 :: vr 10 i :: st) (ev_emb m) Q := ev_cV1 (As := [a0, a1]) (ci := 10) (hc ▸ wl_L_35) mi_X10_ship rfl rfl rfl d hb hs rfl hC kk
theorem wl_L_36 : Cond.methodLink "HelmHandLaw" 36 yX9_hand ∈ ev_GW := tm_3 (List.mem_of_getElem? (i := 229) rfl) rfl
theorem cl1_L_36 {G : ev_G} {k : ev_K} {b : ev_B} {u : Nat × Nat} {pc : Nat} {L : List (Option ev_V)} {st : List ev_V} {m : ev_m} {Q : Option ev_V → ev_M → Prop} {i fr lo : Nat} {m' : ev_m} {a0 a1 : ev_V} {v : ev_V} (hc : k.2.1.cls = "HelmHandLaw") (d : decode k.1 pc = .ok (.invokevirtual 36, 3)) (hb : fr + 1 ≤ b.1 ∧ 23 + lo ≤ b.2.1) (hs : ev_cats st ≤ 8) (hC : ev_CF G K_X9_hand (fr, lo, 0, 0) [vr 0 i, a0, a1] m (some v) m') (kk : ev_E G k b u (pc + 3) L (v :: st) (ev_emb m') Q) : ev_E G k b u pc L (a1 :: a0 :: vr 0 i :: st) (ev_emb m) Q := ev_cV1 (As := [a0, a1]) (ci := 9) (hc ▸ wl_L_36) mi_X9_hand rfl rfl rfl d hb hs rfl hC kk
theorem wl_L_39 : Cond.methodLink "HelmHandLaw" 39 yX10_hand ∈ ev_GW := tm_6 (List.mem_of_getElem? (i := 205) rfl) rfl
theorem cl1_L_39 {G : ev_G} {k : ev_K} {b : ev_B} {u : Nat × Nat} {pc : Nat} {L : List (Option ev_V)} {st : List ev_V} {m : ev_m} {Q : Option ev_V → ev_M → Prop} {i fr lo : Nat} {m' : ev_m} {a0 a1 : ev_V} {v : ev_V} (hc : k.2.1.cls = "HelmHandLaw") (d : decode k.1 pc = .ok (.invokevirtual 39, 3)) (hb : fr + 1 ≤ b.1 ∧ 23 + lo ≤ b.2.1) (hs : ev_cats st ≤ 8) (hC : ev_CF G K_X10_hand (fr, lo, 0, 0) [vr 10 i, a0, a1] m (some v) m') (kk : ev_E G k b u (pc + 3) L (v :: st) (ev_emb m') Q) : ev_E G k b u pc L (a1 :: a0 :: vr 10 i :: st) (ev_emb m) Q := ev_cV1 (As := [a0, a1]) (ci := 10) (hc ▸ wl_L_39) mi_X10_hand rfl rfl rfl d hb hs rfl hC kk
theorem wl_L_40 : Cond.methodLink "HelmHandLaw" 40 yX9_paper ∈ ev_GW := tm_3 (List.mem_of_getElem? (i := 235) rfl) rfl
theorem cl1_L_40 {G : ev_G} {k : ev_K} {b : ev_B} {u : Nat × Nat} {pc : Nat} {L : List (Option ev_V)} {st : List ev_V} {m : ev_m} {Q : Option ev_V → ev_M → Prop} {i fr lo : Nat} {m' : ev_m} {a0 a1 : ev_V} {v : ev_V} (hc : k.2.1.cls = "HelmHandLaw") (d : decode k.1 pc = .ok (.invokevirtual 40, 3)) (hb : fr + 1 ≤ b.1 ∧ 23 + lo ≤ b.2.1) (hs : ev_cats st ≤ 8) (hC : ev_CF G K_X9_paper (fr, lo, 0, 0) [vr 0 i, a0, a1] m (some v) m') (kk : ev_E G k b u (pc + 3) L (v :: st) (ev_emb m') Q) : ev_E G k b u pc L (a1 :: a0 :: vr 0 i :: st) (ev_emb m) Q := ev_cV1 (As := [a0, a1]) (ci := 9) (hc ▸ wl_L_40) mi_X9_paper rfl rfl rfl d hb hs rfl hC kk
theorem wl_L_43 : Cond.methodLink "HelmHandLaw" 43 yX10_paper ∈ ev_GW := tm_6 (List.mem_of_getElem? (i := 209) rfl) rfl
theorem cl1_L_43 {G : ev_G} {k : ev_K} {b : ev_B} {u : Nat × Nat} {pc : Nat} {L : List (Option ev_V)} {st : List ev_V} {m : ev_m} {Q : Option ev_V → ev_M → Prop} {i fr lo : Nat} {m' : ev_m} {a0 a1 : ev_V} {v : ev_V} (hc : k.2.1.cls = "HelmHandLaw") (d : decode k.1 pc = .ok (.invokevirtual 43, 3)) (hb : fr + 1 ≤ b.1 ∧ 22 + lo ≤ b.2.1) (hs : ev_cats st ≤ 8) (hC : ev_CF G K_X10_paper (fr, lo, 0, 0) [vr 10 i, a0, a1] m (some v) m') (kk : ev_E G k b u (pc + 3) L (v :: st) (ev_emb m') Q) : ev_E G k b u pc L (a1 :: a0 :: vr 10 i :: st) (ev_emb m) Q := ev_cV1 (As := [a0, a1]) (ci := 10) (hc ▸ wl_L_43) mi_X10_paper rfl rfl rfl d hb hs rfl hC kk
theorem wl_L_44 : Cond.methodLink "HelmHandLaw" 44 yX9_watch ∈ ev_GW := tm_4 (List.mem_of_getElem? (i := 1) rfl) rfl
theorem cl1_L_44 {G : ev_G} {k : ev_K} {b : ev_B} {u : Nat × Nat} {pc : Nat} {L : List (Option ev_V)} {st : List ev_V} {m : ev_m} {Q : Option ev_V → ev_M → Prop} {i fr lo : Nat} {m' : ev_m} {a0 a1 a2 : ev_V} {v : ev_V} (hc : k.2.1.cls = "HelmHandLaw") (d : decode k.1 pc = .ok (.invokevirtual 44, 3)) (hb : fr + 1 ≤ b.1 ∧ 24 + lo ≤ b.2.1) (hs : ev_cats st ≤ 8) (hC : ev_CF G K_X9_watch (fr, lo, 0, 0) [vr 0 i, a0, a1, a2] m (some v) m') (kk : ev_E G k b u (pc + 3) L (v :: st) (ev_emb m') Q) : ev_E G k b u pc L (a2 :: a1 :: a0 :: vr 0 i :: st) (ev_emb m) Q := ev_cV1 (As := [a0, a1, a2]) (ci := 9) (hc ▸ wl_L_44) mi_X9_watch rfl rfl rfl d hb hs rfl hC kk
theorem wl_L_48 : Cond.methodLink "HelmHandLaw" 48 yX10_watch ∈ ev_GW := tm_6 (List.mem_of_getElem? (i := 213) rfl) rfl
theorem cl1_L_48 {G : ev_G} {k : ev_K} {b : ev_B} {u : Nat × Nat} {pc : Nat} {L : List (Option ev_V)} {st : List ev_V} {m : ev_m} {Q : Option ev_V → ev_M → Prop} {i fr lo : Nat} {m' : ev_m} {a0 a1 a2 : ev_V} {v : ev_V} (hc : k.2.1.cls = "HelmHandLaw") (d : decode k.1 pc = .ok (.invokevirtual 48, 3)) (hb : fr + 1 ≤ b.1 ∧ 23 + lo ≤ b.2.1) (hs : ev_cats st ≤ 8) (hC : ev_CF G K_X10_watch (fr, lo, 0, 0) [vr 10 i, a0, a1, a2] m (some v) m') (kk : ev_E G k b u (pc + 3) L (v :: st) (ev_emb m') Q) : ev_E G k b u pc L (a2 :: a1 :: a0 :: vr 10 i :: st) (ev_emb m) Q := ev_cV1 (As := [a0, a1, a2]) (ci := 10) (hc ▸ wl_L_48) mi_X10_watch rfl rfl rfl d hb hs rfl hC kk
theorem wl_L_49 : Cond.methodLink "HelmHandLaw" 49 yX9_second ∈ ev_GW := tm_4 (List.mem_of_getElem? (i := 6) rfl) rfl
theorem cl1_L_49 {G : ev_G} {k : ev_K} {b : ev_B} {u : Nat × Nat} {pc : Nat} {L : List (Option ev_V)} {st : List ev_V} {m : ev_m} {Q : Option ev_V → ev_M → Prop} {i fr lo : Nat} {m' : ev_m} {a0 a1 a2 a3 a4 : ev_V} {v : ev_V} (hc : k.2.1.cls = "HelmHandLaw") (d : decode k.1 pc = .ok (.invokevirtual 49, 3)) (hb : fr + 1 ≤ b.1 ∧ 25 + lo ≤ b.2.1) (hs : ev_cats st ≤ 8) (hC : ev_CF G K_X9_second (fr, lo, 0, 0) [vr 0 i, a0, a1, a2, a3, a4] m (some v) m') (kk : ev_E G k b u (pc + 3) L (v :: st) (ev_emb m') Q) : ev_E G k b u pc L (a4 :: a3 :: a2 :: a1 :: a0 :: vr 0 i :: st) (ev_emb m) Q := ev_cV1 (As := [a0, a1, a2, a3, a4]) (ci := 9) (hc ▸ wl_L_49) mi_X9_second rfl rfl rfl d hb hs rfl hC kk
theorem wl_L_52 : Cond.methodLink "HelmHandLaw" 52 yX10_second ∈ ev_GW := tm_6 (List.mem_of_getElem? (i := 217) rfl) rfl
theorem cl1_L_52 {G : ev_G} {k : ev_K} {b : ev_B} {u : Nat × Nat} {pc : Nat} {L : List (Option ev_V)} {st : List ev_V} {m : ev_m} {Q : Option ev_V → ev_M → Prop} {i fr lo : Nat} {m' : ev_m} {a0 a1 a2 a3 a4 : ev_V} {v : ev_V} (hc : k.2.1.cls = "HelmHandLaw") (d : decode k.1 pc = .ok (.invokevirtual 52, 3)) (hb : fr + 1 ≤ b.1 ∧ 25 + lo ≤ b.2.1) (hs : ev_cats st ≤ 8) (hC : ev_CF G K_X10_second (fr, lo, 0, 0) [vr 10 i, a0, a1, a2, a3, a4] m (some v) m') (kk : ev_E G k b u (pc + 3) L (v :: st) (ev_emb m') Q) : ev_E G k b u pc L (a4 :: a3 :: a2 :: a1 :: a0 :: vr 10 i :: st) (ev_emb m) Q := ev_cV1 (As := [a0, a1, a2, a3, a4]) (ci := 10) (hc ▸ wl_L_52) mi_X10_second rfl rfl rfl d hb hs rfl hC kk
theorem wl_L_53 : Cond.methodLink "HelmHandLaw" 53 yX9_run ∈ ev_GW := tm_4 (List.mem_of_getElem? (i := 81) rfl) rfl
theorem cl1_L_53 {G : ev_G} {k : ev_K} {b : ev_B} {u : Nat × Nat} {pc : Nat} {L : List (Option ev_V)} {st : List ev_V} {m : ev_m} {Q : Option ev_V → ev_M → Prop} {i fr lo : Nat} {m' : ev_m} {a0 a1 a2 a3 a4 : ev_V} {v : ev_V} (hc : k.2.1.cls = "HelmHandLaw") (d : decode k.1 pc = .ok (.invokevirtual 53, 3)) (hb : fr + 1 ≤ b.1 ∧ 25 + lo ≤ b.2.1) (hs : ev_cats st ≤ 8) (hC : ev_CF G K_X9_run (fr, lo, 0, 0) [vr 0 i, a0, a1, a2, a3, a4] m (some v) m') (kk : ev_E G k b u (pc + 3) L (v :: st) (ev_emb m') Q) : ev_E G k b u pc L (a4 :: a3 :: a2 :: a1 :: a0 :: vr 0 i :: st) (ev_emb m) Q := ev_cV1 (As := [a0, a1, a2, a3, a4]) (ci := 9) (hc ▸ wl_L_53) mi_X9_run rfl rfl rfl d hb hs rfl hC kk
theorem wl_L_57 : Cond.methodLink "HelmHandLaw" 57 yX10_run ∈ ev_GW := tm_7 (List.mem_of_getElem? (i := 48) rfl) rfl
theorem cl1_L_57 {G : ev_G} {k : ev_K} {b : ev_B} {u : Nat × Nat} {pc : Nat} {L : List (Option ev_V)} {st : List ev_V} {m : ev_m} {Q : Option ev_V → ev_M → Prop} {i fr lo : Nat} {m' : ev_m} {a0 a1 a2 a3 a4 : ev_V} {v : ev_V} (hc : k.2.1.cls = "HelmHandLaw") (d : decode k.1 pc = .ok (.invokevirtual 57, 3)) (hb : fr + 1 ≤ b.1 ∧ 25 + lo ≤ b.2.1) (hs : ev_cats st ≤ 8) (hC : ev_CF G K_X10_run (fr, lo, 0, 0) [vr 10 i, a0, a1, a2, a3, a4] m (some v) m') (kk : ev_E G k b u (pc + 3) L (v :: st) (ev_emb m') Q) : ev_E G k b u pc L (a4 :: a3 :: a2 :: a1 :: a0 :: vr 10 i :: st) (ev_emb m) Q := ev_cV1 (As := [a0, a1, a2, a3, a4]) (ci := 10) (hc ▸ wl_L_57) mi_X10_run rfl rfl rfl d hb hs rfl hC kk
theorem wl_L_58 : Cond.methodLink "HelmHandLaw" 58 yX9_peak ∈ ev_GW := tm_4 (List.mem_of_getElem? (i := 157) rfl) rfl
theorem cl1_L_58 {G : ev_G} {k : ev_K} {b : ev_B} {u : Nat × Nat} {pc : Nat} {L : List (Option ev_V)} {st : List ev_V} {m : ev_m} {Q : Option ev_V → ev_M → Prop} {i fr lo : Nat} {m' : ev_m} {a0 a1 a2 a3 a4 : ev_V} {v : ev_V} (hc : k.2.1.cls = "HelmHandLaw") (d : decode k.1 pc = .ok (.invokevirtual 58, 3)) (hb : fr + 1 ≤ b.1 ∧ 25 + lo ≤ b.2.1) (hs : ev_cats st ≤ 8) (hC : ev_CF G K_X9_peak (fr, lo, 0, 0) [vr 0 i, a0, a1, a2, a3, a4] m (some v) m') (kk : ev_E G k b u (pc + 3) L (v :: st) (ev_emb m') Q) : ev_E G k b u pc L (a4 :: a3 :: a2 :: a1 :: a0 :: vr 0 i :: st) (ev_emb m) Q := ev_cV1 (As := [a0, a1, a2, a3, a4]) (ci := 9) (hc ▸ wl_L_58) mi_X9_peak rfl rfl rfl d hb hs rfl hC kk
theorem wl_L_61 : Cond.methodLink "HelmHandLaw" 61 yX10_peak ∈ ev_GW := tm_7 (List.mem_of_getElem? (i := 61) rfl) rfl
theorem cl1_L_61 {G : ev_G} {k : ev_K} {b : ev_B} {u : Nat × Nat} {pc : Nat} {L : List (Option ev_V)} {st : List ev_V} {m : ev_m} {Q : Option ev_V → ev_M → Prop} {i fr lo : Nat} {m' : ev_m} {a0 a1 a2 a3 a4 : ev_V} {v : ev_V} (hc : k.2.1.cls = "HelmHandLaw") (d : decode k.1 pc = .ok (.invokevirtual 61, 3)) (hb : fr + 1 ≤ b.1 ∧ 25 + lo ≤ b.2.1) (hs : ev_cats st ≤ 8) (hC : ev_CF G K_X10_peak (fr, lo, 0, 0) [vr 10 i, a0, a1, a2, a3, a4] m (some v) m') (kk : ev_E G k b u (pc + 3) L (v :: st) (ev_emb m') Q) : ev_E G k b u pc L (a4 :: a3 :: a2 :: a1 :: a0 :: vr 10 i :: st) (ev_emb m) Q := ev_cV1 (As := [a0, a1, a2, a3, a4]) (ci := 10) (hc ▸ wl_L_61) mi_X10_peak rfl rfl rfl d hb hs rfl hC kk
theorem wl_L_62 : Cond.methodLink "HelmHandLaw" 62 yX9_found ∈ ev_GW := tm_4 (List.mem_of_getElem? (i := 162) rfl) rfl
theorem cl1_L_62 {G : ev_G} {k : ev_K} {b : ev_B} {u : Nat × Nat} {pc : Nat} {L : List (Option ev_V)} {st : List ev_V} {m : ev_m} {Q : Option ev_V → ev_M → Prop} {i fr lo : Nat} {m' : ev_m} {a0 a1 a2 a3 a4 a5 : ev_V} {v : ev_V} (hc : k.2.1.cls = "HelmHandLaw") (d : decode k.1 pc = .ok (.invokevirtual 62, 3)) (hb : fr + 1 ≤ b.1 ∧ 26 + lo ≤ b.2.1) (hs : ev_cats st ≤ 8) (hC : ev_CF G K_X9_found (fr, lo, 0, 0) [vr 0 i, a0, a1, a2, a3, a4, a5] m (some v) m') (kk : ev_E G k b u (pc + 3) L (v :: st) (ev_emb m') Q) : ev_E G k b u pc L (a5 :: a4 :: a3 :: a2 :: a1 :: a0 :: vr 0 i :: st) (ev_emb m) Q := ev_cV1 (As := [a0, a1, a2, a3, a4, a5]) (ci := 9) (hc ▸ wl_L_62) mi_X9_found rfl rfl rfl d hb hs rfl hC kk
theorem wl_L_66 : Cond.methodLink "HelmHandLaw" 66 yX10_found ∈ ev_GW := tm_7 (List.mem_of_getElem? (i := 65) rfl) rfl
theorem cl1_L_66 {G : ev_G} {k : ev_K} {b : ev_B} {u : Nat × Nat} {pc : Nat} {L : List (Option ev_V)} {st : List ev_V} {m : ev_m} {Q : Option ev_V → ev_M → Prop} {i fr lo : Nat} {m' : ev_m} {a0 a1 a2 a3 a4 a5 : ev_V} {v : ev_V} (hc : k.2.1.cls = "HelmHandLaw") (d : decode k.1 pc = .ok (.invokevirtual 66, 3)) (hb : fr + 1 ≤ b.1 ∧ 32 + lo ≤ b.2.1) (hs : ev_cats st ≤ 8) (hC : ev_CF G K_X10_found (fr, lo, 0, 0) [vr 10 i, a0, a1, a2, a3, a4, a5] m (some v) m') (kk : ev_E G k b u (pc + 3) L (v :: st) (ev_emb m') Q) : ev_E G k b u pc L (a5 :: a4 :: a3 :: a2 :: a1 :: a0 :: vr 10 i :: st) (ev_emb m) Q := ev_cV1 (As := [a0, a1, a2, a3, a4, a5]) (ci := 10) (hc ▸ wl_L_66) mi_X10_found rfl rfl rfl d hb hs rfl hC kk
theorem wl_L_67 : Cond.methodLink "HelmHandLaw" 67 yX9_iron ∈ ev_GW := tm_4 (List.mem_of_getElem? (i := 195) rfl) rfl
theorem cl1_L_67 {G : ev_G} {k : ev_K} {b : ev_B} {u : Nat × Nat} {pc : Nat} {L : List (Option ev_V)} {st : List ev_V} {m : ev_m} {Q : Option ev_V → ev_M → Prop} {i fr lo : Nat} {m' : ev_m} {a0 a1 a2 a3 : ev_V} {v : ev_V} (hc : k.2.1.cls = "HelmHandLaw") (d : decode k.1 pc = .ok (.invokevirtual 67, 3)) (hb : fr + 1 ≤ b.1 ∧ 30 + lo ≤ b.2.1) (hs : ev_cats st ≤ 8) (hC : ev_CF G K_X9_iron (fr, lo, 0, 0) [vr 0 i, a0, a1, a2, a3] m (some v) m') (kk : ev_E G k b u (pc + 3) L (v :: st) (ev_emb m') Q) : ev_E G k b u pc L (a3 :: a2 :: a1 :: a0 :: vr 0 i :: st) (ev_emb m) Q := ev_cV1 (As := [a0, a1, a2, a3]) (ci := 9) (hc ▸ wl_L_67) mi_X9_iron rfl rfl rfl d hb hs rfl hC kk
theorem wl_L_71 : Cond.methodLink "HelmHandLaw" 71 yX10_iron ∈ ev_GW := tm_7 (List.mem_of_getElem? (i := 82) rfl) rfl
theorem cl1_L_71 {G : ev_G} {k : ev_K} {b : ev_B} {u : Nat × Nat} {pc : Nat} {L : List (Option ev_V)} {st : List ev_V} {m : ev_m} {Q : Option ev_V → ev_M → Prop} {i fr lo : Nat} {m' : ev_m} {a0 a1 a2 a3 : ev_V} {v : ev_V} (hc : k.2.1.cls = "HelmHandLaw") (d : decode k.1 pc = .ok (.invokevirtual 71, 3)) (hb : fr + 1 ≤ b.1 ∧ 30 + lo ≤ b.2.1) (hs : ev_cats st ≤ 8) (hC : ev_CF G K_X10_iron (fr, lo, 0, 0) [vr 10 i, a0, a1, a2, a3] m (some v) m') (kk : ev_E G k b u (pc + 3) L (v :: st) (ev_emb m') Q) : ev_E G k b u pc L (a3 :: a2 :: a1 :: a0 :: vr 10 i :: st) (ev_emb m) Q := ev_cV1 (As := [a0, a1, a2, a3]) (ci := 10) (hc ▸ wl_L_71) mi_X10_iron rfl rfl rfl d hb hs rfl hC kk
theorem wl_L_72 : Cond.methodLink "HelmHandLaw" 72 yX9_line ∈ ev_GW := tm_4 (List.mem_of_getElem? (i := 203) rfl) rfl
theorem cl1_L_72 {G : ev_G} {k : ev_K} {b : ev_B} {u : Nat × Nat} {pc : Nat} {L : List (Option ev_V)} {st : List ev_V} {m : ev_m} {Q : Option ev_V → ev_M → Prop} {i fr lo : Nat} {m' : ev_m} {a0 a1 a2 a3 : ev_V} {v : ev_V} (hc : k.2.1.cls = "HelmHandLaw") (d : decode k.1 pc = .ok (.invokevirtual 72, 3)) (hb : fr + 1 ≤ b.1 ∧ 25 + lo ≤ b.2.1) (hs : ev_cats st ≤ 8) (hC : ev_CF G K_X9_line (fr, lo, 0, 0) [vr 0 i, a0, a1, a2, a3] m (some v) m') (kk : ev_E G k b u (pc + 3) L (v :: st) (ev_emb m') Q) : ev_E G k b u pc L (a3 :: a2 :: a1 :: a0 :: vr 0 i :: st) (ev_emb m) Q := ev_cV1 (As := [a0, a1, a2, a3]) (ci := 9) (hc ▸ wl_L_72) mi_X9_line rfl rfl rfl d hb hs rfl hC kk
theorem wl_L_76 : Cond.methodLink "HelmHandLaw" 76 yX10_line ∈ ev_GW := tm_7 (List.mem_of_getElem? (i := 86) rfl) rfl
theorem cl1_L_76 {G : ev_G} {k : ev_K} {b : ev_B} {u : Nat × Nat} {pc : Nat} {L : List (Option ev_V)} {st : List ev_V} {m : ev_m} {Q : Option ev_V → ev_M → Prop} {i fr lo : Nat} {m' : ev_m} {a0 a1 a2 a3 : ev_V} {v : ev_V} (hc : k.2.1.cls = "HelmHandLaw") (d : decode k.1 pc = .ok (.invokevirtual 76, 3)) (hb : fr + 1 ≤ b.1 ∧ 26 + lo ≤ b.2.1) (hs : ev_cats st ≤ 8) (hC : ev_CF G K_X10_line (fr, lo, 0, 0) [vr 10 i, a0, a1, a2, a3] m (some v) m') (kk : ev_E G k b u (pc + 3) L (v :: st) (ev_emb m') Q) : ev_E G k b u pc L (a3 :: a2 :: a1 :: a0 :: vr 10 i :: st) (ev_emb m) Q := ev_cV1 (As := [a0, a1, a2, a3]) (ci := 10) (hc ▸ wl_L_76) mi_X10_line rfl rfl rfl d hb hs rfl hC kk
theorem wl_L_77 : Cond.methodLink "HelmHandLaw" 77 yX9_alone ∈ ev_GW := tm_4 (List.mem_of_getElem? (i := 217) rfl) rfl
theorem cl1_L_77 {G : ev_G} {k : ev_K} {b : ev_B} {u : Nat × Nat} {pc : Nat} {L : List (Option ev_V)} {st : List ev_V} {m : ev_m} {Q : Option ev_V → ev_M → Prop} {i fr lo : Nat} {m' : ev_m} {a0 a1 a2 : ev_V} {v : ev_V} (hc : k.2.1.cls = "HelmHandLaw") (d : decode k.1 pc = .ok (.invokevirtual 77, 3)) (hb : fr + 1 ≤ b.1 ∧ 25 + lo ≤ b.2.1) (hs : ev_cats st ≤ 8) (hC : ev_CF G K_X9_alone (fr, lo, 0, 0) [vr 0 i, a0, a1, a2] m (some v) m') (kk : ev_E G k b u (pc + 3) L (v :: st) (ev_emb m') Q) : ev_E G k b u pc L (a2 :: a1 :: a0 :: vr 0 i :: st) (ev_emb m) Q := ev_cV1 (As := [a0, a1, a2]) (ci := 9) (hc ▸ wl_L_77) mi_X9_alone rfl rfl rfl d hb hs rfl hC kk
theorem wl_L_80 : Cond.methodLink "HelmHandLaw" 80 yX10_alone ∈ ev_GW := tm_7 (List.mem_of_getElem? (i := 90) rfl) rfl
theorem cl1_L_80 {G : ev_G} {k : ev_K} {b : ev_B} {u : Nat × Nat} {pc : Nat} {L : List (Option ev_V)} {st : List ev_V} {m : ev_m} {Q : Option ev_V → ev_M → Prop} {i fr lo : Nat} {m' : ev_m} {a0 a1 a2 : ev_V} {v : ev_V} (hc : k.2.1.cls = "HelmHandLaw") (d : decode k.1 pc = .ok (.invokevirtual 80, 3)) (hb : fr + 1 ≤ b.1 ∧ 24 + lo ≤ b.2.1) (hs : ev_cats st ≤ 8) (hC : ev_CF G K_X10_alone (fr, lo, 0, 0) [vr 10 i, a0, a1, a2] m (some v) m') (kk : ev_E G k b u (pc + 3) L (v :: st) (ev_emb m') Q) : ev_E G k b u pc L (a2 :: a1 :: a0 :: vr 10 i :: st) (ev_emb m) Q := ev_cV1 (As := [a0, a1, a2]) (ci := 10) (hc ▸ wl_L_80) mi_X10_alone rfl rfl rfl d hb hs rfl hC kk
theorem wl_L_81 : Cond.methodLink "HelmHandLaw" 81 yX9_hard ∈ ev_GW := tm_4 (List.mem_of_getElem? (i := 222) rfl) rfl
theorem cl1_L_81 {G : ev_G} {k : ev_K} {b : ev_B} {u : Nat × Nat} {pc : Nat} {L : List (Option ev_V)} {st : List ev_V} {m : ev_m} {Q : Option ev_V → ev_M → Prop} {i fr lo : Nat} {m' : ev_m} {a0 a1 a2 a3 : ev_V} {v : ev_V} (hc : k.2.1.cls = "HelmHandLaw") (d : decode k.1 pc = .ok (.invokevirtual 81, 3)) (hb : fr + 1 ≤ b.1 ∧ 26 + lo ≤ b.2.1) (hs : ev_cats st ≤ 8) (hC : ev_CF G K_X9_hard (fr, lo, 0, 0) [vr 0 i, a0, a1, a2, a3] m (some v) m') (kk : ev_E G k b u (pc + 3) L (v :: st) (ev_emb m') Q) : ev_E G k b u pc L (a3 :: a2 :: a1 :: a0 :: vr 0 i :: st) (ev_emb m) Q := ev_cV1 (As := [a0, a1, a2, a3]) (ci := 9) (hc ▸ wl_L_81) mi_X9_hard rfl rfl rfl d hb hs rfl hC kk
theorem wl_L_84 : Cond.methodLink "HelmHandLaw" 84 yX10_hard ∈ ev_GW := tm_7 (List.mem_of_getElem? (i := 94) rfl) rfl
theorem cl1_L_84 {G : ev_G} {k : ev_K} {b : ev_B} {u : Nat × Nat} {pc : Nat} {L : List (Option ev_V)} {st : List ev_V} {m : ev_m} {Q : Option ev_V → ev_M → Prop} {i fr lo : Nat} {m' : ev_m} {a0 a1 a2 a3 : ev_V} {v : ev_V} (hc : k.2.1.cls = "HelmHandLaw") (d : decode k.1 pc = .ok (.invokevirtual 84, 3)) (hb : fr + 1 ≤ b.1 ∧ 27 + lo ≤ b.2.1) (hs : ev_cats st ≤ 8) (hC : ev_CF G K_X10_hard (fr, lo, 0, 0) [vr 10 i, a0, a1, a2, a3] m (some v) m') (kk : ev_E G k b u (pc + 3) L (v :: st) (ev_emb m') Q) : ev_E G k b u pc L (a3 :: a2 :: a1 :: a0 :: vr 10 i :: st) (ev_emb m) Q := ev_cV1 (As := [a0, a1, a2, a3]) (ci := 10) (hc ▸ wl_L_84) mi_X10_hard rfl rfl rfl d hb hs rfl hC kk
theorem wl_L_85 : Cond.methodLink "HelmHandLaw" 85 yX9_set ∈ ev_GW := tm_4 (List.mem_of_getElem? (i := 234) rfl) rfl
theorem cl1_L_85 {G : ev_G} {k : ev_K} {b : ev_B} {u : Nat × Nat} {pc : Nat} {L : List (Option ev_V)} {st : List ev_V} {m : ev_m} {Q : Option ev_V → ev_M → Prop} {i fr lo : Nat} {m' : ev_m} {a0 a1 a2 : ev_V} {v : ev_V} (hc : k.2.1.cls = "HelmHandLaw") (d : decode k.1 pc = .ok (.invokevirtual 85, 3)) (hb : fr + 1 ≤ b.1 ∧ 30 + lo ≤ b.2.1) (hs : ev_cats st ≤ 8) (hC : ev_CF G K_X9_set (fr, lo, 0, 0) [vr 0 i, a0, a1, a2] m (some v) m') (kk : ev_E G k b u (pc + 3) L (v :: st) (ev_emb m') Q) : ev_E G k b u pc L (a2 :: a1 :: a0 :: vr 0 i :: st) (ev_emb m) Q := ev_cV1 (As := [a0, a1, a2]) (ci := 9) (hc ▸ wl_L_85) mi_X9_set rfl rfl rfl d hb hs rfl hC kk
theorem wl_L_88 : Cond.methodLink "HelmHandLaw" 88 yX10_set ∈ ev_GW := tm_7 (List.mem_of_getElem? (i := 98) rfl) rfl
theorem cl1_L_88 {G : ev_G} {k : ev_K} {b : ev_B} {u : Nat × Nat} {pc : Nat} {L : List (Option ev_V)} {st : List ev_V} {m : ev_m} {Q : Option ev_V → ev_M → Prop} {i fr lo : Nat} {m' : ev_m} {a0 a1 a2 : ev_V} {v : ev_V} (hc : k.2.1.cls = "HelmHandLaw") (d : decode k.1 pc = .ok (.invokevirtual 88, 3)) (hb : fr + 1 ≤ b.1 ∧ 30 + lo ≤ b.2.1) (hs : ev_cats st ≤ 8) (hC : ev_CF G K_X10_set (fr, lo, 0, 0) [vr 10 i, a0, a1, a2] m (some v) m') (kk : ev_E G k b u (pc + 3) L (v :: st) (ev_emb m') Q) : ev_E G k b u pc L (a2 :: a1 :: a0 :: vr 10 i :: st) (ev_emb m) Q := ev_cV1 (As := [a0, a1, a2]) (ci := 10) (hc ▸ wl_L_88) mi_X10_set rfl rfl rfl d hb hs rfl hC kk
theorem wl_L_89 : Cond.methodLink "HelmHandLaw" 89 yX9_worth ∈ ev_GW := tm_5 (List.mem_of_getElem? (i := 2) rfl) rfl
theorem cl1_L_89 {G : ev_G} {k : ev_K} {b : ev_B} {u : Nat × Nat} {pc : Nat} {L : List (Option ev_V)} {st : List ev_V} {m : ev_m} {Q : Option ev_V → ev_M → Prop} {i fr lo : Nat} {m' : ev_m} {a0 a1 a2 a3 : ev_V} {v : ev_V} (hc : k.2.1.cls = "HelmHandLaw") (d : decode k.1 pc = .ok (.invokevirtual 89, 3)) (hb : fr + 1 ≤ b.1 ∧ 26 + lo ≤ b.2.1) (hs : ev_cats st ≤ 8) (hC : ev_CF G K_X9_worth (fr, lo, 0, 0) [vr 0 i, a0, a1, a2, a3] m (some v) m') (kk : ev_E G k b u (pc + 3) L (v :: st) (ev_emb m') Q) : ev_E G k b u pc L (a3 :: a2 :: a1 :: a0 :: vr 0 i :: st) (ev_emb m) Q := ev_cV1 (As := [a0, a1, a2, a3]) (ci := 9) (hc ▸ wl_L_89) mi_X9_worth rfl rfl rfl d hb hs rfl hC kk
theorem wl_L_93 : Cond.methodLink "HelmHandLaw" 93 yX10_worth ∈ ev_GW := tm_7 (List.mem_of_getElem? (i := 102) rfl) rfl
theorem cl1_L_93 {G : ev_G} {k : ev_K} {b : ev_B} {u : Nat × Nat} {pc : Nat} {L : List (Option ev_V)} {st : List ev_V} {m : ev_m} {Q : Option ev_V → ev_M → Prop} {i fr lo : Nat} {m' : ev_m} {a0 a1 a2 a3 : ev_V} {v : ev_V} (hc : k.2.1.cls = "HelmHandLaw") (d : decode k.1 pc = .ok (.invokevirtual 93, 3)) (hb : fr + 1 ≤ b.1 ∧ 24 + lo ≤ b.2.1) (hs : ev_cats st ≤ 8) (hC : ev_CF G K_X10_worth (fr, lo, 0, 0) [vr 10 i, a0, a1, a2, a3] m (some v) m') (kk : ev_E G k b u (pc + 3) L (v :: st) (ev_emb m') Q) : ev_E G k b u pc L (a3 :: a2 :: a1 :: a0 :: vr 10 i :: st) (ev_emb m) Q := ev_cV1 (As := [a0, a1, a2, a3]) (ci := 10) (hc ▸ wl_L_93) mi_X10_worth rfl rfl rfl d hb hs rfl hC kk
theorem wl_L_94 : Cond.methodLink "HelmHandLaw" 94 yX9_night ∈ ev_GW := tm_5 (List.mem_of_getElem? (i := 6) rfl) rfl
theorem cl1_L_94 {G : ev_G} {k : ev_K} {b : ev_B} {u : Nat × Nat} {pc : Nat} {L : List (Option ev_V)} {st : List ev_V} {m : ev_m} {Q : Option ev_V → ev_M → Prop} {i fr lo : Nat} {m' : ev_m} {a0 a1 a2 a3 : ev_V} {v : ev_V} (hc : k.2.1.cls = "HelmHandLaw") (d : decode k.1 pc = .ok (.invokevirtual 94, 3)) (hb : fr + 1 ≤ b.1 ∧ 24 + lo ≤ b.2.1) (hs : ev_cats st ≤ 8) (hC : ev_CF G K_X9_night (fr, lo, 0, 0) [vr 0 i, a0, a1, a2, a3] m (some v) m') (kk : ev_E G k b u (pc + 3) L (v :: st) (ev_emb m') Q) : ev_E G k b u pc L (a3 :: a2 :: a1 :: a0 :: vr 0 i :: st) (ev_emb m) Q := ev_cV1 (As := [a0, a1, a2, a3]) (ci := 9) (hc ▸ wl_L_94) mi_X9_night rfl rfl rfl d hb hs rfl hC kk
theorem wl_L_97 : Cond.methodLink "HelmHandLaw" 97 yX10_night ∈ ev_GW := tm_7 (List.mem_of_getElem? (i := 110) rfl) rfl
theorem cl1_L_97 {G : ev_G} {k : ev_K} {b : ev_B} {u : Nat × Nat} {pc : Nat} {L : List (Option ev_V)} {st : List ev_V} {m : ev_m} {Q : Option ev_V → ev_M → Prop} {i fr lo : Nat} {m' : ev_m} {a0 a1 a2 a3 : ev_V} {v : ev_V} (hc : k.2.1.cls = "HelmHandLaw") (d : decode k.1 pc = .ok (.invokevirtual 97, 3)) (hb : fr + 1 ≤ b.1 ∧ 24 + lo ≤ b.2.1) (hs : ev_cats st ≤ 8) (hC : ev_CF G K_X10_night (fr, lo, 0, 0) [vr 10 i, a0, a1, a2, a3] m (some v) m') (kk : ev_E G k b u (pc + 3) L (v :: st) (ev_emb m') Q) : ev_E G k b u pc L (a3 :: a2 :: a1 :: a0 :: vr 10 i :: st) (ev_emb m) Q := ev_cV1 (As := [a0, a1, a2, a3]) (ci := 10) (hc ▸ wl_L_97) mi_X10_night rfl rfl rfl d hb hs rfl hC kk
theorem wl_L_98 : Cond.methodLink "HelmHandLaw" 98 yX9_cloud ∈ ev_GW := tm_5 (List.mem_of_getElem? (i := 10) rfl) rfl
theorem cl1_L_98 {G : ev_G} {k : ev_K} {b : ev_B} {u : Nat × Nat} {pc : Nat} {L : List (Option ev_V)} {st : List ev_V} {m : ev_m} {Q : Option ev_V → ev_M → Prop} {i fr lo : Nat} {m' : ev_m} {a0 a1 a2 a3 : ev_V} {v : ev_V} (hc : k.2.1.cls = "HelmHandLaw") (d : decode k.1 pc = .ok (.invokevirtual 98, 3)) (hb : fr + 1 ≤ b.1 ∧ 25 + lo ≤ b.2.1) (hs : ev_cats st ≤ 8) (hC : ev_CF G K_X9_cloud (fr, lo, 0, 0) [vr 0 i, a0, a1, a2, a3] m (some v) m') (kk : ev_E G k b u (pc + 3) L (v :: st) (ev_emb m') Q) : ev_E G k b u pc L (a3 :: a2 :: a1 :: a0 :: vr 0 i :: st) (ev_emb m) Q := ev_cV1 (As := [a0, a1, a2, a3]) (ci := 9) (hc ▸ wl_L_98) mi_X9_cloud rfl rfl rfl d hb hs rfl hC kk
theorem wl_X0_102 : Cond.methodLink "HelmHand$Book" 102 yX0_copyWatch ∈ ev_GW := tm_3 (List.mem_of_getElem? (i := 205) rfl) rfl
theorem cl0_X0_102 {G : ev_G} {k : ev_K} {b : ev_B} {u : Nat × Nat} {pc : Nat} {L : List (Option ev_V)} {st : List ev_V} {m : ev_m} {Q : Option ev_V → ev_M → Prop} {i fr lo : Nat} {m' : ev_m} {a0 a1 : ev_V} (hc : k.2.1.cls = "HelmHand$Book") (d : decode k.1 pc = .ok (.invokevirtual 102, 3)) (hb : fr + 1 ≤ b.1 ∧ 23 + lo ≤ b.2.1) (hs : ev_cats st ≤ 8) (hC : ev_CF G K_X0_copyWatch (fr, lo, 0, 0) [vr 1 i, a0, a1] m none m') (kk : ev_E G k b u (pc + 3) L st (ev_emb m') Q) : ev_E G k b u pc L (a1 :: a0 :: vr 1 i :: st) (ev_emb m) Q := ev_cV0 (As := [a0, a1]) (ci := 0) (hc ▸ wl_X0_102) mi_X0_copyWatch rfl rfl rfl d hb hs rfl hC kk
theorem wl_X0_106 : Cond.methodLink "HelmHand$Book" 106 yX6_copy ∈ ev_GW := tm_5 (List.mem_of_getElem? (i := 174) rfl) rfl
theorem cl0_X0_106 {G : ev_G} {k : ev_K} {b : ev_B} {u : Nat × Nat} {pc : Nat} {L : List (Option ev_V)} {st : List ev_V} {m : ev_m} {Q : Option ev_V → ev_M → Prop} {i fr lo : Nat} {m' : ev_m} {a0 : ev_V} (hc : k.2.1.cls = "HelmHand$Book") (d : decode k.1 pc = .ok (.invokevirtual 106, 3)) (hb : fr + 1 ≤ b.1 ∧ 21 + lo ≤ b.2.1) (hs : ev_cats st ≤ 8) (hC : ev_CF G K_X6_copy (fr, lo, 0, 0) [vr 2 i, a0] m none m') (kk : ev_E G k b u (pc + 3) L st (ev_emb m') Q) : ev_E G k b u pc L (a0 :: vr 2 i :: st) (ev_emb m) Q := ev_cV0 (As := [a0]) (ci := 6) (hc ▸ wl_X0_106) mi_X6_copy rfl rfl rfl d hb hs rfl hC kk
theorem wl_X0_113 : Cond.methodLink "HelmHand$Book" 113 yX0_shipAt ∈ ev_GW := tm_3 (List.mem_of_getElem? (i := 150) rfl) rfl
theorem cl1_X0_113 {G : ev_G} {k : ev_K} {b : ev_B} {u : Nat × Nat} {pc : Nat} {L : List (Option ev_V)} {st : List ev_V} {m : ev_m} {Q : Option ev_V → ev_M → Prop} {i fr lo : Nat} {m' : ev_m} {a0 : ev_V} {v : ev_V} (hc : k.2.1.cls = "HelmHand$Book") (d : decode k.1 pc = .ok (.invokevirtual 113, 3)) (hb : fr + 1 ≤ b.1 ∧ 21 + lo ≤ b.2.1) (hs : ev_cats st ≤ 8) (hC : ev_CF G K_X0_shipAt (fr, lo, 0, 0) [vr 1 i, a0] m (some v) m') (kk : ev_E G k b u (pc + 3) L (v :: st) (ev_emb m') Q) : ev_E G k b u pc L (a0 :: vr 1 i :: st) (ev_emb m) Q := ev_cV1 (As := [a0]) (ci := 0) (hc ▸ wl_X0_113) mi_X0_shipAt rfl rfl rfl d hb hs rfl hC kk
theorem wl_X0_117 : Cond.methodLink "HelmHand$Book" 117 yX0_handAt ∈ ev_GW := tm_3 (List.mem_of_getElem? (i := 174) rfl) rfl
theorem cl1_X0_117 {G : ev_G} {k : ev_K} {b : ev_B} {u : Nat × Nat} {pc : Nat} {L : List (Option ev_V)} {st : List ev_V} {m : ev_m} {Q : Option ev_V → ev_M → Prop} {i fr lo : Nat} {m' : ev_m} {a0 : ev_V} {v : ev_V} (hc : k.2.1.cls = "HelmHand$Book") (d : decode k.1 pc = .ok (.invokevirtual 117, 3)) (hb : fr + 1 ≤ b.1 ∧ 21 + lo ≤ b.2.1) (hs : ev_cats st ≤ 8) (hC : ev_CF G K_X0_handAt (fr, lo, 0, 0) [vr 1 i, a0] m (some v) m') (kk : ev_E G k b u (pc + 3) L (v :: st) (ev_emb m') Q) : ev_E G k b u pc L (a0 :: vr 1 i :: st) (ev_emb m) Q := ev_cV1 (As := [a0]) (ci := 0) (hc ▸ wl_X0_117) mi_X0_handAt rfl rfl rfl d hb hs rfl hC kk
theorem wl_X0_121 : Cond.methodLink "HelmHand$Book" 121 yX0_paperAt ∈ ev_GW := tm_3 (List.mem_of_getElem? (i := 196) rfl) rfl
theorem cl1_X0_121 {G : ev_G} {k : ev_K} {b : ev_B} {u : Nat × Nat} {pc : Nat} {L : List (Option ev_V)} {st : List ev_V} {m : ev_m} {Q : Option ev_V → ev_M → Prop} {i fr lo : Nat} {m' : ev_m} {a0 : ev_V} {v : ev_V} (hc : k.2.1.cls = "HelmHand$Book") (d : decode k.1 pc = .ok (.invokevirtual 121, 3)) (hb : fr + 1 ≤ b.1 ∧ 21 + lo ≤ b.2.1) (hs : ev_cats st ≤ 8) (hC : ev_CF G K_X0_paperAt (fr, lo, 0, 0) [vr 1 i, a0] m (some v) m') (kk : ev_E G k b u (pc + 3) L (v :: st) (ev_emb m') Q) : ev_E G k b u pc L (a0 :: vr 1 i :: st) (ev_emb m) Q := ev_cV1 (As := [a0]) (ci := 0) (hc ▸ wl_X0_121) mi_X0_paperAt rfl rfl rfl d hb hs rfl hC kk
theorem wl_X0_125 : Cond.methodLink "HelmHand$Book" 125 yX0_watchAt ∈ ev_GW := tm_3 (List.mem_of_getElem? (i := 209) rfl) rfl
theorem cl1_X0_125 {G : ev_G} {k : ev_K} {b : ev_B} {u : Nat × Nat} {pc : Nat} {L : List (Option ev_V)} {st : List ev_V} {m : ev_m} {Q : Option ev_V → ev_M → Prop} {i fr lo : Nat} {m' : ev_m} {a0 : ev_V} {v : ev_V} (hc : k.2.1.cls = "HelmHand$Book") (d : decode k.1 pc = .ok (.invokevirtual 125, 3)) (hb : fr + 1 ≤ b.1 ∧ 21 + lo ≤ b.2.1) (hs : ev_cats st ≤ 8) (hC : ev_CF G K_X0_watchAt (fr, lo, 0, 0) [vr 1 i, a0] m (some v) m') (kk : ev_E G k b u (pc + 3) L (v :: st) (ev_emb m') Q) : ev_E G k b u pc L (a0 :: vr 1 i :: st) (ev_emb m) Q := ev_cV1 (As := [a0]) (ci := 0) (hc ▸ wl_X0_125) mi_X0_watchAt rfl rfl rfl d hb hs rfl hC kk
theorem wl_X0_129 : Cond.methodLink "HelmHand$Book" 129 yX5_copy ∈ ev_GW := tm_3 (List.mem_of_getElem? (i := 154) rfl) rfl
theorem cl0_X0_129 {G : ev_G} {k : ev_K} {b : ev_B} {u : Nat × Nat} {pc : Nat} {L : List (Option ev_V)} {st : List ev_V} {m : ev_m} {Q : Option ev_V → ev_M → Prop} {i fr lo : Nat} {m' : ev_m} {a0 : ev_V} (hc : k.2.1.cls = "HelmHand$Book") (d : decode k.1 pc = .ok (.invokevirtual 129, 3)) (hb : fr + 1 ≤ b.1 ∧ 22 + lo ≤ b.2.1) (hs : ev_cats st ≤ 8) (hC : ev_CF G K_X5_copy (fr, lo, 0, 0) [vr 3 i, a0] m none m') (kk : ev_E G k b u (pc + 3) L st (ev_emb m') Q) : ev_E G k b u pc L (a0 :: vr 3 i :: st) (ev_emb m) Q := ev_cV0 (As := [a0]) (ci := 5) (hc ▸ wl_X0_129) mi_X5_copy rfl rfl rfl d hb hs rfl hC kk
theorem wl_X0_132 : Cond.methodLink "HelmHand$Book" 132 yX1_copy ∈ ev_GW := tm_3 (List.mem_of_getElem? (i := 178) rfl) rfl
theorem cl0_X0_132 {G : ev_G} {k : ev_K} {b : ev_B} {u : Nat × Nat} {pc : Nat} {L : List (Option ev_V)} {st : List ev_V} {m : ev_m} {Q : Option ev_V → ev_M → Prop} {i fr lo : Nat} {m' : ev_m} {a0 : ev_V} (hc : k.2.1.cls = "HelmHand$Book") (d : decode k.1 pc = .ok (.invokevirtual 132, 3)) (hb : fr + 1 ≤ b.1 ∧ 22 + lo ≤ b.2.1) (hs : ev_cats st ≤ 8) (hC : ev_CF G K_X1_copy (fr, lo, 0, 0) [vr 4 i, a0] m none m') (kk : ev_E G k b u (pc + 3) L st (ev_emb m') Q) : ev_E G k b u pc L (a0 :: vr 4 i :: st) (ev_emb m) Q := ev_cV0 (As := [a0]) (ci := 1) (hc ▸ wl_X0_132) mi_X1_copy rfl rfl rfl d hb hs rfl hC kk
theorem wl_X0_135 : Cond.methodLink "HelmHand$Book" 135 yX3_copy ∈ ev_GW := tm_3 (List.mem_of_getElem? (i := 200) rfl) rfl
theorem cl0_X0_135 {G : ev_G} {k : ev_K} {b : ev_B} {u : Nat × Nat} {pc : Nat} {L : List (Option ev_V)} {st : List ev_V} {m : ev_m} {Q : Option ev_V → ev_M → Prop} {i fr lo : Nat} {m' : ev_m} {a0 : ev_V} (hc : k.2.1.cls = "HelmHand$Book") (d : decode k.1 pc = .ok (.invokevirtual 135, 3)) (hb : fr + 1 ≤ b.1 ∧ 21 + lo ≤ b.2.1) (hs : ev_cats st ≤ 8) (hC : ev_CF G K_X3_copy (fr, lo, 0, 0) [vr 5 i, a0] m none m') (kk : ev_E G k b u (pc + 3) L st (ev_emb m') Q) : ev_E G k b u pc L (a0 :: vr 5 i :: st) (ev_emb m) Q := ev_cV0 (As := [a0]) (ci := 3) (hc ▸ wl_X0_135) mi_X3_copy rfl rfl rfl d hb hs rfl hC kk
theorem wl_X0_138 : Cond.methodLink "HelmHand$Book" 138 yX7_copy ∈ ev_GW := tm_3 (List.mem_of_getElem? (i := 213) rfl) rfl
theorem cl0_X0_138 {G : ev_G} {k : ev_K} {b : ev_B} {u : Nat × Nat} {pc : Nat} {L : List (Option ev_V)} {st : List ev_V} {m : ev_m} {Q : Option ev_V → ev_M → Prop} {i fr lo : Nat} {m' : ev_m} {a0 : ev_V} (hc : k.2.1.cls = "HelmHand$Book") (d : decode k.1 pc = .ok (.invokevirtual 138, 3)) (hb : fr + 1 ≤ b.1 ∧ 21 + lo ≤ b.2.1) (hs : ev_cats st ≤ 8) (hC : ev_CF G K_X7_copy (fr, lo, 0, 0) [vr 6 i, a0] m none m') (kk : ev_E G k b u (pc + 3) L st (ev_emb m') Q) : ev_E G k b u pc L (a0 :: vr 6 i :: st) (ev_emb m) Q := ev_cV0 (As := [a0]) (ci := 7) (hc ▸ wl_X0_138) mi_X7_copy rfl rfl rfl d hb hs rfl hC kk
theorem wl_X0_62 : Cond.methodLink "HelmHand$Book" 62 yX0_countOf ∈ ev_GW := tm_2 (List.mem_of_getElem? (i := 162) rfl) rfl
theorem cl1_X0_62 {G : ev_G} {k : ev_K} {b : ev_B} {u : Nat × Nat} {pc : Nat} {L : List (Option ev_V)} {st : List ev_V} {m : ev_m} {Q : Option ev_V → ev_M → Prop} {i fr lo : Nat} {m' : ev_m} {a0 : ev_V} {v : ev_V} (hc : k.2.1.cls = "HelmHand$Book") (d : decode k.1 pc = .ok (.invokevirtual 62, 3)) (hb : fr + 1 ≤ b.1 ∧ 21 + lo ≤ b.2.1) (hs : ev_cats st ≤ 8) (hC : ev_CF G K_X0_countOf (fr, lo, 0, 0) [vr 1 i, a0] m (some v) m') (kk : ev_E G k b u (pc + 3) L (v :: st) (ev_emb m') Q) : ev_E G k b u pc L (a0 :: vr 1 i :: st) (ev_emb m) Q := ev_cV1 (As := [a0]) (ci := 0) (hc ▸ wl_X0_62) mi_X0_countOf rfl rfl rfl d hb hs rfl hC kk
theorem wl_X0_78 : Cond.methodLink "HelmHand$Book" 78 yX0_copyShip ∈ ev_GW := tm_3 (List.mem_of_getElem? (i := 146) rfl) rfl
theorem cl0_X0_78 {G : ev_G} {k : ev_K} {b : ev_B} {u : Nat × Nat} {pc : Nat} {L : List (Option ev_V)} {st : List ev_V} {m : ev_m} {Q : Option ev_V → ev_M → Prop} {i fr lo : Nat} {m' : ev_m} {a0 a1 : ev_V} (hc : k.2.1.cls = "HelmHand$Book") (d : decode k.1 pc = .ok (.invokevirtual 78, 3)) (hb : fr + 1 ≤ b.1 ∧ 23 + lo ≤ b.2.1) (hs : ev_cats st ≤ 8) (hC : ev_CF G K_X0_copyShip (fr, lo, 0, 0) [vr 1 i, a0, a1] m none m') (kk : ev_E G k b u (pc + 3) L st (ev_emb m') Q) : ev_E G k b u pc L (a1 :: a0 :: vr 1 i :: st) (ev_emb m) Q := ev_cV0 (As := [a0, a1]) (ci := 0) (hc ▸ wl_X0_78) mi_X0_copyShip rfl rfl rfl d hb hs rfl hC kk
theorem wl_X0_86 : Cond.methodLink "HelmHand$Book" 86 yX0_copyHand ∈ ev_GW := tm_3 (List.mem_of_getElem? (i := 170) rfl) rfl
theorem cl0_X0_86 {G : ev_G} {k : ev_K} {b : ev_B} {u : Nat × Nat} {pc : Nat} {L : List (Option ev_V)} {st : List ev_V} {m : ev_m} {Q : Option ev_V → ev_M → Prop} {i fr lo : Nat} {m' : ev_m} {a0 a1 : ev_V} (hc : k.2.1.cls = "HelmHand$Book") (d : decode k.1 pc = .ok (.invokevirtual 86, 3)) (hb : fr + 1 ≤ b.1 ∧ 23 + lo ≤ b.2.1) (hs : ev_cats st ≤ 8) (hC : ev_CF G K_X0_copyHand (fr, lo, 0, 0) [vr 1 i, a0, a1] m none m') (kk : ev_E G k b u (pc + 3) L st (ev_emb m') Q) : ev_E G k b u pc L (a1 :: a0 :: vr 1 i :: st) (ev_emb m) Q := ev_cV0 (As := [a0, a1]) (ci := 0) (hc ▸ wl_X0_86) mi_X0_copyHand rfl rfl rfl d hb hs rfl hC kk
theorem wl_X0_94 : Cond.methodLink "HelmHand$Book" 94 yX0_copyPaper ∈ ev_GW := tm_3 (List.mem_of_getElem? (i := 192) rfl) rfl
theorem cl0_X0_94 {G : ev_G} {k : ev_K} {b : ev_B} {u : Nat × Nat} {pc : Nat} {L : List (Option ev_V)} {st : List ev_V} {m : ev_m} {Q : Option ev_V → ev_M → Prop} {i fr lo : Nat} {m' : ev_m} {a0 a1 : ev_V} (hc : k.2.1.cls = "HelmHand$Book") (d : decode k.1 pc = .ok (.invokevirtual 94, 3)) (hb : fr + 1 ≤ b.1 ∧ 23 + lo ≤ b.2.1) (hs : ev_cats st ≤ 8) (hC : ev_CF G K_X0_copyPaper (fr, lo, 0, 0) [vr 1 i, a0, a1] m none m') (kk : ev_E G k b u (pc + 3) L st (ev_emb m') Q) : ev_E G k b u pc L (a1 :: a0 :: vr 1 i :: st) (ev_emb m) Q := ev_cV0 (As := [a0, a1]) (ci := 0) (hc ▸ wl_X0_94) mi_X0_copyPaper rfl rfl rfl d hb hs rfl hC kk
theorem wl_X1_18 : Cond.methodLink "HelmHand$Hand" 18 yX1_write ∈ ev_GW := tm_2 (List.mem_of_getElem? (i := 191) rfl) rfl
theorem cl0_X1_18 {G : ev_G} {k : ev_K} {b : ev_B} {u : Nat × Nat} {pc : Nat} {L : List (Option ev_V)} {st : List ev_V} {m : ev_m} {Q : Option ev_V → ev_M → Prop} {i fr lo : Nat} {m' : ev_m} {a0 a1 : ev_V} (hc : k.2.1.cls = "HelmHand$Hand") (d : decode k.1 pc = .ok (.invokevirtual 18, 3)) (hb : fr + 1 ≤ b.1 ∧ 22 + lo ≤ b.2.1) (hs : ev_cats st ≤ 8) (hC : ev_CF G K_X1_write (fr, lo, 0, 0) [vr 4 i, a0, a1] m none m') (kk : ev_E G k b u (pc + 3) L st (ev_emb m') Q) : ev_E G k b u pc L (a1 :: a0 :: vr 4 i :: st) (ev_emb m) Q := ev_cV0 (As := [a0, a1]) (ci := 1) (hc ▸ wl_X1_18) mi_X1_write rfl rfl rfl d hb hs rfl hC kk
theorem wl_X1_29 : Cond.methodLink "HelmHand$Hand" 29 yX1_look ∈ ev_GW := tm_3 (List.mem_of_getElem? (i := 182) rfl) rfl
theorem cl1_X1_29 {G : ev_G} {k : ev_K} {b : ev_B} {u : Nat × Nat} {pc : Nat} {L : List (Option ev_V)} {st : List ev_V} {m : ev_m} {Q : Option ev_V → ev_M → Prop} {i fr lo : Nat} {m' : ev_m} {a0 : ev_V} {v : ev_V} (hc : k.2.1.cls = "HelmHand$Hand") (d : decode k.1 pc = .ok (.invokevirtual 29, 3)) (hb : fr + 1 ≤ b.1 ∧ 21 + lo ≤ b.2.1) (hs : ev_cats st ≤ 8) (hC : ev_CF G K_X1_look (fr, lo, 0, 0) [vr 4 i, a0] m (some v) m') (kk : ev_E G k b u (pc + 3) L (v :: st) (ev_emb m') Q) : ev_E G k b u pc L (a0 :: vr 4 i :: st) (ev_emb m) Q := ev_cV1 (As := [a0]) (ci := 1) (hc ▸ wl_X1_29) mi_X1_look rfl rfl rfl d hb hs rfl hC kk
theorem cl0_X1_33 {G : ev_G} {k : ev_K} {b : ev_B} {u : Nat × Nat} {pc : Nat} {L : List (Option ev_V)} {st : List ev_V} {m : ev_m} {Q : Option ev_V → ev_M → Prop} {fr lo : Nat} {m' : ev_m} {a0 a1 : ev_V} (hc : k.2.1.cls = "HelmHand$Hand") (d : decode k.1 pc = .ok (.invokestatic 33, 3)) (hb : fr + 1 ≤ b.1 ∧ 21 + lo ≤ b.2.1) (hs : ev_cats st ≤ 8) (hC : ev_CF G K_X9_copyRow (fr, lo, 0, 0) [a0, a1] m none m') (kk : ev_E G k b u (pc + 3) L st (ev_emb m') Q) : ev_E G k b u pc L (a1 :: a0 :: st) (ev_emb m) Q := ev_cSN (host := "HelmHand") (As := [a0, a1]) (by rw [hc]; exact List.mem_of_getElem? (i := 23) rfl) mi_X9_copyRow rfl d hb hs rfl hC kk
theorem wl_X1_62 : Cond.methodLink "HelmHand$Hand" 62 yX1_lookStar ∈ ev_GW := tm_3 (List.mem_of_getElem? (i := 186) rfl) rfl
theorem cl1_X1_62 {G : ev_G} {k : ev_K} {b : ev_B} {u : Nat × Nat} {pc : Nat} {L : List (Option ev_V)} {st : List ev_V} {m : ev_m} {Q : Option ev_V → ev_M → Prop} {i fr lo : Nat} {m' : ev_m} {a0 : ev_V} {v : ev_V} (hc : k.2.1.cls = "HelmHand$Hand") (d : decode k.1 pc = .ok (.invokevirtual 62, 3)) (hb : fr + 1 ≤ b.1 ∧ 21 + lo ≤ b.2.1) (hs : ev_cats st ≤ 8) (hC : ev_CF G K_X1_lookStar (fr, lo, 0, 0) [vr 4 i, a0] m (some v) m') (kk : ev_E G k b u (pc + 3) L (v :: st) (ev_emb m') Q) : ev_E G k b u pc L (a0 :: vr 4 i :: st) (ev_emb m) Q := ev_cV1 (As := [a0]) (ci := 1) (hc ▸ wl_X1_62) mi_X1_lookStar rfl rfl rfl d hb hs rfl hC kk
theorem cl1_X1_65 {G : ev_G} {k : ev_K} {b : ev_B} {u : Nat × Nat} {pc : Nat} {L : List (Option ev_V)} {st : List ev_V} {m : ev_m} {Q : Option ev_V → ev_M → Prop} {fr lo : Nat} {m' : ev_m} {a0 a1 : ev_V} {v : ev_V} (hc : k.2.1.cls = "HelmHand$Hand") (d : decode k.1 pc = .ok (.invokestatic 65, 3)) (hb : fr + 1 ≤ b.1 ∧ 21 + lo ≤ b.2.1) (hs : ev_cats st ≤ 8) (hC : ev_CF G K_X9_at (fr, lo, 0, 0) [a0, a1] m (some v) m') (kk : ev_E G k b u (pc + 3) L (v :: st) (ev_emb m') Q) : ev_E G k b u pc L (a1 :: a0 :: st) (ev_emb m) Q := ev_cSN (host := "HelmHand") (As := [a0, a1]) (by rw [hc]; exact List.mem_of_getElem? (i := 22) rfl) mi_X9_at rfl d hb hs rfl hC kk
theorem cl0_X1_69 {G : ev_G} {k : ev_K} {b : ev_B} {u : Nat × Nat} {pc : Nat} {L : List (Option ev_V)} {st : List ev_V} {m : ev_m} {Q : Option ev_V → ev_M → Prop} {fr lo : Nat} {m' : ev_m} {a0 a1 a2 : ev_V} (hc : k.2.1.cls = "HelmHand$Hand") (d : decode k.1 pc = .ok (.invokestatic 69, 3)) (hb : fr + 1 ≤ b.1 ∧ 22 + lo ≤ b.2.1) (hs : ev_cats st ≤ 8) (hC : ev_CF G K_X9_put (fr, lo, 0, 0) [a0, a1, a2] m none m') (kk : ev_E G k b u (pc + 3) L st (ev_emb m') Q) : ev_E G k b u pc L (a2 :: a1 :: a0 :: st) (ev_emb m) Q := ev_cSN (host := "HelmHand") (As := [a0, a1, a2]) (by rw [hc]; exact List.mem_of_getElem? (i := 17) rfl) mi_X9_put rfl d hb hs rfl hC kk
theorem wl_X10_103 : Cond.methodLink "HelmHandModel" 103 yX10_see ∈ ev_GW := tm_6 (List.mem_of_getElem? (i := 122) rfl) rfl
theorem cl1_X10_103 {G : ev_G} {k : ev_K} {b : ev_B} {u : Nat × Nat} {pc : Nat} {L : List (Option ev_V)} {st : List ev_V} {m : ev_m} {Q : Option ev_V → ev_M → Prop} {i fr lo : Nat} {m' : ev_m} {v : ev_V} (hc : k.2.1.cls = "HelmHandModel") (d : decode k.1 pc = .ok (.invokevirtual 103, 3)) (hb : fr + 1 ≤ b.1 ∧ 20 + lo ≤ b.2.1) (hs : ev_cats st ≤ 8) (hC : ev_CF G K_X10_see (fr, lo, 0, 0) [vr 10 i] m (some v) m') (kk : ev_E G k b u (pc + 3) L (v :: st) (ev_emb m') Q) : ev_E G k b u pc L (vr 10 i :: st) (ev_emb m) Q := ev_cV1 (As := []) (ci := 10) (hc ▸ wl_X10_103) mi_X10_see rfl rfl rfl d hb hs rfl hC kk
theorem wl_X10_129 : Cond.methodLink "HelmHandModel" 129 yX10_stops ∈ ev_GW := tm_6 (List.mem_of_getElem? (i := 140) rfl) rfl
theorem cl1_X10_129 {G : ev_G} {k : ev_K} {b : ev_B} {u : Nat × Nat} {pc : Nat} {L : List (Option ev_V)} {st : List ev_V} {m : ev_m} {Q : Option ev_V → ev_M → Prop} {i fr lo : Nat} {m' : ev_m} {v : ev_V} (hc : k.2.1.cls = "HelmHandModel") (d : decode k.1 pc = .ok (.invokevirtual 129, 3)) (hb : fr + 1 ≤ b.1 ∧ 20 + lo ≤ b.2.1) (hs : ev_cats st ≤ 8) (hC : ev_CF G K_X10_stops (fr, lo, 0, 0) [vr 10 i] m (some v) m') (kk : ev_E G k b u (pc + 3) L (v :: st) (ev_emb m') Q) : ev_E G k b u pc L (vr 10 i :: st) (ev_emb m) Q := ev_cV1 (As := []) (ci := 10) (hc ▸ wl_X10_129) mi_X10_stops rfl rfl rfl d hb hs rfl hC kk
theorem wl_X10_136 : Cond.methodLink "HelmHandModel" 136 yX10_later ∈ ev_GW := tm_6 (List.mem_of_getElem? (i := 156) rfl) rfl
theorem cl0_X10_136 {G : ev_G} {k : ev_K} {b : ev_B} {u : Nat × Nat} {pc : Nat} {L : List (Option ev_V)} {st : List ev_V} {m : ev_m} {Q : Option ev_V → ev_M → Prop} {i fr lo : Nat} {m' : ev_m} {a0 a1 : ev_V} (hc : k.2.1.cls = "HelmHandModel") (d : decode k.1 pc = .ok (.invokevirtual 136, 3)) (hb : fr + 1 ≤ b.1 ∧ 22 + lo ≤ b.2.1) (hs : ev_cats st ≤ 8) (hC : ev_CF G K_X10_later (fr, lo, 0, 0) [vr 10 i, a0, a1] m none m') (kk : ev_E G k b u (pc + 3) L st (ev_emb m') Q) : ev_E G k b u pc L (a1 :: a0 :: vr 10 i :: st) (ev_emb m) Q := ev_cV0 (As := [a0, a1]) (ci := 10) (hc ▸ wl_X10_136) mi_X10_later rfl rfl rfl d hb hs rfl hC kk
theorem wl_X10_140 : Cond.methodLink "HelmHandModel" 140 yX10_token ∈ ev_GW := tm_6 (List.mem_of_getElem? (i := 118) rfl) rfl
theorem cl0_X10_140 {G : ev_G} {k : ev_K} {b : ev_B} {u : Nat × Nat} {pc : Nat} {L : List (Option ev_V)} {st : List ev_V} {m : ev_m} {Q : Option ev_V → ev_M → Prop} {i fr lo : Nat} {m' : ev_m} (hc : k.2.1.cls = "HelmHandModel") (d : decode k.1 pc = .ok (.invokevirtual 140, 3)) (hb : fr + 1 ≤ b.1 ∧ 22 + lo ≤ b.2.1) (hs : ev_cats st ≤ 8) (hC : ev_CF G K_X10_token (fr, lo, 0, 0) [vr 10 i] m none m') (kk : ev_E G k b u (pc + 3) L st (ev_emb m') Q) : ev_E G k b u pc L (vr 10 i :: st) (ev_emb m) Q := ev_cV0 (As := []) (ci := 10) (hc ▸ wl_X10_140) mi_X10_token rfl rfl rfl d hb hs rfl hC kk
theorem wl_X10_143 : Cond.methodLink "HelmHandModel" 143 yX10_number ∈ ev_GW := tm_6 (List.mem_of_getElem? (i := 152) rfl) rfl
theorem cl1_X10_143 {G : ev_G} {k : ev_K} {b : ev_B} {u : Nat × Nat} {pc : Nat} {L : List (Option ev_V)} {st : List ev_V} {m : ev_m} {Q : Option ev_V → ev_M → Prop} {i fr lo : Nat} {m' : ev_m} {a0 a1 : ev_V} {v : ev_V} (hc : k.2.1.cls = "HelmHandModel") (d : decode k.1 pc = .ok (.invokevirtual 143, 3)) (hb : fr + 1 ≤ b.1 ∧ 22 + lo ≤ b.2.1) (hs : ev_cats st ≤ 8) (hC : ev_CF G K_X10_number (fr, lo, 0, 0) [vr 10 i, a0, a1] m (some v) m') (kk : ev_E G k b u (pc + 3) L (v :: st) (ev_emb m') Q) : ev_E G k b u pc L (a1 :: a0 :: vr 10 i :: st) (ev_emb m) Q := ev_cV1 (As := [a0, a1]) (ci := 10) (hc ▸ wl_X10_143) mi_X10_number rfl rfl rfl d hb hs rfl hC kk
theorem wl_X10_147 : Cond.methodLink "HelmHandModel" 147 yX10_signed ∈ ev_GW := tm_6 (List.mem_of_getElem? (i := 148) rfl) rfl
theorem cl1_X10_147 {G : ev_G} {k : ev_K} {b : ev_B} {u : Nat × Nat} {pc : Nat} {L : List (Option ev_V)} {st : List ev_V} {m : ev_m} {Q : Option ev_V → ev_M → Prop} {i fr lo : Nat} {m' : ev_m} {a0 : ev_V} {v : ev_V} (hc : k.2.1.cls = "HelmHandModel") (d : decode k.1 pc = .ok (.invokevirtual 147, 3)) (hb : fr + 1 ≤ b.1 ∧ 23 + lo ≤ b.2.1) (hs : ev_cats st ≤ 8) (hC : ev_CF G K_X10_signed (fr, lo, 0, 0) [vr 10 i, a0] m (some v) m') (kk : ev_E G k b u (pc + 3) L (v :: st) (ev_emb m') Q) : ev_E G k b u pc L (a0 :: vr 10 i :: st) (ev_emb m) Q := ev_cV1 (As := [a0]) (ci := 10) (hc ▸ wl_X10_147) mi_X10_signed rfl rfl rfl d hb hs rfl hC kk
theorem wl_X10_171 : Cond.methodLink "HelmHandModel" 171 yX10_signedInto ∈ ev_GW := tm_6 (List.mem_of_getElem? (i := 144) rfl) rfl
theorem cl1_X10_171 {G : ev_G} {k : ev_K} {b : ev_B} {u : Nat × Nat} {pc : Nat} {L : List (Option ev_V)} {st : List ev_V} {m : ev_m} {Q : Option ev_V → ev_M → Prop} {i fr lo : Nat} {m' : ev_m} {a0 a1 : ev_V} {v : ev_V} (hc : k.2.1.cls = "HelmHandModel") (d : decode k.1 pc = .ok (.invokevirtual 171, 3)) (hb : fr + 1 ≤ b.1 ∧ 23 + lo ≤ b.2.1) (hs : ev_cats st ≤ 8) (hC : ev_CF G K_X10_signedInto (fr, lo, 0, 0) [vr 10 i, a0, a1] m (some v) m') (kk : ev_E G k b u (pc + 3) L (v :: st) (ev_emb m') Q) : ev_E G k b u pc L (a1 :: a0 :: vr 10 i :: st) (ev_emb m) Q := ev_cV1 (As := [a0, a1]) (ci := 10) (hc ▸ wl_X10_171) mi_X10_signedInto rfl rfl rfl d hb hs rfl hC kk
theorem wl_X10_174 : Cond.methodLink "HelmHandModel" 174 yX10_list ∈ ev_GW := tm_6 (List.mem_of_getElem? (i := 160) rfl) rfl
theorem cl1_X10_174 {G : ev_G} {k : ev_K} {b : ev_B} {u : Nat × Nat} {pc : Nat} {L : List (Option ev_V)} {st : List ev_V} {m : ev_m} {Q : Option ev_V → ev_M → Prop} {i fr lo : Nat} {m' : ev_m} {a0 a1 a2 a3 : ev_V} {v : ev_V} (hc : k.2.1.cls = "HelmHandModel") (d : decode k.1 pc = .ok (.invokevirtual 174, 3)) (hb : fr + 1 ≤ b.1 ∧ 24 + lo ≤ b.2.1) (hs : ev_cats st ≤ 8) (hC : ev_CF G K_X10_list (fr, lo, 0, 0) [vr 10 i, a0, a1, a2, a3] m (some v) m') (kk : ev_E G k b u (pc + 3) L (v :: st) (ev_emb m') Q) : ev_E G k b u pc L (a3 :: a2 :: a1 :: a0 :: vr 10 i :: st) (ev_emb m) Q := ev_cV1 (As := [a0, a1, a2, a3]) (ci := 10) (hc ▸ wl_X10_174) mi_X10_list rfl rfl rfl d hb hs rfl hC kk
theorem wl_X10_178 : Cond.methodLink "HelmHandModel" 178 yX10_into ∈ ev_GW := tm_6 (List.mem_of_getElem? (i := 164) rfl) rfl
theorem cl1_X10_178 {G : ev_G} {k : ev_K} {b : ev_B} {u : Nat × Nat} {pc : Nat} {L : List (Option ev_V)} {st : List ev_V} {m : ev_m} {Q : Option ev_V → ev_M → Prop} {i fr lo : Nat} {m' : ev_m} {a0 a1 a2 : ev_V} {v : ev_V} (hc : k.2.1.cls = "HelmHandModel") (d : decode k.1 pc = .ok (.invokevirtual 178, 3)) (hb : fr + 1 ≤ b.1 ∧ 24 + lo ≤ b.2.1) (hs : ev_cats st ≤ 8) (hC : ev_CF G K_X10_into (fr, lo, 0, 0) [vr 10 i, a0, a1, a2] m (some v) m') (kk : ev_E G k b u (pc + 3) L (v :: st) (ev_emb m') Q) : ev_E G k b u pc L (a2 :: a1 :: a0 :: vr 10 i :: st) (ev_emb m) Q := ev_cV1 (As := [a0, a1, a2]) (ci := 10) (hc ▸ wl_X10_178) mi_X10_into rfl rfl rfl d hb hs rfl hC kk
theorem wl_X10_205 : Cond.methodLink "HelmHandModel" 205 yX10_clear ∈ ev_GW := tm_6 (List.mem_of_getElem? (i := 114) rfl) rfl
theorem cl0_X10_205 {G : ev_G} {k : ev_K} {b : ev_B} {u : Nat × Nat} {pc : Nat} {L : List (Option ev_V)} {st : List ev_V} {m : ev_m} {Q : Option ev_V → ev_M → Prop} {i fr lo : Nat} {m' : ev_m} {a0 : ev_V} (hc : k.2.1.cls = "HelmHandModel") (d : decode k.1 pc = .ok (.invokevirtual 205, 3)) (hb : fr + 1 ≤ b.1 ∧ 22 + lo ≤ b.2.1) (hs : ev_cats st ≤ 8) (hC : ev_CF G K_X10_clear (fr, lo, 0, 0) [vr 10 i, a0] m none m') (kk : ev_E G k b u (pc + 3) L st (ev_emb m') Q) : ev_E G k b u pc L (a0 :: vr 10 i :: st) (ev_emb m) Q := ev_cV0 (As := [a0]) (ci := 10) (hc ▸ wl_X10_205) mi_X10_clear rfl rfl rfl d hb hs rfl hC kk
theorem wl_X10_208 : Cond.methodLink "HelmHandModel" 208 yX10_shipLine ∈ ev_GW := tm_6 (List.mem_of_getElem? (i := 126) rfl) rfl
theorem cl1_X10_208 {G : ev_G} {k : ev_K} {b : ev_B} {u : Nat × Nat} {pc : Nat} {L : List (Option ev_V)} {st : List ev_V} {m : ev_m} {Q : Option ev_V → ev_M → Prop} {i fr lo : Nat} {m' : ev_m} {a0 : ev_V} {v : ev_V} (hc : k.2.1.cls = "HelmHandModel") (d : decode k.1 pc = .ok (.invokevirtual 208, 3)) (hb : fr + 1 ≤ b.1 ∧ 23 + lo ≤ b.2.1) (hs : ev_cats st ≤ 8) (hC : ev_CF G K_X10_shipLine (fr, lo, 0, 0) [vr 10 i, a0] m (some v) m') (kk : ev_E G k b u (pc + 3) L (v :: st) (ev_emb m') Q) : ev_E G k b u pc L (a0 :: vr 10 i :: st) (ev_emb m) Q := ev_cV1 (As := [a0]) (ci := 10) (hc ▸ wl_X10_208) mi_X10_shipLine rfl rfl rfl d hb hs rfl hC kk
theorem wl_X10_212 : Cond.methodLink "HelmHandModel" 212 yX10_handLine ∈ ev_GW := tm_6 (List.mem_of_getElem? (i := 168) rfl) rfl
theorem cl1_X10_212 {G : ev_G} {k : ev_K} {b : ev_B} {u : Nat × Nat} {pc : Nat} {L : List (Option ev_V)} {st : List ev_V} {m : ev_m} {Q : Option ev_V → ev_M → Prop} {i fr lo : Nat} {m' : ev_m} {a0 a1 : ev_V} {v : ev_V} (hc : k.2.1.cls = "HelmHandModel") (d : decode k.1 pc = .ok (.invokevirtual 212, 3)) (hb : fr + 1 ≤ b.1 ∧ 25 + lo ≤ b.2.1) (hs : ev_cats st ≤ 8) (hC : ev_CF G K_X10_handLine (fr, lo, 0, 0) [vr 10 i, a0, a1] m (some v) m') (kk : ev_E G k b u (pc + 3) L (v :: st) (ev_emb m') Q) : ev_E G k b u pc L (a1 :: a0 :: vr 10 i :: st) (ev_emb m) Q := ev_cV1 (As := [a0, a1]) (ci := 10) (hc ▸ wl_X10_212) mi_X10_handLine rfl rfl rfl d hb hs rfl hC kk
theorem wl_X10_216 : Cond.methodLink "HelmHandModel" 216 yX10_paperLine ∈ ev_GW := tm_6 (List.mem_of_getElem? (i := 182) rfl) rfl
theorem cl1_X10_216 {G : ev_G} {k : ev_K} {b : ev_B} {u : Nat × Nat} {pc : Nat} {L : List (Option ev_V)} {st : List ev_V} {m : ev_m} {Q : Option ev_V → ev_M → Prop} {i fr lo : Nat} {m' : ev_m} {a0 : ev_V} {v : ev_V} (hc : k.2.1.cls = "HelmHandModel") (d : decode k.1 pc = .ok (.invokevirtual 216, 3)) (hb : fr + 1 ≤ b.1 ∧ 22 + lo ≤ b.2.1) (hs : ev_cats st ≤ 8) (hC : ev_CF G K_X10_paperLine (fr, lo, 0, 0) [vr 10 i, a0] m (some v) m') (kk : ev_E G k b u (pc + 3) L (v :: st) (ev_emb m') Q) : ev_E G k b u pc L (a0 :: vr 10 i :: st) (ev_emb m) Q := ev_cV1 (As := [a0]) (ci := 10) (hc ▸ wl_X10_216) mi_X10_paperLine rfl rfl rfl d hb hs rfl hC kk
theorem wl_X10_219 : Cond.methodLink "HelmHandModel" 219 yX10_watchLine ∈ ev_GW := tm_6 (List.mem_of_getElem? (i := 187) rfl) rfl
theorem cl1_X10_219 {G : ev_G} {k : ev_K} {b : ev_B} {u : Nat × Nat} {pc : Nat} {L : List (Option ev_V)} {st : List ev_V} {m : ev_m} {Q : Option ev_V → ev_M → Prop} {i fr lo : Nat} {m' : ev_m} {a0 a1 : ev_V} {v : ev_V} (hc : k.2.1.cls = "HelmHandModel") (d : decode k.1 pc = .ok (.invokevirtual 219, 3)) (hb : fr + 1 ≤ b.1 ∧ 25 + lo ≤ b.2.1) (hs : ev_cats st ≤ 8) (hC : ev_CF G K_X10_watchLine (fr, lo, 0, 0) [vr 10 i, a0, a1] m (some v) m') (kk : ev_E G k b u (pc + 3) L (v :: st) (ev_emb m') Q) : ev_E G k b u pc L (a1 :: a0 :: vr 10 i :: st) (ev_emb m) Q := ev_cV1 (As := [a0, a1]) (ci := 10) (hc ▸ wl_X10_219) mi_X10_watchLine rfl rfl rfl d hb hs rfl hC kk
theorem wl_X10_222 : Cond.methodLink "HelmHandModel" 222 yX10_mostOf ∈ ev_GW := tm_6 (List.mem_of_getElem? (i := 103) rfl) rfl
theorem cl1_X10_222 {G : ev_G} {k : ev_K} {b : ev_B} {u : Nat × Nat} {pc : Nat} {L : List (Option ev_V)} {st : List ev_V} {m : ev_m} {Q : Option ev_V → ev_M → Prop} {fr lo : Nat} {m' : ev_m} {a0 : ev_V} {v : ev_V} (hc : k.2.1.cls = "HelmHandModel") (d : decode k.1 pc = .ok (.invokestatic 222, 3)) (hb : fr + 1 ≤ b.1 ∧ 20 + lo ≤ b.2.1) (hs : ev_cats st ≤ 8) (hC : ev_CF G K_X10_mostOf (fr, lo, 0, 0) [a0] m (some v) m') (kk : ev_E G k b u (pc + 3) L (v :: st) (ev_emb m') Q) : ev_E G k b u pc L (a0 :: st) (ev_emb m) Q := ev_cS (As := [a0]) (hc ▸ wl_X10_222) mi_X10_mostOf rfl d hb hs rfl hC kk
theorem wl_X10_226 : Cond.methodLink "HelmHandModel" 226 yX10_is ∈ ev_GW := tm_6 (List.mem_of_getElem? (i := 106) rfl) rfl
theorem cl1_X10_226 {G : ev_G} {k : ev_K} {b : ev_B} {u : Nat × Nat} {pc : Nat} {L : List (Option ev_V)} {st : List ev_V} {m : ev_m} {Q : Option ev_V → ev_M → Prop} {i fr lo : Nat} {m' : ev_m} {a0 a1 : ev_V} {v : ev_V} (hc : k.2.1.cls = "HelmHandModel") (d : decode k.1 pc = .ok (.invokevirtual 226, 3)) (hb : fr + 1 ≤ b.1 ∧ 22 + lo ≤ b.2.1) (hs : ev_cats st ≤ 8) (hC : ev_CF G K_X10_is (fr, lo, 0, 0) [vr 10 i, a0, a1] m (some v) m') (kk : ev_E G k b u (pc + 3) L (v :: st) (ev_emb m') Q) : ev_E G k b u pc L (a1 :: a0 :: vr 10 i :: st) (ev_emb m) Q := ev_cV1 (As := [a0, a1]) (ci := 10) (hc ▸ wl_X10_226) mi_X10_is rfl rfl rfl d hb hs rfl hC kk
theorem wl_X10_229 : Cond.methodLink "HelmHandModel" 229 yX10_readText ∈ ev_GW := tm_6 (List.mem_of_getElem? (i := 110) rfl) rfl
theorem cl1_X10_229 {G : ev_G} {k : ev_K} {b : ev_B} {u : Nat × Nat} {pc : Nat} {L : List (Option ev_V)} {st : List ev_V} {m : ev_m} {Q : Option ev_V → ev_M → Prop} {i fr lo : Nat} {m' : ev_m} {a0 : ev_V} {v : ev_V} (hc : k.2.1.cls = "HelmHandModel") (d : decode k.1 pc = .ok (.invokevirtual 229, 3)) (hb : fr + 1 ≤ b.1 ∧ 25 + lo ≤ b.2.1) (hs : ev_cats st ≤ 8) (hC : ev_CF G K_X10_readText (fr, lo, 0, 0) [vr 10 i, a0] m (some v) m') (kk : ev_E G k b u (pc + 3) L (v :: st) (ev_emb m') Q) : ev_E G k b u pc L (a0 :: vr 10 i :: st) (ev_emb m) Q := ev_cV1 (As := [a0]) (ci := 10) (hc ▸ wl_X10_229) mi_X10_readText rfl rfl rfl d hb hs rfl hC kk
theorem wl_X10_232 : Cond.methodLink "HelmHandModel" 232 yX10_store ∈ ev_GW := tm_6 (List.mem_of_getElem? (i := 192) rfl) rfl
theorem cl0_X10_232 {G : ev_G} {k : ev_K} {b : ev_B} {u : Nat × Nat} {pc : Nat} {L : List (Option ev_V)} {st : List ev_V} {m : ev_m} {Q : Option ev_V → ev_M → Prop} {i fr lo : Nat} {m' : ev_m} {a0 a1 : ev_V} (hc : k.2.1.cls = "HelmHandModel") (d : decode k.1 pc = .ok (.invokevirtual 232, 3)) (hb : fr + 1 ≤ b.1 ∧ 23 + lo ≤ b.2.1) (hs : ev_cats st ≤ 8) (hC : ev_CF G K_X10_store (fr, lo, 0, 0) [vr 10 i, a0, a1] m none m') (kk : ev_E G k b u (pc + 3) L st (ev_emb m') Q) : ev_E G k b u pc L (a1 :: a0 :: vr 10 i :: st) (ev_emb m) Q := ev_cV0 (As := [a0, a1]) (ci := 10) (hc ▸ wl_X10_232) mi_X10_store rfl rfl rfl d hb hs rfl hC kk
theorem wl_X10_261 : Cond.methodLink "HelmHandModel" 261 yX10_signOf ∈ ev_GW := tm_7 (List.mem_of_getElem? (i := 1) rfl) rfl
theorem cl1_X10_261 {G : ev_G} {k : ev_K} {b : ev_B} {u : Nat × Nat} {pc : Nat} {L : List (Option ev_V)} {st : List ev_V} {m : ev_m} {Q : Option ev_V → ev_M → Prop} {fr lo : Nat} {m' : ev_m} {a0 : ev_V} {v : ev_V} (hc : k.2.1.cls = "HelmHandModel") (d : decode k.1 pc = .ok (.invokestatic 261, 3)) (hb : fr + 1 ≤ b.1 ∧ 20 + lo ≤ b.2.1) (hs : ev_cats st ≤ 8) (hC : ev_CF G K_X10_signOf (fr, lo, 0, 0) [a0] m (some v) m') (kk : ev_E G k b u (pc + 3) L (v :: st) (ev_emb m') Q) : ev_E G k b u pc L (a0 :: st) (ev_emb m) Q := ev_cS (As := [a0]) (hc ▸ wl_X10_261) mi_X10_signOf rfl d hb hs rfl hC kk
theorem wl_X10_276 : Cond.methodLink "HelmHandModel" 276 yX10_of ∈ ev_GW := tm_7 (List.mem_of_getElem? (i := 20) rfl) rfl
theorem cl1_X10_276 {G : ev_G} {k : ev_K} {b : ev_B} {u : Nat × Nat} {pc : Nat} {L : List (Option ev_V)} {st : List ev_V} {m : ev_m} {Q : Option ev_V → ev_M → Prop} {i fr lo : Nat} {m' : ev_m} {a0 a1 : ev_V} {v : ev_V} (hc : k.2.1.cls = "HelmHandModel") (d : decode k.1 pc = .ok (.invokevirtual 276, 3)) (hb : fr + 1 ≤ b.1 ∧ 22 + lo ≤ b.2.1) (hs : ev_cats st ≤ 8) (hC : ev_CF G K_X10_of (fr, lo, 0, 0) [vr 10 i, a0, a1] m (some v) m') (kk : ev_E G k b u (pc + 3) L (v :: st) (ev_emb m') Q) : ev_E G k b u pc L (a1 :: a0 :: vr 10 i :: st) (ev_emb m) Q := ev_cV1 (As := [a0, a1]) (ci := 10) (hc ▸ wl_X10_276) mi_X10_of rfl rfl rfl d hb hs rfl hC kk
theorem wl_X10_280 : Cond.methodLink "HelmHandModel" 280 yX10_isStar ∈ ev_GW := tm_7 (List.mem_of_getElem? (i := 24) rfl) rfl
theorem cl1_X10_280 {G : ev_G} {k : ev_K} {b : ev_B} {u : Nat × Nat} {pc : Nat} {L : List (Option ev_V)} {st : List ev_V} {m : ev_m} {Q : Option ev_V → ev_M → Prop} {i fr lo : Nat} {m' : ev_m} {a0 a1 : ev_V} {v : ev_V} (hc : k.2.1.cls = "HelmHandModel") (d : decode k.1 pc = .ok (.invokevirtual 280, 3)) (hb : fr + 1 ≤ b.1 ∧ 23 + lo ≤ b.2.1) (hs : ev_cats st ≤ 8) (hC : ev_CF G K_X10_isStar (fr, lo, 0, 0) [vr 10 i, a0, a1] m (some v) m') (kk : ev_E G k b u (pc + 3) L (v :: st) (ev_emb m') Q) : ev_E G k b u pc L (a1 :: a0 :: vr 10 i :: st) (ev_emb m) Q := ev_cV1 (As := [a0, a1]) (ci := 10) (hc ▸ wl_X10_280) mi_X10_isStar rfl rfl rfl d hb hs rfl hC kk
theorem wl_X10_283 : Cond.methodLink "HelmHandModel" 283 yX10_sees ∈ ev_GW := tm_7 (List.mem_of_getElem? (i := 16) rfl) rfl
theorem cl1_X10_283 {G : ev_G} {k : ev_K} {b : ev_B} {u : Nat × Nat} {pc : Nat} {L : List (Option ev_V)} {st : List ev_V} {m : ev_m} {Q : Option ev_V → ev_M → Prop} {i fr lo : Nat} {m' : ev_m} {a0 a1 : ev_V} {v : ev_V} (hc : k.2.1.cls = "HelmHandModel") (d : decode k.1 pc = .ok (.invokevirtual 283, 3)) (hb : fr + 1 ≤ b.1 ∧ 25 + lo ≤ b.2.1) (hs : ev_cats st ≤ 8) (hC : ev_CF G K_X10_sees (fr, lo, 0, 0) [vr 10 i, a0, a1] m (some v) m') (kk : ev_E G k b u (pc + 3) L (v :: st) (ev_emb m') Q) : ev_E G k b u pc L (a1 :: a0 :: vr 10 i :: st) (ev_emb m) Q := ev_cV1 (As := [a0, a1]) (ci := 10) (hc ▸ wl_X10_283) mi_X10_sees rfl rfl rfl d hb hs rfl hC kk
theorem wl_X10_286 : Cond.methodLink "HelmHandModel" 286 yX10_within ∈ ev_GW := tm_7 (List.mem_of_getElem? (i := 28) rfl) rfl
theorem cl1_X10_286 {G : ev_G} {k : ev_K} {b : ev_B} {u : Nat × Nat} {pc : Nat} {L : List (Option ev_V)} {st : List ev_V} {m : ev_m} {Q : Option ev_V → ev_M → Prop} {fr lo : Nat} {m' : ev_m} {a0 a1 : ev_V} {v : ev_V} (hc : k.2.1.cls = "HelmHandModel") (d : decode k.1 pc = .ok (.invokestatic 286, 3)) (hb : fr + 1 ≤ b.1 ∧ 21 + lo ≤ b.2.1) (hs : ev_cats st ≤ 8) (hC : ev_CF G K_X10_within (fr, lo, 0, 0) [a0, a1] m (some v) m') (kk : ev_E G k b u (pc + 3) L (v :: st) (ev_emb m') Q) : ev_E G k b u pc L (a1 :: a0 :: st) (ev_emb m) Q := ev_cS (As := [a0, a1]) (hc ▸ wl_X10_286) mi_X10_within rfl d hb hs rfl hC kk
theorem wl_X10_289 : Cond.methodLink "HelmHandModel" 289 yX10_plain ∈ ev_GW := tm_7 (List.mem_of_getElem? (i := 31) rfl) rfl
theorem cl1_X10_289 {G : ev_G} {k : ev_K} {b : ev_B} {u : Nat × Nat} {pc : Nat} {L : List (Option ev_V)} {st : List ev_V} {m : ev_m} {Q : Option ev_V → ev_M → Prop} {fr lo : Nat} {m' : ev_m} {a0 : ev_V} {v : ev_V} (hc : k.2.1.cls = "HelmHandModel") (d : decode k.1 pc = .ok (.invokestatic 289, 3)) (hb : fr + 1 ≤ b.1 ∧ 20 + lo ≤ b.2.1) (hs : ev_cats st ≤ 8) (hC : ev_CF G K_X10_plain (fr, lo, 0, 0) [a0] m (some v) m') (kk : ev_E G k b u (pc + 3) L (v :: st) (ev_emb m') Q) : ev_E G k b u pc L (a0 :: st) (ev_emb m) Q := ev_cS (As := [a0]) (hc ▸ wl_X10_289) mi_X10_plain rfl d hb hs rfl hC kk
theorem wl_X10_292 : Cond.methodLink "HelmHandModel" 292 yX10_draw ∈ ev_GW := tm_7 (List.mem_of_getElem? (i := 34) rfl) rfl
theorem cl1_X10_292 {G : ev_G} {k : ev_K} {b : ev_B} {u : Nat × Nat} {pc : Nat} {L : List (Option ev_V)} {st : List ev_V} {m : ev_m} {Q : Option ev_V → ev_M → Prop} {i fr lo : Nat} {m' : ev_m} {a0 : ev_V} {v : ev_V} (hc : k.2.1.cls = "HelmHandModel") (d : decode k.1 pc = .ok (.invokevirtual 292, 3)) (hb : fr + 1 ≤ b.1 ∧ 21 + lo ≤ b.2.1) (hs : ev_cats st ≤ 8) (hC : ev_CF G K_X10_draw (fr, lo, 0, 0) [vr 10 i, a0] m (some v) m') (kk : ev_E G k b u (pc + 3) L (v :: st) (ev_emb m') Q) : ev_E G k b u pc L (a0 :: vr 10 i :: st) (ev_emb m) Q := ev_cV1 (As := [a0]) (ci := 10) (hc ▸ wl_X10_292) mi_X10_draw rfl rfl rfl d hb hs rfl hC kk
theorem wl_X10_295 : Cond.methodLink "HelmHandModel" 295 yX10_tally ∈ ev_GW := tm_7 (List.mem_of_getElem? (i := 43) rfl) rfl
theorem cl0_X10_295 {G : ev_G} {k : ev_K} {b : ev_B} {u : Nat × Nat} {pc : Nat} {L : List (Option ev_V)} {st : List ev_V} {m : ev_m} {Q : Option ev_V → ev_M → Prop} {i fr lo : Nat} {m' : ev_m} (hc : k.2.1.cls = "HelmHandModel") (d : decode k.1 pc = .ok (.invokevirtual 295, 3)) (hb : fr + 1 ≤ b.1 ∧ 23 + lo ≤ b.2.1) (hs : ev_cats st ≤ 8) (hC : ev_CF G K_X10_tally (fr, lo, 0, 0) [vr 10 i] m none m') (kk : ev_E G k b u (pc + 3) L st (ev_emb m') Q) : ev_E G k b u pc L (vr 10 i :: st) (ev_emb m) Q := ev_cV0 (As := []) (ci := 10) (hc ▸ wl_X10_295) mi_X10_tally rfl rfl rfl d hb hs rfl hC kk
theorem wl_X10_300 : Cond.methodLink "HelmHandModel" 300 yX10_takes ∈ ev_GW := tm_7 (List.mem_of_getElem? (i := 8) rfl) rfl
theorem cl0_X10_300 {G : ev_G} {k : ev_K} {b : ev_B} {u : Nat × Nat} {pc : Nat} {L : List (Option ev_V)} {st : List ev_V} {m : ev_m} {Q : Option ev_V → ev_M → Prop} {i fr lo : Nat} {m' : ev_m} {a0 : ev_V} (hc : k.2.1.cls = "HelmHandModel") (d : decode k.1 pc = .ok (.invokevirtual 300, 3)) (hb : fr + 1 ≤ b.1 ∧ 21 + lo ≤ b.2.1) (hs : ev_cats st ≤ 8) (hC : ev_CF G K_X10_takes (fr, lo, 0, 0) [vr 10 i, a0] m none m') (kk : ev_E G k b u (pc + 3) L st (ev_emb m') Q) : ev_E G k b u pc L (a0 :: vr 10 i :: st) (ev_emb m) Q := ev_cV0 (As := [a0]) (ci := 10) (hc ▸ wl_X10_300) mi_X10_takes rfl rfl rfl d hb hs rfl hC kk
theorem wl_X10_303 : Cond.methodLink "HelmHandModel" 303 yX10_wants ∈ ev_GW := tm_7 (List.mem_of_getElem? (i := 12) rfl) rfl
theorem cl1_X10_303 {G : ev_G} {k : ev_K} {b : ev_B} {u : Nat × Nat} {pc : Nat} {L : List (Option ev_V)} {st : List ev_V} {m : ev_m} {Q : Option ev_V → ev_M → Prop} {i fr lo : Nat} {m' : ev_m} {a0 : ev_V} {v : ev_V} (hc : k.2.1.cls = "HelmHandModel") (d : decode k.1 pc = .ok (.invokevirtual 303, 3)) (hb : fr + 1 ≤ b.1 ∧ 25 + lo ≤ b.2.1) (hs : ev_cats st ≤ 8) (hC : ev_CF G K_X10_wants (fr, lo, 0, 0) [vr 10 i, a0] m (some v) m') (kk : ev_E G k b u (pc + 3) L (v :: st) (ev_emb m') Q) : ev_E G k b u pc L (a0 :: vr 10 i :: st) (ev_emb m) Q := ev_cV1 (As := [a0]) (ci := 10) (hc ▸ wl_X10_303) mi_X10_wants rfl rfl rfl d hb hs rfl hC kk
theorem wl_X10_306 : Cond.methodLink "HelmHandModel" 306 yX10_pass ∈ ev_GW := tm_7 (List.mem_of_getElem? (i := 39) rfl) rfl
theorem cl0_X10_306 {G : ev_G} {k : ev_K} {b : ev_B} {u : Nat × Nat} {pc : Nat} {L : List (Option ev_V)} {st : List ev_V} {m : ev_m} {Q : Option ev_V → ev_M → Prop} {i fr lo : Nat} {m' : ev_m} {a0 a1 : ev_V} (hc : k.2.1.cls = "HelmHandModel") (d : decode k.1 pc = .ok (.invokevirtual 306, 3)) (hb : fr + 1 ≤ b.1 ∧ 27 + lo ≤ b.2.1) (hs : ev_cats st ≤ 8) (hC : ev_CF G K_X10_pass (fr, lo, 0, 0) [vr 10 i, a0, a1] m none m') (kk : ev_E G k b u (pc + 3) L st (ev_emb m') Q) : ev_E G k b u pc L (a1 :: a0 :: vr 10 i :: st) (ev_emb m) Q := ev_cV0 (As := [a0, a1]) (ci := 10) (hc ▸ wl_X10_306) mi_X10_pass rfl rfl rfl d hb hs rfl hC kk
theorem wl_X10_309 : Cond.methodLink "HelmHandModel" 309 yX10_begin ∈ ev_GW := tm_6 (List.mem_of_getElem? (i := 237) rfl) rfl
theorem cl0_X10_309 {G : ev_G} {k : ev_K} {b : ev_B} {u : Nat × Nat} {pc : Nat} {L : List (Option ev_V)} {st : List ev_V} {m : ev_m} {Q : Option ev_V → ev_M → Prop} {i fr lo : Nat} {m' : ev_m} {a0 : ev_V} (hc : k.2.1.cls = "HelmHandModel") (d : decode k.1 pc = .ok (.invokevirtual 309, 3)) (hb : fr + 1 ≤ b.1 ∧ 21 + lo ≤ b.2.1) (hs : ev_cats st ≤ 8) (hC : ev_CF G K_X10_begin (fr, lo, 0, 0) [vr 10 i, a0] m none m') (kk : ev_E G k b u (pc + 3) L st (ev_emb m') Q) : ev_E G k b u pc L (a0 :: vr 10 i :: st) (ev_emb m) Q := ev_cV0 (As := [a0]) (ci := 10) (hc ▸ wl_X10_309) mi_X10_begin rfl rfl rfl d hb hs rfl hC kk
theorem wl_X10_312 : Cond.methodLink "HelmHandModel" 312 yX10_steer ∈ ev_GW := tm_7 (List.mem_of_getElem? (i := 4) rfl) rfl
theorem cl0_X10_312 {G : ev_G} {k : ev_K} {b : ev_B} {u : Nat × Nat} {pc : Nat} {L : List (Option ev_V)} {st : List ev_V} {m : ev_m} {Q : Option ev_V → ev_M → Prop} {i fr lo : Nat} {m' : ev_m} {a0 a1 : ev_V} (hc : k.2.1.cls = "HelmHandModel") (d : decode k.1 pc = .ok (.invokevirtual 312, 3)) (hb : fr + 1 ≤ b.1 ∧ 24 + lo ≤ b.2.1) (hs : ev_cats st ≤ 8) (hC : ev_CF G K_X10_steer (fr, lo, 0, 0) [vr 10 i, a0, a1] m none m') (kk : ev_E G k b u (pc + 3) L st (ev_emb m') Q) : ev_E G k b u pc L (a1 :: a0 :: vr 10 i :: st) (ev_emb m) Q := ev_cV0 (As := [a0, a1]) (ci := 10) (hc ▸ wl_X10_312) mi_X10_steer rfl rfl rfl d hb hs rfl hC kk
theorem wl_X10_315 : Cond.methodLink "HelmHandModel" 315 yX10_runBy ∈ ev_GW := tm_6 (List.mem_of_getElem? (i := 233) rfl) rfl
theorem cl0_X10_315 {G : ev_G} {k : ev_K} {b : ev_B} {u : Nat × Nat} {pc : Nat} {L : List (Option ev_V)} {st : List ev_V} {m : ev_m} {Q : Option ev_V → ev_M → Prop} {i fr lo : Nat} {m' : ev_m} {a0 a1 a2 : ev_V} (hc : k.2.1.cls = "HelmHandModel") (d : decode k.1 pc = .ok (.invokevirtual 315, 3)) (hb : fr + 1 ≤ b.1 ∧ 24 + lo ≤ b.2.1) (hs : ev_cats st ≤ 8) (hC : ev_CF G K_X10_runBy (fr, lo, 0, 0) [vr 10 i, a0, a1, a2] m none m') (kk : ev_E G k b u (pc + 3) L st (ev_emb m') Q) : ev_E G k b u pc L (a2 :: a1 :: a0 :: vr 10 i :: st) (ev_emb m) Q := ev_cV0 (As := [a0, a1, a2]) (ci := 10) (hc ▸ wl_X10_315) mi_X10_runBy rfl rfl rfl d hb hs rfl hC kk
theorem wl_X10_319 : Cond.methodLink "HelmHandModel" 319 yX10_cost ∈ ev_GW := tm_7 (List.mem_of_getElem? (i := 53) rfl) rfl
theorem cl1_X10_319 {G : ev_G} {k : ev_K} {b : ev_B} {u : Nat × Nat} {pc : Nat} {L : List (Option ev_V)} {st : List ev_V} {m : ev_m} {Q : Option ev_V → ev_M → Prop} {i fr lo : Nat} {m' : ev_m} {v : ev_V} (hc : k.2.1.cls = "HelmHandModel") (d : decode k.1 pc = .ok (.invokevirtual 319, 3)) (hb : fr + 1 ≤ b.1 ∧ 20 + lo ≤ b.2.1) (hs : ev_cats st ≤ 8) (hC : ev_CF G K_X10_cost (fr, lo, 0, 0) [vr 10 i] m (some v) m') (kk : ev_E G k b u (pc + 3) L (v :: st) (ev_emb m') Q) : ev_E G k b u pc L (vr 10 i :: st) (ev_emb m) Q := ev_cV1 (As := []) (ci := 10) (hc ▸ wl_X10_319) mi_X10_cost rfl rfl rfl d hb hs rfl hC kk
theorem wl_X10_323 : Cond.methodLink "HelmHandModel" 323 yX10_layShip ∈ ev_GW := tm_6 (List.mem_of_getElem? (i := 225) rfl) rfl
theorem cl0_X10_323 {G : ev_G} {k : ev_K} {b : ev_B} {u : Nat × Nat} {pc : Nat} {L : List (Option ev_V)} {st : List ev_V} {m : ev_m} {Q : Option ev_V → ev_M → Prop} {i fr lo : Nat} {m' : ev_m} {a0 : ev_V} (hc : k.2.1.cls = "HelmHandModel") (d : decode k.1 pc = .ok (.invokevirtual 323, 3)) (hb : fr + 1 ≤ b.1 ∧ 22 + lo ≤ b.2.1) (hs : ev_cats st ≤ 8) (hC : ev_CF G K_X10_layShip (fr, lo, 0, 0) [vr 10 i, a0] m none m') (kk : ev_E G k b u (pc + 3) L st (ev_emb m') Q) : ev_E G k b u pc L (a0 :: vr 10 i :: st) (ev_emb m) Q := ev_cV0 (As := [a0]) (ci := 10) (hc ▸ wl_X10_323) mi_X10_layShip rfl rfl rfl d hb hs rfl hC kk
theorem wl_X10_326 : Cond.methodLink "HelmHandModel" 326 yX10_layHand ∈ ev_GW := tm_6 (List.mem_of_getElem? (i := 229) rfl) rfl
theorem cl0_X10_326 {G : ev_G} {k : ev_K} {b : ev_B} {u : Nat × Nat} {pc : Nat} {L : List (Option ev_V)} {st : List ev_V} {m : ev_m} {Q : Option ev_V → ev_M → Prop} {i fr lo : Nat} {m' : ev_m} {a0 a1 : ev_V} (hc : k.2.1.cls = "HelmHandModel") (d : decode k.1 pc = .ok (.invokevirtual 326, 3)) (hb : fr + 1 ≤ b.1 ∧ 23 + lo ≤ b.2.1) (hs : ev_cats st ≤ 8) (hC : ev_CF G K_X10_layHand (fr, lo, 0, 0) [vr 10 i, a0, a1] m none m') (kk : ev_E G k b u (pc + 3) L st (ev_emb m') Q) : ev_E G k b u pc L (a1 :: a0 :: vr 10 i :: st) (ev_emb m) Q := ev_cV0 (As := [a0, a1]) (ci := 10) (hc ▸ wl_X10_326) mi_X10_layHand rfl rfl rfl d hb hs rfl hC kk
theorem wl_X10_329 : Cond.methodLink "HelmHandModel" 329 yX10_lay ∈ ev_GW := tm_6 (List.mem_of_getElem? (i := 221) rfl) rfl
theorem cl1_X10_329 {G : ev_G} {k : ev_K} {b : ev_B} {u : Nat × Nat} {pc : Nat} {L : List (Option ev_V)} {st : List ev_V} {m : ev_m} {Q : Option ev_V → ev_M → Prop} {i fr lo : Nat} {m' : ev_m} {a0 a1 a2 : ev_V} {v : ev_V} (hc : k.2.1.cls = "HelmHandModel") (d : decode k.1 pc = .ok (.invokevirtual 329, 3)) (hb : fr + 1 ≤ b.1 ∧ 23 + lo ≤ b.2.1) (hs : ev_cats st ≤ 8) (hC : ev_CF G K_X10_lay (fr, lo, 0, 0) [vr 10 i, a0, a1, a2] m (some v) m') (kk : ev_E G k b u (pc + 3) L (v :: st) (ev_emb m') Q) : ev_E G k b u pc L (a2 :: a1 :: a0 :: vr 10 i :: st) (ev_emb m) Q := ev_cV1 (As := [a0, a1, a2]) (ci := 10) (hc ▸ wl_X10_329) mi_X10_lay rfl rfl rfl d hb hs rfl hC kk
theorem wl_X10_335 : Cond.methodLink "HelmHandModel" 335 yX10_grows ∈ ev_GW := tm_7 (List.mem_of_getElem? (i := 57) rfl) rfl
theorem cl1_X10_335 {G : ev_G} {k : ev_K} {b : ev_B} {u : Nat × Nat} {pc : Nat} {L : List (Option ev_V)} {st : List ev_V} {m : ev_m} {Q : Option ev_V → ev_M → Prop} {i fr lo : Nat} {m' : ev_m} {v : ev_V} (hc : k.2.1.cls = "HelmHandModel") (d : decode k.1 pc = .ok (.invokevirtual 335, 3)) (hb : fr + 1 ≤ b.1 ∧ 20 + lo ≤ b.2.1) (hs : ev_cats st ≤ 8) (hC : ev_CF G K_X10_grows (fr, lo, 0, 0) [vr 10 i] m (some v) m') (kk : ev_E G k b u (pc + 3) L (v :: st) (ev_emb m') Q) : ev_E G k b u pc L (vr 10 i :: st) (ev_emb m) Q := ev_cV1 (As := []) (ci := 10) (hc ▸ wl_X10_335) mi_X10_grows rfl rfl rfl d hb hs rfl hC kk
theorem wl_X10_338 : Cond.methodLink "HelmHandModel" 338 yX10_layFor ∈ ev_GW := tm_7 (List.mem_of_getElem? (i := 69) rfl) rfl
theorem cl1_X10_338 {G : ev_G} {k : ev_K} {b : ev_B} {u : Nat × Nat} {pc : Nat} {L : List (Option ev_V)} {st : List ev_V} {m : ev_m} {Q : Option ev_V → ev_M → Prop} {i fr lo : Nat} {m' : ev_m} {a0 a1 a2 : ev_V} {v : ev_V} (hc : k.2.1.cls = "HelmHandModel") (d : decode k.1 pc = .ok (.invokevirtual 338, 3)) (hb : fr + 1 ≤ b.1 ∧ 23 + lo ≤ b.2.1) (hs : ev_cats st ≤ 8) (hC : ev_CF G K_X10_layFor (fr, lo, 0, 0) [vr 10 i, a0, a1, a2] m (some v) m') (kk : ev_E G k b u (pc + 3) L (v :: st) (ev_emb m') Q) : ev_E G k b u pc L (a2 :: a1 :: a0 :: vr 10 i :: st) (ev_emb m) Q := ev_cV1 (As := [a0, a1, a2]) (ci := 10) (hc ▸ wl_X10_338) mi_X10_layFor rfl rfl rfl d hb hs rfl hC kk
theorem wl_X10_343 : Cond.methodLink "HelmHandModel" 343 yX10_put ∈ ev_GW := tm_7 (List.mem_of_getElem? (i := 74) rfl) rfl
theorem cl0_X10_343 {G : ev_G} {k : ev_K} {b : ev_B} {u : Nat × Nat} {pc : Nat} {L : List (Option ev_V)} {st : List ev_V} {m : ev_m} {Q : Option ev_V → ev_M → Prop} {i fr lo : Nat} {m' : ev_m} {a0 a1 : ev_V} (hc : k.2.1.cls = "HelmHandModel") (d : decode k.1 pc = .ok (.invokevirtual 343, 3)) (hb : fr + 1 ≤ b.1 ∧ 22 + lo ≤ b.2.1) (hs : ev_cats st ≤ 8) (hC : ev_CF G K_X10_put (fr, lo, 0, 0) [vr 10 i, a0, a1] m none m') (kk : ev_E G k b u (pc + 3) L st (ev_emb m') Q) : ev_E G k b u pc L (a1 :: a0 :: vr 10 i :: st) (ev_emb m) Q := ev_cV0 (As := [a0, a1]) (ci := 10) (hc ▸ wl_X10_343) mi_X10_put rfl rfl rfl d hb hs rfl hC kk
theorem wl_X10_346 : Cond.methodLink "HelmHandModel" 346 yX10_costBy ∈ ev_GW := tm_7 (List.mem_of_getElem? (i := 78) rfl) rfl
theorem cl1_X10_346 {G : ev_G} {k : ev_K} {b : ev_B} {u : Nat × Nat} {pc : Nat} {L : List (Option ev_V)} {st : List ev_V} {m : ev_m} {Q : Option ev_V → ev_M → Prop} {i fr lo : Nat} {m' : ev_m} {a0 : ev_V} {v : ev_V} (hc : k.2.1.cls = "HelmHandModel") (d : decode k.1 pc = .ok (.invokevirtual 346, 3)) (hb : fr + 1 ≤ b.1 ∧ 21 + lo ≤ b.2.1) (hs : ev_cats st ≤ 8) (hC : ev_CF G K_X10_costBy (fr, lo, 0, 0) [vr 10 i, a0] m (some v) m') (kk : ev_E G k b u (pc + 3) L (v :: st) (ev_emb m') Q) : ev_E G k b u pc L (a0 :: vr 10 i :: st) (ev_emb m) Q := ev_cV1 (As := [a0]) (ci := 10) (hc ▸ wl_X10_346) mi_X10_costBy rfl rfl rfl d hb hs rfl hC kk
theorem wl_X10_350 : Cond.methodLink "HelmHandModel" 350 yX10_costWith ∈ ev_GW := tm_7 (List.mem_of_getElem? (i := 106) rfl) rfl
theorem cl1_X10_350 {G : ev_G} {k : ev_K} {b : ev_B} {u : Nat × Nat} {pc : Nat} {L : List (Option ev_V)} {st : List ev_V} {m : ev_m} {Q : Option ev_V → ev_M → Prop} {i fr lo : Nat} {m' : ev_m} {a0 a1 a2 : ev_V} {v : ev_V} (hc : k.2.1.cls = "HelmHandModel") (d : decode k.1 pc = .ok (.invokevirtual 350, 3)) (hb : fr + 1 ≤ b.1 ∧ 26 + lo ≤ b.2.1) (hs : ev_cats st ≤ 8) (hC : ev_CF G K_X10_costWith (fr, lo, 0, 0) [vr 10 i, a0, a1, a2] m (some v) m') (kk : ev_E G k b u (pc + 3) L (v :: st) (ev_emb m') Q) : ev_E G k b u pc L (a2 :: a1 :: a0 :: vr 10 i :: st) (ev_emb m) Q := ev_cV1 (As := [a0, a1, a2]) (ci := 10) (hc ▸ wl_X10_350) mi_X10_costWith rfl rfl rfl d hb hs rfl hC kk
theorem wl_X10_354 : Cond.methodLink "HelmHandModel" 354 yX10_third ∈ ev_GW := tm_7 (List.mem_of_getElem? (i := 130) rfl) rfl
theorem cl1_X10_354 {G : ev_G} {k : ev_K} {b : ev_B} {u : Nat × Nat} {pc : Nat} {L : List (Option ev_V)} {st : List ev_V} {m : ev_m} {Q : Option ev_V → ev_M → Prop} {i fr lo : Nat} {m' : ev_m} {a0 a1 a2 : ev_V} {v : ev_V} (hc : k.2.1.cls = "HelmHandModel") (d : decode k.1 pc = .ok (.invokevirtual 354, 3)) (hb : fr + 1 ≤ b.1 ∧ 29 + lo ≤ b.2.1) (hs : ev_cats st ≤ 8) (hC : ev_CF G K_X10_third (fr, lo, 0, 0) [vr 10 i, a0, a1, a2] m (some v) m') (kk : ev_E G k b u (pc + 3) L (v :: st) (ev_emb m') Q) : ev_E G k b u pc L (a2 :: a1 :: a0 :: vr 10 i :: st) (ev_emb m) Q := ev_cV1 (As := [a0, a1, a2]) (ci := 10) (hc ▸ wl_X10_354) mi_X10_third rfl rfl rfl d hb hs rfl hC kk
theorem wl_X10_360 : Cond.methodLink "HelmHandModel" 360 yX10_has ∈ ev_GW := tm_7 (List.mem_of_getElem? (i := 151) rfl) rfl
theorem cl1_X10_360 {G : ev_G} {k : ev_K} {b : ev_B} {u : Nat × Nat} {pc : Nat} {L : List (Option ev_V)} {st : List ev_V} {m : ev_m} {Q : Option ev_V → ev_M → Prop} {fr lo : Nat} {m' : ev_m} {a0 a1 : ev_V} {v : ev_V} (hc : k.2.1.cls = "HelmHandModel") (d : decode k.1 pc = .ok (.invokestatic 360, 3)) (hb : fr + 1 ≤ b.1 ∧ 21 + lo ≤ b.2.1) (hs : ev_cats st ≤ 8) (hC : ev_CF G K_X10_has (fr, lo, 0, 0) [a0, a1] m (some v) m') (kk : ev_E G k b u (pc + 3) L (v :: st) (ev_emb m') Q) : ev_E G k b u pc L (a1 :: a0 :: st) (ev_emb m) Q := ev_cS (As := [a0, a1]) (hc ▸ wl_X10_360) mi_X10_has rfl d hb hs rfl hC kk
theorem wl_X10_363 : Cond.methodLink "HelmHandModel" 363 yX10_isOrder ∈ ev_GW := tm_7 (List.mem_of_getElem? (i := 154) rfl) rfl
theorem cl1_X10_363 {G : ev_G} {k : ev_K} {b : ev_B} {u : Nat × Nat} {pc : Nat} {L : List (Option ev_V)} {st : List ev_V} {m : ev_m} {Q : Option ev_V → ev_M → Prop} {i fr lo : Nat} {m' : ev_m} {a0 a1 a2 : ev_V} {v : ev_V} (hc : k.2.1.cls = "HelmHandModel") (d : decode k.1 pc = .ok (.invokevirtual 363, 3)) (hb : fr + 1 ≤ b.1 ∧ 27 + lo ≤ b.2.1) (hs : ev_cats st ≤ 8) (hC : ev_CF G K_X10_isOrder (fr, lo, 0, 0) [vr 10 i, a0, a1, a2] m (some v) m') (kk : ev_E G k b u (pc + 3) L (v :: st) (ev_emb m') Q) : ev_E G k b u pc L (a2 :: a1 :: a0 :: vr 10 i :: st) (ev_emb m) Q := ev_cV1 (As := [a0, a1, a2]) (ci := 10) (hc ▸ wl_X10_363) mi_X10_isOrder rfl rfl rfl d hb hs rfl hC kk
theorem wl_X10_366 : Cond.methodLink "HelmHandModel" 366 yX10_apartFrom ∈ ev_GW := tm_7 (List.mem_of_getElem? (i := 166) rfl) rfl
theorem cl1_X10_366 {G : ev_G} {k : ev_K} {b : ev_B} {u : Nat × Nat} {pc : Nat} {L : List (Option ev_V)} {st : List ev_V} {m : ev_m} {Q : Option ev_V → ev_M → Prop} {i fr lo : Nat} {m' : ev_m} {a0 : ev_V} {v : ev_V} (hc : k.2.1.cls = "HelmHandModel") (d : decode k.1 pc = .ok (.invokevirtual 366, 3)) (hb : fr + 1 ≤ b.1 ∧ 25 + lo ≤ b.2.1) (hs : ev_cats st ≤ 8) (hC : ev_CF G K_X10_apartFrom (fr, lo, 0, 0) [vr 10 i, a0] m (some v) m') (kk : ev_E G k b u (pc + 3) L (v :: st) (ev_emb m') Q) : ev_E G k b u pc L (a0 :: vr 10 i :: st) (ev_emb m) Q := ev_cV1 (As := [a0]) (ci := 10) (hc ▸ wl_X10_366) mi_X10_apartFrom rfl rfl rfl d hb hs rfl hC kk
theorem wl_X10_369 : Cond.methodLink "HelmHandModel" 369 yX10_costOf ∈ ev_GW := tm_7 (List.mem_of_getElem? (i := 194) rfl) rfl
theorem cl1_X10_369 {G : ev_G} {k : ev_K} {b : ev_B} {u : Nat × Nat} {pc : Nat} {L : List (Option ev_V)} {st : List ev_V} {m : ev_m} {Q : Option ev_V → ev_M → Prop} {i fr lo : Nat} {m' : ev_m} {a0 : ev_V} {v : ev_V} (hc : k.2.1.cls = "HelmHandModel") (d : decode k.1 pc = .ok (.invokevirtual 369, 3)) (hb : fr + 1 ≤ b.1 ∧ 21 + lo ≤ b.2.1) (hs : ev_cats st ≤ 8) (hC : ev_CF G K_X10_costOf (fr, lo, 0, 0) [vr 10 i, a0] m (some v) m') (kk : ev_E G k b u (pc + 3) L (v :: st) (ev_emb m') Q) : ev_E G k b u pc L (a0 :: vr 10 i :: st) (ev_emb m) Q := ev_cV1 (As := [a0]) (ci := 10) (hc ▸ wl_X10_369) mi_X10_costOf rfl rfl rfl d hb hs rfl hC kk
theorem wl_X10_374 : Cond.methodLink "HelmHandModel" 374 yX10_copyAll ∈ ev_GW := tm_7 (List.mem_of_getElem? (i := 219) rfl) rfl
theorem cl0_X10_374 {G : ev_G} {k : ev_K} {b : ev_B} {u : Nat × Nat} {pc : Nat} {L : List (Option ev_V)} {st : List ev_V} {m : ev_m} {Q : Option ev_V → ev_M → Prop} {i fr lo : Nat} {m' : ev_m} {a0 a1 : ev_V} (hc : k.2.1.cls = "HelmHandModel") (d : decode k.1 pc = .ok (.invokevirtual 374, 3)) (hb : fr + 1 ≤ b.1 ∧ 23 + lo ≤ b.2.1) (hs : ev_cats st ≤ 8) (hC : ev_CF G K_X10_copyAll (fr, lo, 0, 0) [vr 10 i, a0, a1] m none m') (kk : ev_E G k b u (pc + 3) L st (ev_emb m') Q) : ev_E G k b u pc L (a1 :: a0 :: vr 10 i :: st) (ev_emb m) Q := ev_cV0 (As := [a0, a1]) (ci := 10) (hc ▸ wl_X10_374) mi_X10_copyAll rfl rfl rfl d hb hs rfl hC kk
theorem wl_X10_85 : Cond.methodLink "HelmHandModel" 85 yX10_copyRow ∈ ev_GW := tm_7 (List.mem_of_getElem? (i := 223) rfl) rfl
theorem cl0_X10_85 {G : ev_G} {k : ev_K} {b : ev_B} {u : Nat × Nat} {pc : Nat} {L : List (Option ev_V)} {st : List ev_V} {m : ev_m} {Q : Option ev_V → ev_M → Prop} {fr lo : Nat} {m' : ev_m} {a0 a1 a2 a3 : ev_V} (hc : k.2.1.cls = "HelmHandModel") (d : decode k.1 pc = .ok (.invokestatic 85, 3)) (hb : fr + 1 ≤ b.1 ∧ 24 + lo ≤ b.2.1) (hs : ev_cats st ≤ 8) (hC : ev_CF G K_X10_copyRow (fr, lo, 0, 0) [a0, a1, a2, a3] m none m') (kk : ev_E G k b u (pc + 3) L st (ev_emb m') Q) : ev_E G k b u pc L (a3 :: a2 :: a1 :: a0 :: st) (ev_emb m) Q := ev_cS (As := [a0, a1, a2, a3]) (hc ▸ wl_X10_85) mi_X10_copyRow rfl d hb hs rfl hC kk
theorem wl_X10_89 : Cond.methodLink "HelmHandModel" 89 yX10_in ∈ ev_GW := tm_6 (List.mem_of_getElem? (i := 96) rfl) rfl
theorem cl1_X10_89 {G : ev_G} {k : ev_K} {b : ev_B} {u : Nat × Nat} {pc : Nat} {L : List (Option ev_V)} {st : List ev_V} {m : ev_m} {Q : Option ev_V → ev_M → Prop} {fr lo : Nat} {m' : ev_m} {a0 a1 a2 : ev_V} {v : ev_V} (hc : k.2.1.cls = "HelmHandModel") (d : decode k.1 pc = .ok (.invokestatic 89, 3)) (hb : fr + 1 ≤ b.1 ∧ 22 + lo ≤ b.2.1) (hs : ev_cats st ≤ 8) (hC : ev_CF G K_X10_in (fr, lo, 0, 0) [a0, a1, a2] m (some v) m') (kk : ev_E G k b u (pc + 3) L (v :: st) (ev_emb m') Q) : ev_E G k b u pc L (a2 :: a1 :: a0 :: st) (ev_emb m) Q := ev_cS (As := [a0, a1, a2]) (hc ▸ wl_X10_89) mi_X10_in rfl d hb hs rfl hC kk
theorem wl_X10_93 : Cond.methodLink "HelmHandModel" 93 yX10_four ∈ ev_GW := tm_6 (List.mem_of_getElem? (i := 88) rfl) rfl
theorem cl0_X10_93 {G : ev_G} {k : ev_K} {b : ev_B} {u : Nat × Nat} {pc : Nat} {L : List (Option ev_V)} {st : List ev_V} {m : ev_m} {Q : Option ev_V → ev_M → Prop} {i fr lo : Nat} {m' : ev_m} {a0 : ev_V} (hc : k.2.1.cls = "HelmHandModel") (d : decode k.1 pc = .ok (.invokevirtual 93, 3)) (hb : fr + 1 ≤ b.1 ∧ 22 + lo ≤ b.2.1) (hs : ev_cats st ≤ 8) (hC : ev_CF G K_X10_four (fr, lo, 0, 0) [vr 10 i, a0] m none m') (kk : ev_E G k b u (pc + 3) L st (ev_emb m') Q) : ev_E G k b u pc L (a0 :: vr 10 i :: st) (ev_emb m) Q := ev_cV0 (As := [a0]) (ci := 10) (hc ▸ wl_X10_93) mi_X10_four rfl rfl rfl d hb hs rfl hC kk
theorem wl_X2_29 : Cond.methodLink "HelmHand$Mate" 29 yX1_hasStarAt ∈ ev_GW := tm_4 (List.mem_of_getElem? (i := 35) rfl) rfl
theorem cl1_X2_29 {G : ev_G} {k : ev_K} {b : ev_B} {u : Nat × Nat} {pc : Nat} {L : List (Option ev_V)} {st : List ev_V} {m : ev_m} {Q : Option ev_V → ev_M → Prop} {i fr lo : Nat} {m' : ev_m} {a0 : ev_V} {v : ev_V} (hc : k.2.1.cls = "HelmHand$Mate") (d : decode k.1 pc = .ok (.invokevirtual 29, 3)) (hb : fr + 1 ≤ b.1 ∧ 22 + lo ≤ b.2.1) (hs : ev_cats st ≤ 8) (hC : ev_CF G K_X1_hasStarAt (fr, lo, 0, 0) [vr 4 i, a0] m (some v) m') (kk : ev_E G k b u (pc + 3) L (v :: st) (ev_emb m') Q) : ev_E G k b u pc L (a0 :: vr 4 i :: st) (ev_emb m) Q := ev_cV1 (As := [a0]) (ci := 1) (hc ▸ wl_X2_29) mi_X1_hasStarAt rfl rfl rfl d hb hs rfl hC kk
theorem wl_X2_40 : Cond.methodLink "HelmHand$Mate" 40 yX1_slowBy ∈ ev_GW := tm_4 (List.mem_of_getElem? (i := 39) rfl) rfl
theorem cl1_X2_40 {G : ev_G} {k : ev_K} {b : ev_B} {u : Nat × Nat} {pc : Nat} {L : List (Option ev_V)} {st : List ev_V} {m : ev_m} {Q : Option ev_V → ev_M → Prop} {i fr lo : Nat} {m' : ev_m} {a0 : ev_V} {v : ev_V} (hc : k.2.1.cls = "HelmHand$Mate") (d : decode k.1 pc = .ok (.invokevirtual 40, 3)) (hb : fr + 1 ≤ b.1 ∧ 21 + lo ≤ b.2.1) (hs : ev_cats st ≤ 8) (hC : ev_CF G K_X1_slowBy (fr, lo, 0, 0) [vr 4 i, a0] m (some v) m') (kk : ev_E G k b u (pc + 3) L (v :: st) (ev_emb m') Q) : ev_E G k b u pc L (a0 :: vr 4 i :: st) (ev_emb m) Q := ev_cV1 (As := [a0]) (ci := 1) (hc ▸ wl_X2_40) mi_X1_slowBy rfl rfl rfl d hb hs rfl hC kk
theorem wl_X2_44 : Cond.methodLink "HelmHand$Mate" 44 yX8_headingAgo ∈ ev_GW := tm_4 (List.mem_of_getElem? (i := 44) rfl) rfl
theorem cl1_X2_44 {G : ev_G} {k : ev_K} {b : ev_B} {u : Nat × Nat} {pc : Nat} {L : List (Option ev_V)} {st : List ev_V} {m : ev_m} {Q : Option ev_V → ev_M → Prop} {i fr lo : Nat} {m' : ev_m} {a0 : ev_V} {v : ev_V} (hc : k.2.1.cls = "HelmHand$Mate") (d : decode k.1 pc = .ok (.invokevirtual 44, 3)) (hb : fr + 1 ≤ b.1 ∧ 21 + lo ≤ b.2.1) (hs : ev_cats st ≤ 8) (hC : ev_CF G K_X8_headingAgo (fr, lo, 0, 0) [vr 8 i, a0] m (some v) m') (kk : ev_E G k b u (pc + 3) L (v :: st) (ev_emb m') Q) : ev_E G k b u pc L (a0 :: vr 8 i :: st) (ev_emb m) Q := ev_cV1 (As := [a0]) (ci := 8) (hc ▸ wl_X2_44) mi_X8_headingAgo rfl rfl rfl d hb hs rfl hC kk
theorem wl_X2_47 : Cond.methodLink "HelmHand$Mate" 47 yX1_pointed ∈ ev_GW := tm_4 (List.mem_of_getElem? (i := 50) rfl) rfl
theorem cl1_X2_47 {G : ev_G} {k : ev_K} {b : ev_B} {u : Nat × Nat} {pc : Nat} {L : List (Option ev_V)} {st : List ev_V} {m : ev_m} {Q : Option ev_V → ev_M → Prop} {i fr lo : Nat} {m' : ev_m} {a0 : ev_V} {v : ev_V} (hc : k.2.1.cls = "HelmHand$Mate") (d : decode k.1 pc = .ok (.invokevirtual 47, 3)) (hb : fr + 1 ≤ b.1 ∧ 21 + lo ≤ b.2.1) (hs : ev_cats st ≤ 8) (hC : ev_CF G K_X1_pointed (fr, lo, 0, 0) [vr 4 i, a0] m (some v) m') (kk : ev_E G k b u (pc + 3) L (v :: st) (ev_emb m') Q) : ev_E G k b u pc L (a0 :: vr 4 i :: st) (ev_emb m) Q := ev_cV1 (As := [a0]) (ci := 1) (hc ▸ wl_X2_47) mi_X1_pointed rfl rfl rfl d hb hs rfl hC kk
theorem cl1_X2_50 {G : ev_G} {k : ev_K} {b : ev_B} {u : Nat × Nat} {pc : Nat} {L : List (Option ev_V)} {st : List ev_V} {m : ev_m} {Q : Option ev_V → ev_M → Prop} {fr lo : Nat} {m' : ev_m} {a0 a1 : ev_V} {v : ev_V} (hc : k.2.1.cls = "HelmHand$Mate") (d : decode k.1 pc = .ok (.invokestatic 50, 3)) (hb : fr + 1 ≤ b.1 ∧ 21 + lo ≤ b.2.1) (hs : ev_cats st ≤ 8) (hC : ev_CF G K_X9_within (fr, lo, 0, 0) [a0, a1] m (some v) m') (kk : ev_E G k b u (pc + 3) L (v :: st) (ev_emb m') Q) : ev_E G k b u pc L (a1 :: a0 :: st) (ev_emb m) Q := ev_cSN (host := "HelmHand") (As := [a0, a1]) (by rw [hc]; exact List.mem_of_getElem? (i := 28) rfl) mi_X9_within rfl d hb hs rfl hC kk
theorem wl_X2_56 : Cond.methodLink "HelmHand$Mate" 56 yX1_ruled ∈ ev_GW := tm_4 (List.mem_of_getElem? (i := 58) rfl) rfl
theorem cl1_X2_56 {G : ev_G} {k : ev_K} {b : ev_B} {u : Nat × Nat} {pc : Nat} {L : List (Option ev_V)} {st : List ev_V} {m : ev_m} {Q : Option ev_V → ev_M → Prop} {i fr lo : Nat} {m' : ev_m} {a0 a1 a2 : ev_V} {v : ev_V} (hc : k.2.1.cls = "HelmHand$Mate") (d : decode k.1 pc = .ok (.invokevirtual 56, 3)) (hb : fr + 1 ≤ b.1 ∧ 24 + lo ≤ b.2.1) (hs : ev_cats st ≤ 8) (hC : ev_CF G K_X1_ruled (fr, lo, 0, 0) [vr 4 i, a0, a1, a2] m (some v) m') (kk : ev_E G k b u (pc + 3) L (v :: st) (ev_emb m') Q) : ev_E G k b u pc L (a2 :: a1 :: a0 :: vr 4 i :: st) (ev_emb m) Q := ev_cV1 (As := [a0, a1, a2]) (ci := 1) (hc ▸ wl_X2_56) mi_X1_ruled rfl rfl rfl d hb hs rfl hC kk
theorem wl_X2_69 : Cond.methodLink "HelmHand$Mate" 69 yX8_drawn ∈ ev_GW := tm_4 (List.mem_of_getElem? (i := 62) rfl) rfl
theorem cl1_X2_69 {G : ev_G} {k : ev_K} {b : ev_B} {u : Nat × Nat} {pc : Nat} {L : List (Option ev_V)} {st : List ev_V} {m : ev_m} {Q : Option ev_V → ev_M → Prop} {i fr lo : Nat} {m' : ev_m} {v : ev_V} (hc : k.2.1.cls = "HelmHand$Mate") (d : decode k.1 pc = .ok (.invokevirtual 69, 3)) (hb : fr + 1 ≤ b.1 ∧ 20 + lo ≤ b.2.1) (hs : ev_cats st ≤ 8) (hC : ev_CF G K_X8_drawn (fr, lo, 0, 0) [vr 8 i] m (some v) m') (kk : ev_E G k b u (pc + 3) L (v :: st) (ev_emb m') Q) : ev_E G k b u pc L (vr 8 i :: st) (ev_emb m) Q := ev_cV1 (As := []) (ci := 8) (hc ▸ wl_X2_69) mi_X8_drawn rfl rfl rfl d hb hs rfl hC kk
theorem wl_X2_73 : Cond.methodLink "HelmHand$Mate" 73 yX8_rudderNow ∈ ev_GW := tm_4 (List.mem_of_getElem? (i := 67) rfl) rfl
theorem cl1_X2_73 {G : ev_G} {k : ev_K} {b : ev_B} {u : Nat × Nat} {pc : Nat} {L : List (Option ev_V)} {st : List ev_V} {m : ev_m} {Q : Option ev_V → ev_M → Prop} {i fr lo : Nat} {m' : ev_m} {v : ev_V} (hc : k.2.1.cls = "HelmHand$Mate") (d : decode k.1 pc = .ok (.invokevirtual 73, 3)) (hb : fr + 1 ≤ b.1 ∧ 20 + lo ≤ b.2.1) (hs : ev_cats st ≤ 8) (hC : ev_CF G K_X8_rudderNow (fr, lo, 0, 0) [vr 8 i] m (some v) m') (kk : ev_E G k b u (pc + 3) L (v :: st) (ev_emb m') Q) : ev_E G k b u pc L (vr 8 i :: st) (ev_emb m) Q := ev_cV1 (As := []) (ci := 8) (hc ▸ wl_X2_73) mi_X8_rudderNow rfl rfl rfl d hb hs rfl hC kk
theorem cl0_X3_19 {G : ev_G} {k : ev_K} {b : ev_B} {u : Nat × Nat} {pc : Nat} {L : List (Option ev_V)} {st : List ev_V} {m : ev_m} {Q : Option ev_V → ev_M → Prop} {fr lo : Nat} {m' : ev_m} {a0 a1 : ev_V} (hc : k.2.1.cls = "HelmHand$Paper") (d : decode k.1 pc = .ok (.invokestatic 19, 3)) (hb : fr + 1 ≤ b.1 ∧ 21 + lo ≤ b.2.1) (hs : ev_cats st ≤ 8) (hC : ev_CF G K_X9_copyRow (fr, lo, 0, 0) [a0, a1] m none m') (kk : ev_E G k b u (pc + 3) L st (ev_emb m') Q) : ev_E G k b u pc L (a1 :: a0 :: st) (ev_emb m) Q := ev_cSN (host := "HelmHand") (As := [a0, a1]) (by rw [hc]; exact List.mem_of_getElem? (i := 24) rfl) mi_X9_copyRow rfl d hb hs rfl hC kk
theorem cl0_X3_23 {G : ev_G} {k : ev_K} {b : ev_B} {u : Nat × Nat} {pc : Nat} {L : List (Option ev_V)} {st : List ev_V} {m : ev_m} {Q : Option ev_V → ev_M → Prop} {fr lo : Nat} {m' : ev_m} {a0 a1 a2 : ev_V} (hc : k.2.1.cls = "HelmHand$Paper") (d : decode k.1 pc = .ok (.invokestatic 23, 3)) (hb : fr + 1 ≤ b.1 ∧ 22 + lo ≤ b.2.1) (hs : ev_cats st ≤ 8) (hC : ev_CF G K_X9_put (fr, lo, 0, 0) [a0, a1, a2] m none m') (kk : ev_E G k b u (pc + 3) L st (ev_emb m') Q) : ev_E G k b u pc L (a2 :: a1 :: a0 :: st) (ev_emb m) Q := ev_cSN (host := "HelmHand") (As := [a0, a1, a2]) (by rw [hc]; exact List.mem_of_getElem? (i := 18) rfl) mi_X9_put rfl d hb hs rfl hC kk
theorem wl_X4_104 : Cond.methodLink "HelmHand$Reader" 104 yX4_takeStar ∈ ev_GW := tm_3 (List.mem_of_getElem? (i := 84) rfl) rfl
theorem cl1_X4_104 {G : ev_G} {k : ev_K} {b : ev_B} {u : Nat × Nat} {pc : Nat} {L : List (Option ev_V)} {st : List ev_V} {m : ev_m} {Q : Option ev_V → ev_M → Prop} {i fr lo : Nat} {m' : ev_m} {v : ev_V} (hc : k.2.1.cls = "HelmHand$Reader") (d : decode k.1 pc = .ok (.invokevirtual 104, 3)) (hb : fr + 1 ≤ b.1 ∧ 22 + lo ≤ b.2.1) (hs : ev_cats st ≤ 8) (hC : ev_CF G K_X4_takeStar (fr, lo, 0, 0) [vr 7 i] m (some v) m') (kk : ev_E G k b u (pc + 3) L (v :: st) (ev_emb m') Q) : ev_E G k b u pc L (vr 7 i :: st) (ev_emb m) Q := ev_cV1 (As := []) (ci := 4) (hc ▸ wl_X4_104) mi_X4_takeStar rfl rfl rfl d hb hs rfl hC kk
theorem wl_X4_107 : Cond.methodLink "HelmHand$Reader" 107 yX4_takeHandNumber ∈ ev_GW := tm_3 (List.mem_of_getElem? (i := 93) rfl) rfl
theorem cl1_X4_107 {G : ev_G} {k : ev_K} {b : ev_B} {u : Nat × Nat} {pc : Nat} {L : List (Option ev_V)} {st : List ev_V} {m : ev_m} {Q : Option ev_V → ev_M → Prop} {i fr lo : Nat} {m' : ev_m} {v : ev_V} (hc : k.2.1.cls = "HelmHand$Reader") (d : decode k.1 pc = .ok (.invokevirtual 107, 3)) (hb : fr + 1 ≤ b.1 ∧ 21 + lo ≤ b.2.1) (hs : ev_cats st ≤ 8) (hC : ev_CF G K_X4_takeHandNumber (fr, lo, 0, 0) [vr 7 i] m (some v) m') (kk : ev_E G k b u (pc + 3) L (v :: st) (ev_emb m') Q) : ev_E G k b u pc L (vr 7 i :: st) (ev_emb m) Q := ev_cV1 (As := []) (ci := 4) (hc ▸ wl_X4_107) mi_X4_takeHandNumber rfl rfl rfl d hb hs rfl hC kk
theorem wl_X4_112 : Cond.methodLink "HelmHand$Reader" 112 yX4_takeHeadings ∈ ev_GW := tm_3 (List.mem_of_getElem? (i := 116) rfl) rfl
theorem cl1_X4_112 {G : ev_G} {k : ev_K} {b : ev_B} {u : Nat × Nat} {pc : Nat} {L : List (Option ev_V)} {st : List ev_V} {m : ev_m} {Q : Option ev_V → ev_M → Prop} {i fr lo : Nat} {m' : ev_m} {v : ev_V} (hc : k.2.1.cls = "HelmHand$Reader") (d : decode k.1 pc = .ok (.invokevirtual 112, 3)) (hb : fr + 1 ≤ b.1 ∧ 21 + lo ≤ b.2.1) (hs : ev_cats st ≤ 8) (hC : ev_CF G K_X4_takeHeadings (fr, lo, 0, 0) [vr 7 i] m (some v) m') (kk : ev_E G k b u (pc + 3) L (v :: st) (ev_emb m') Q) : ev_E G k b u pc L (vr 7 i :: st) (ev_emb m) Q := ev_cV1 (As := []) (ci := 4) (hc ▸ wl_X4_112) mi_X4_takeHeadings rfl rfl rfl d hb hs rfl hC kk
theorem wl_X4_117 : Cond.methodLink "HelmHand$Reader" 117 yX4_takeMan ∈ ev_GW := tm_3 (List.mem_of_getElem? (i := 126) rfl) rfl
theorem cl1_X4_117 {G : ev_G} {k : ev_K} {b : ev_B} {u : Nat × Nat} {pc : Nat} {L : List (Option ev_V)} {st : List ev_V} {m : ev_m} {Q : Option ev_V → ev_M → Prop} {i fr lo : Nat} {m' : ev_m} {v : ev_V} (hc : k.2.1.cls = "HelmHand$Reader") (d : decode k.1 pc = .ok (.invokevirtual 117, 3)) (hb : fr + 1 ≤ b.1 ∧ 22 + lo ≤ b.2.1) (hs : ev_cats st ≤ 8) (hC : ev_CF G K_X4_takeMan (fr, lo, 0, 0) [vr 7 i] m (some v) m') (kk : ev_E G k b u (pc + 3) L (v :: st) (ev_emb m') Q) : ev_E G k b u pc L (vr 7 i :: st) (ev_emb m) Q := ev_cV1 (As := []) (ci := 4) (hc ▸ wl_X4_117) mi_X4_takeMan rfl rfl rfl d hb hs rfl hC kk
theorem wl_X4_120 : Cond.methodLink "HelmHand$Reader" 120 yX4_shipWord ∈ ev_GW := tm_3 (List.mem_of_getElem? (i := 55) rfl) rfl
theorem cl1_X4_120 {G : ev_G} {k : ev_K} {b : ev_B} {u : Nat × Nat} {pc : Nat} {L : List (Option ev_V)} {st : List ev_V} {m : ev_m} {Q : Option ev_V → ev_M → Prop} {i fr lo : Nat} {m' : ev_m} {v : ev_V} (hc : k.2.1.cls = "HelmHand$Reader") (d : decode k.1 pc = .ok (.invokevirtual 120, 3)) (hb : fr + 1 ≤ b.1 ∧ 20 + lo ≤ b.2.1) (hs : ev_cats st ≤ 8) (hC : ev_CF G K_X4_shipWord (fr, lo, 0, 0) [vr 7 i] m (some v) m') (kk : ev_E G k b u (pc + 3) L (v :: st) (ev_emb m') Q) : ev_E G k b u pc L (vr 7 i :: st) (ev_emb m) Q := ev_cV1 (As := []) (ci := 4) (hc ▸ wl_X4_120) mi_X4_shipWord rfl rfl rfl d hb hs rfl hC kk
theorem wl_X4_124 : Cond.methodLink "HelmHand$Reader" 124 yX4_takeShipNumber ∈ ev_GW := tm_3 (List.mem_of_getElem? (i := 68) rfl) rfl
theorem cl1_X4_124 {G : ev_G} {k : ev_K} {b : ev_B} {u : Nat × Nat} {pc : Nat} {L : List (Option ev_V)} {st : List ev_V} {m : ev_m} {Q : Option ev_V → ev_M → Prop} {i fr lo : Nat} {m' : ev_m} {a0 : ev_V} {v : ev_V} (hc : k.2.1.cls = "HelmHand$Reader") (d : decode k.1 pc = .ok (.invokevirtual 124, 3)) (hb : fr + 1 ≤ b.1 ∧ 21 + lo ≤ b.2.1) (hs : ev_cats st ≤ 8) (hC : ev_CF G K_X4_takeShipNumber (fr, lo, 0, 0) [vr 7 i, a0] m (some v) m') (kk : ev_E G k b u (pc + 3) L (v :: st) (ev_emb m') Q) : ev_E G k b u pc L (a0 :: vr 7 i :: st) (ev_emb m) Q := ev_cV1 (As := [a0]) (ci := 4) (hc ▸ wl_X4_124) mi_X4_takeShipNumber rfl rfl rfl d hb hs rfl hC kk
theorem cl1_X4_131 {G : ev_G} {k : ev_K} {b : ev_B} {u : Nat × Nat} {pc : Nat} {L : List (Option ev_V)} {st : List ev_V} {m : ev_m} {Q : Option ev_V → ev_M → Prop} {fr lo : Nat} {m' : ev_m} {a0 a1 : ev_V} {v : ev_V} (hc : k.2.1.cls = "HelmHand$Reader") (d : decode k.1 pc = .ok (.invokestatic 131, 3)) (hb : fr + 1 ≤ b.1 ∧ 21 + lo ≤ b.2.1) (hs : ev_cats st ≤ 8) (hC : ev_CF G K_X9_at (fr, lo, 0, 0) [a0, a1] m (some v) m') (kk : ev_E G k b u (pc + 3) L (v :: st) (ev_emb m') Q) : ev_E G k b u pc L (a1 :: a0 :: st) (ev_emb m) Q := ev_cSN (host := "HelmHand") (As := [a0, a1]) (by rw [hc]; exact List.mem_of_getElem? (i := 16) rfl) mi_X9_at rfl d hb hs rfl hC kk
theorem wl_X4_138 : Cond.methodLink "HelmHand$Reader" 138 yX4_takeNumber ∈ ev_GW := tm_3 (List.mem_of_getElem? (i := 39) rfl) rfl
theorem cl1_X4_138 {G : ev_G} {k : ev_K} {b : ev_B} {u : Nat × Nat} {pc : Nat} {L : List (Option ev_V)} {st : List ev_V} {m : ev_m} {Q : Option ev_V → ev_M → Prop} {i fr lo : Nat} {m' : ev_m} {a0 a1 a2 : ev_V} {v : ev_V} (hc : k.2.1.cls = "HelmHand$Reader") (d : decode k.1 pc = .ok (.invokevirtual 138, 3)) (hb : fr + 1 ≤ b.1 ∧ 26 + lo ≤ b.2.1) (hs : ev_cats st ≤ 8) (hC : ev_CF G K_X4_takeNumber (fr, lo, 0, 0) [vr 7 i, a0, a1, a2] m (some v) m') (kk : ev_E G k b u (pc + 3) L (v :: st) (ev_emb m') Q) : ev_E G k b u pc L (a2 :: a1 :: a0 :: vr 7 i :: st) (ev_emb m) Q := ev_cV1 (As := [a0, a1, a2]) (ci := 4) (hc ▸ wl_X4_138) mi_X4_takeNumber rfl rfl rfl d hb hs rfl hC kk
theorem wl_X4_145 : Cond.methodLink "HelmHand$Reader" 145 yX5_write ∈ ev_GW := tm_3 (List.mem_of_getElem? (i := 79) rfl) rfl
theorem cl0_X4_145 {G : ev_G} {k : ev_K} {b : ev_B} {u : Nat × Nat} {pc : Nat} {L : List (Option ev_V)} {st : List ev_V} {m : ev_m} {Q : Option ev_V → ev_M → Prop} {i fr lo : Nat} {m' : ev_m} {a0 a1 : ev_V} (hc : k.2.1.cls = "HelmHand$Reader") (d : decode k.1 pc = .ok (.invokevirtual 145, 3)) (hb : fr + 1 ≤ b.1 ∧ 22 + lo ≤ b.2.1) (hs : ev_cats st ≤ 8) (hC : ev_CF G K_X5_write (fr, lo, 0, 0) [vr 3 i, a0, a1] m none m') (kk : ev_E G k b u (pc + 3) L st (ev_emb m') Q) : ev_E G k b u pc L (a1 :: a0 :: vr 3 i :: st) (ev_emb m) Q := ev_cV0 (As := [a0, a1]) (ci := 5) (hc ▸ wl_X4_145) mi_X5_write rfl rfl rfl d hb hs rfl hC kk
theorem wl_X4_151 : Cond.methodLink "HelmHand$Reader" 151 yX4_goesOnWithNumber ∈ ev_GW := tm_3 (List.mem_of_getElem? (i := 35) rfl) rfl
theorem cl1_X4_151 {G : ev_G} {k : ev_K} {b : ev_B} {u : Nat × Nat} {pc : Nat} {L : List (Option ev_V)} {st : List ev_V} {m : ev_m} {Q : Option ev_V → ev_M → Prop} {i fr lo : Nat} {m' : ev_m} {v : ev_V} (hc : k.2.1.cls = "HelmHand$Reader") (d : decode k.1 pc = .ok (.invokevirtual 151, 3)) (hb : fr + 1 ≤ b.1 ∧ 20 + lo ≤ b.2.1) (hs : ev_cats st ≤ 8) (hC : ev_CF G K_X4_goesOnWithNumber (fr, lo, 0, 0) [vr 7 i] m (some v) m') (kk : ev_E G k b u (pc + 3) L (v :: st) (ev_emb m') Q) : ev_E G k b u pc L (vr 7 i :: st) (ev_emb m) Q := ev_cV1 (As := []) (ci := 4) (hc ▸ wl_X4_151) mi_X4_goesOnWithNumber rfl rfl rfl d hb hs rfl hC kk
theorem wl_X4_154 : Cond.methodLink "HelmHand$Reader" 154 yX5_addSea ∈ ev_GW := tm_3 (List.mem_of_getElem? (i := 47) rfl) rfl
theorem cl1_X4_154 {G : ev_G} {k : ev_K} {b : ev_B} {u : Nat × Nat} {pc : Nat} {L : List (Option ev_V)} {st : List ev_V} {m : ev_m} {Q : Option ev_V → ev_M → Prop} {i fr lo : Nat} {m' : ev_m} {a0 : ev_V} {v : ev_V} (hc : k.2.1.cls = "HelmHand$Reader") (d : decode k.1 pc = .ok (.invokevirtual 154, 3)) (hb : fr + 1 ≤ b.1 ∧ 21 + lo ≤ b.2.1) (hs : ev_cats st ≤ 8) (hC : ev_CF G K_X5_addSea (fr, lo, 0, 0) [vr 3 i, a0] m (some v) m') (kk : ev_E G k b u (pc + 3) L (v :: st) (ev_emb m') Q) : ev_E G k b u pc L (a0 :: vr 3 i :: st) (ev_emb m) Q := ev_cV1 (As := [a0]) (ci := 5) (hc ▸ wl_X4_154) mi_X5_addSea rfl rfl rfl d hb hs rfl hC kk
theorem wl_X4_160 : Cond.methodLink "HelmHand$Reader" 160 yX4_handWord ∈ ev_GW := tm_3 (List.mem_of_getElem? (i := 97) rfl) rfl
theorem cl1_X4_160 {G : ev_G} {k : ev_K} {b : ev_B} {u : Nat × Nat} {pc : Nat} {L : List (Option ev_V)} {st : List ev_V} {m : ev_m} {Q : Option ev_V → ev_M → Prop} {i fr lo : Nat} {m' : ev_m} {v : ev_V} (hc : k.2.1.cls = "HelmHand$Reader") (d : decode k.1 pc = .ok (.invokevirtual 160, 3)) (hb : fr + 1 ≤ b.1 ∧ 20 + lo ≤ b.2.1) (hs : ev_cats st ≤ 8) (hC : ev_CF G K_X4_handWord (fr, lo, 0, 0) [vr 7 i] m (some v) m') (kk : ev_E G k b u (pc + 3) L (v :: st) (ev_emb m') Q) : ev_E G k b u pc L (vr 7 i :: st) (ev_emb m) Q := ev_cV1 (As := []) (ci := 4) (hc ▸ wl_X4_160) mi_X4_handWord rfl rfl rfl d hb hs rfl hC kk
theorem wl_X4_163 : Cond.methodLink "HelmHand$Reader" 163 yX1_write ∈ ev_GW := tm_3 (List.mem_of_getElem? (i := 110) rfl) rfl
theorem cl0_X4_163 {G : ev_G} {k : ev_K} {b : ev_B} {u : Nat × Nat} {pc : Nat} {L : List (Option ev_V)} {st : List ev_V} {m : ev_m} {Q : Option ev_V → ev_M → Prop} {i fr lo : Nat} {m' : ev_m} {a0 a1 : ev_V} (hc : k.2.1.cls = "HelmHand$Reader") (d : decode k.1 pc = .ok (.invokevirtual 163, 3)) (hb : fr + 1 ≤ b.1 ∧ 22 + lo ≤ b.2.1) (hs : ev_cats st ≤ 8) (hC : ev_CF G K_X1_write (fr, lo, 0, 0) [vr 4 i, a0, a1] m none m') (kk : ev_E G k b u (pc + 3) L st (ev_emb m') Q) : ev_E G k b u pc L (a1 :: a0 :: vr 4 i :: st) (ev_emb m) Q := ev_cV0 (As := [a0, a1]) (ci := 1) (hc ▸ wl_X4_163) mi_X1_write rfl rfl rfl d hb hs rfl hC kk
theorem wl_X4_170 : Cond.methodLink "HelmHand$Reader" 170 yX1_addStar ∈ ev_GW := tm_3 (List.mem_of_getElem? (i := 88) rfl) rfl
theorem cl1_X4_170 {G : ev_G} {k : ev_K} {b : ev_B} {u : Nat × Nat} {pc : Nat} {L : List (Option ev_V)} {st : List ev_V} {m : ev_m} {Q : Option ev_V → ev_M → Prop} {i fr lo : Nat} {m' : ev_m} {a0 a1 : ev_V} {v : ev_V} (hc : k.2.1.cls = "HelmHand$Reader") (d : decode k.1 pc = .ok (.invokevirtual 170, 3)) (hb : fr + 1 ≤ b.1 ∧ 22 + lo ≤ b.2.1) (hs : ev_cats st ≤ 8) (hC : ev_CF G K_X1_addStar (fr, lo, 0, 0) [vr 4 i, a0, a1] m (some v) m') (kk : ev_E G k b u (pc + 3) L (v :: st) (ev_emb m') Q) : ev_E G k b u pc L (a1 :: a0 :: vr 4 i :: st) (ev_emb m) Q := ev_cV1 (As := [a0, a1]) (ci := 1) (hc ▸ wl_X4_170) mi_X1_addStar rfl rfl rfl d hb hs rfl hC kk
theorem wl_X4_174 : Cond.methodLink "HelmHand$Reader" 174 yX3_addHeading ∈ ev_GW := tm_3 (List.mem_of_getElem? (i := 120) rfl) rfl
theorem cl1_X4_174 {G : ev_G} {k : ev_K} {b : ev_B} {u : Nat × Nat} {pc : Nat} {L : List (Option ev_V)} {st : List ev_V} {m : ev_m} {Q : Option ev_V → ev_M → Prop} {i fr lo : Nat} {m' : ev_m} {a0 : ev_V} {v : ev_V} (hc : k.2.1.cls = "HelmHand$Reader") (d : decode k.1 pc = .ok (.invokevirtual 174, 3)) (hb : fr + 1 ≤ b.1 ∧ 21 + lo ≤ b.2.1) (hs : ev_cats st ≤ 8) (hC : ev_CF G K_X3_addHeading (fr, lo, 0, 0) [vr 5 i, a0] m (some v) m') (kk : ev_E G k b u (pc + 3) L (v :: st) (ev_emb m') Q) : ev_E G k b u pc L (a0 :: vr 5 i :: st) (ev_emb m) Q := ev_cV1 (As := [a0]) (ci := 3) (hc ▸ wl_X4_174) mi_X3_addHeading rfl rfl rfl d hb hs rfl hC kk
theorem wl_X4_177 : Cond.methodLink "HelmHand$Reader" 177 yX7_addMan ∈ ev_GW := tm_3 (List.mem_of_getElem? (i := 130) rfl) rfl
theorem cl1_X4_177 {G : ev_G} {k : ev_K} {b : ev_B} {u : Nat × Nat} {pc : Nat} {L : List (Option ev_V)} {st : List ev_V} {m : ev_m} {Q : Option ev_V → ev_M → Prop} {i fr lo : Nat} {m' : ev_m} {a0 a1 : ev_V} {v : ev_V} (hc : k.2.1.cls = "HelmHand$Reader") (d : decode k.1 pc = .ok (.invokevirtual 177, 3)) (hb : fr + 1 ≤ b.1 ∧ 22 + lo ≤ b.2.1) (hs : ev_cats st ≤ 8) (hC : ev_CF G K_X7_addMan (fr, lo, 0, 0) [vr 6 i, a0, a1] m (some v) m') (kk : ev_E G k b u (pc + 3) L (v :: st) (ev_emb m') Q) : ev_E G k b u pc L (a1 :: a0 :: vr 6 i :: st) (ev_emb m) Q := ev_cV1 (As := [a0, a1]) (ci := 7) (hc ▸ wl_X4_177) mi_X7_addMan rfl rfl rfl d hb hs rfl hC kk
theorem wl_X4_180 : Cond.methodLink "HelmHand$Reader" 180 yX6_byteAt ∈ ev_GW := tm_2 (List.mem_of_getElem? (i := 207) rfl) rfl
theorem cl1_X4_180 {G : ev_G} {k : ev_K} {b : ev_B} {u : Nat × Nat} {pc : Nat} {L : List (Option ev_V)} {st : List ev_V} {m : ev_m} {Q : Option ev_V → ev_M → Prop} {i fr lo : Nat} {m' : ev_m} {a0 : ev_V} {v : ev_V} (hc : k.2.1.cls = "HelmHand$Reader") (d : decode k.1 pc = .ok (.invokevirtual 180, 3)) (hb : fr + 1 ≤ b.1 ∧ 21 + lo ≤ b.2.1) (hs : ev_cats st ≤ 8) (hC : ev_CF G K_X6_byteAt (fr, lo, 0, 0) [vr 2 i, a0] m (some v) m') (kk : ev_E G k b u (pc + 3) L (v :: st) (ev_emb m') Q) : ev_E G k b u pc L (a0 :: vr 2 i :: st) (ev_emb m) Q := ev_cV1 (As := [a0]) (ci := 6) (hc ▸ wl_X4_180) mi_X6_byteAt rfl rfl rfl d hb hs rfl hC kk
theorem wl_X4_231 : Cond.methodLink "HelmHand$Reader" 231 yX4_kindOf ∈ ev_GW := tm_2 (List.mem_of_getElem? (i := 211) rfl) rfl
theorem cl1_X4_231 {G : ev_G} {k : ev_K} {b : ev_B} {u : Nat × Nat} {pc : Nat} {L : List (Option ev_V)} {st : List ev_V} {m : ev_m} {Q : Option ev_V → ev_M → Prop} {fr lo : Nat} {m' : ev_m} {a0 : ev_V} {v : ev_V} (hc : k.2.1.cls = "HelmHand$Reader") (d : decode k.1 pc = .ok (.invokestatic 231, 3)) (hb : fr + 1 ≤ b.1 ∧ 20 + lo ≤ b.2.1) (hs : ev_cats st ≤ 8) (hC : ev_CF G K_X4_kindOf (fr, lo, 0, 0) [a0] m (some v) m') (kk : ev_E G k b u (pc + 3) L (v :: st) (ev_emb m') Q) : ev_E G k b u pc L (a0 :: st) (ev_emb m) Q := ev_cS (As := [a0]) (hc ▸ wl_X4_231) mi_X4_kindOf rfl d hb hs rfl hC kk
theorem wl_X4_46 : Cond.methodLink "HelmHand$Reader" 46 yX6_copy ∈ ev_GW := tm_2 (List.mem_of_getElem? (i := 170) rfl) rfl
theorem cl0_X4_46 {G : ev_G} {k : ev_K} {b : ev_B} {u : Nat × Nat} {pc : Nat} {L : List (Option ev_V)} {st : List ev_V} {m : ev_m} {Q : Option ev_V → ev_M → Prop} {i fr lo : Nat} {m' : ev_m} {a0 : ev_V} (hc : k.2.1.cls = "HelmHand$Reader") (d : decode k.1 pc = .ok (.invokevirtual 46, 3)) (hb : fr + 1 ≤ b.1 ∧ 21 + lo ≤ b.2.1) (hs : ev_cats st ≤ 8) (hC : ev_CF G K_X6_copy (fr, lo, 0, 0) [vr 2 i, a0] m none m') (kk : ev_E G k b u (pc + 3) L st (ev_emb m') Q) : ev_E G k b u pc L (a0 :: vr 2 i :: st) (ev_emb m) Q := ev_cV0 (As := [a0]) (ci := 6) (hc ▸ wl_X4_46) mi_X6_copy rfl rfl rfl d hb hs rfl hC kk
theorem wl_X4_57 : Cond.methodLink "HelmHand$Reader" 57 yX5_clear ∈ ev_GW := tm_2 (List.mem_of_getElem? (i := 180) rfl) rfl
theorem cl0_X4_57 {G : ev_G} {k : ev_K} {b : ev_B} {u : Nat × Nat} {pc : Nat} {L : List (Option ev_V)} {st : List ev_V} {m : ev_m} {Q : Option ev_V → ev_M → Prop} {i fr lo : Nat} {m' : ev_m} (hc : k.2.1.cls = "HelmHand$Reader") (d : decode k.1 pc = .ok (.invokevirtual 57, 3)) (hb : fr + 1 ≤ b.1 ∧ 20 + lo ≤ b.2.1) (hs : ev_cats st ≤ 8) (hC : ev_CF G K_X5_clear (fr, lo, 0, 0) [vr 3 i] m none m') (kk : ev_E G k b u (pc + 3) L st (ev_emb m') Q) : ev_E G k b u pc L (vr 3 i :: st) (ev_emb m) Q := ev_cV0 (As := []) (ci := 5) (hc ▸ wl_X4_57) mi_X5_clear rfl rfl rfl d hb hs rfl hC kk
theorem wl_X4_60 : Cond.methodLink "HelmHand$Reader" 60 yX1_clear ∈ ev_GW := tm_2 (List.mem_of_getElem? (i := 187) rfl) rfl
theorem cl0_X4_60 {G : ev_G} {k : ev_K} {b : ev_B} {u : Nat × Nat} {pc : Nat} {L : List (Option ev_V)} {st : List ev_V} {m : ev_m} {Q : Option ev_V → ev_M → Prop} {i fr lo : Nat} {m' : ev_m} (hc : k.2.1.cls = "HelmHand$Reader") (d : decode k.1 pc = .ok (.invokevirtual 60, 3)) (hb : fr + 1 ≤ b.1 ∧ 21 + lo ≤ b.2.1) (hs : ev_cats st ≤ 8) (hC : ev_CF G K_X1_clear (fr, lo, 0, 0) [vr 4 i] m none m') (kk : ev_E G k b u (pc + 3) L st (ev_emb m') Q) : ev_E G k b u pc L (vr 4 i :: st) (ev_emb m) Q := ev_cV0 (As := []) (ci := 1) (hc ▸ wl_X4_60) mi_X1_clear rfl rfl rfl d hb hs rfl hC kk
theorem wl_X4_61 : Cond.methodLink "HelmHand$Reader" 61 yX3_clear ∈ ev_GW := tm_2 (List.mem_of_getElem? (i := 195) rfl) rfl
theorem cl0_X4_61 {G : ev_G} {k : ev_K} {b : ev_B} {u : Nat × Nat} {pc : Nat} {L : List (Option ev_V)} {st : List ev_V} {m : ev_m} {Q : Option ev_V → ev_M → Prop} {i fr lo : Nat} {m' : ev_m} (hc : k.2.1.cls = "HelmHand$Reader") (d : decode k.1 pc = .ok (.invokevirtual 61, 3)) (hb : fr + 1 ≤ b.1 ∧ 20 + lo ≤ b.2.1) (hs : ev_cats st ≤ 8) (hC : ev_CF G K_X3_clear (fr, lo, 0, 0) [vr 5 i] m none m') (kk : ev_E G k b u (pc + 3) L st (ev_emb m') Q) : ev_E G k b u pc L (vr 5 i :: st) (ev_emb m) Q := ev_cV0 (As := []) (ci := 3) (hc ▸ wl_X4_61) mi_X3_clear rfl rfl rfl d hb hs rfl hC kk
theorem wl_X4_62 : Cond.methodLink "HelmHand$Reader" 62 yX7_clear ∈ ev_GW := tm_2 (List.mem_of_getElem? (i := 199) rfl) rfl
theorem cl0_X4_62 {G : ev_G} {k : ev_K} {b : ev_B} {u : Nat × Nat} {pc : Nat} {L : List (Option ev_V)} {st : List ev_V} {m : ev_m} {Q : Option ev_V → ev_M → Prop} {i fr lo : Nat} {m' : ev_m} (hc : k.2.1.cls = "HelmHand$Reader") (d : decode k.1 pc = .ok (.invokevirtual 62, 3)) (hb : fr + 1 ≤ b.1 ∧ 20 + lo ≤ b.2.1) (hs : ev_cats st ≤ 8) (hC : ev_CF G K_X7_clear (fr, lo, 0, 0) [vr 6 i] m none m') (kk : ev_E G k b u (pc + 3) L st (ev_emb m') Q) : ev_E G k b u pc L (vr 6 i :: st) (ev_emb m) Q := ev_cV0 (As := []) (ci := 7) (hc ▸ wl_X4_62) mi_X7_clear rfl rfl rfl d hb hs rfl hC kk
theorem wl_X4_66 : Cond.methodLink "HelmHand$Reader" 66 yX4_next ∈ ev_GW := tm_2 (List.mem_of_getElem? (i := 203) rfl) rfl
theorem cl0_X4_66 {G : ev_G} {k : ev_K} {b : ev_B} {u : Nat × Nat} {pc : Nat} {L : List (Option ev_V)} {st : List ev_V} {m : ev_m} {Q : Option ev_V → ev_M → Prop} {i fr lo : Nat} {m' : ev_m} (hc : k.2.1.cls = "HelmHand$Reader") (d : decode k.1 pc = .ok (.invokevirtual 66, 3)) (hb : fr + 1 ≤ b.1 ∧ 21 + lo ≤ b.2.1) (hs : ev_cats st ≤ 8) (hC : ev_CF G K_X4_next (fr, lo, 0, 0) [vr 7 i] m none m') (kk : ev_E G k b u (pc + 3) L st (ev_emb m') Q) : ev_E G k b u pc L (vr 7 i :: st) (ev_emb m) Q := ev_cV0 (As := []) (ci := 4) (hc ▸ wl_X4_66) mi_X4_next rfl rfl rfl d hb hs rfl hC kk
theorem wl_X4_72 : Cond.methodLink "HelmHand$Reader" 72 yX4_takeLine ∈ ev_GW := tm_2 (List.mem_of_getElem? (i := 214) rfl) rfl
theorem cl1_X4_72 {G : ev_G} {k : ev_K} {b : ev_B} {u : Nat × Nat} {pc : Nat} {L : List (Option ev_V)} {st : List ev_V} {m : ev_m} {Q : Option ev_V → ev_M → Prop} {i fr lo : Nat} {m' : ev_m} {a0 : ev_V} {v : ev_V} (hc : k.2.1.cls = "HelmHand$Reader") (d : decode k.1 pc = .ok (.invokevirtual 72, 3)) (hb : fr + 1 ≤ b.1 ∧ 21 + lo ≤ b.2.1) (hs : ev_cats st ≤ 8) (hC : ev_CF G K_X4_takeLine (fr, lo, 0, 0) [vr 7 i, a0] m (some v) m') (kk : ev_E G k b u (pc + 3) L (v :: st) (ev_emb m') Q) : ev_E G k b u pc L (a0 :: vr 7 i :: st) (ev_emb m) Q := ev_cV1 (As := [a0]) (ci := 4) (hc ▸ wl_X4_72) mi_X4_takeLine rfl rfl rfl d hb hs rfl hC kk
theorem wl_X4_76 : Cond.methodLink "HelmHand$Reader" 76 yX4_takeSemicolon ∈ ev_GW := tm_3 (List.mem_of_getElem? (i := 135) rfl) rfl
theorem cl1_X4_76 {G : ev_G} {k : ev_K} {b : ev_B} {u : Nat × Nat} {pc : Nat} {L : List (Option ev_V)} {st : List ev_V} {m : ev_m} {Q : Option ev_V → ev_M → Prop} {i fr lo : Nat} {m' : ev_m} {v : ev_V} (hc : k.2.1.cls = "HelmHand$Reader") (d : decode k.1 pc = .ok (.invokevirtual 76, 3)) (hb : fr + 1 ≤ b.1 ∧ 20 + lo ≤ b.2.1) (hs : ev_cats st ≤ 8) (hC : ev_CF G K_X4_takeSemicolon (fr, lo, 0, 0) [vr 7 i] m (some v) m') (kk : ev_E G k b u (pc + 3) L (v :: st) (ev_emb m') Q) : ev_E G k b u pc L (vr 7 i :: st) (ev_emb m) Q := ev_cV1 (As := []) (ci := 4) (hc ▸ wl_X4_76) mi_X4_takeSemicolon rfl rfl rfl d hb hs rfl hC kk
theorem wl_X4_86 : Cond.methodLink "HelmHand$Reader" 86 yX4_note ∈ ev_GW := tm_3 (List.mem_of_getElem? (i := 43) rfl) rfl
theorem cl0_X4_86 {G : ev_G} {k : ev_K} {b : ev_B} {u : Nat × Nat} {pc : Nat} {L : List (Option ev_V)} {st : List ev_V} {m : ev_m} {Q : Option ev_V → ev_M → Prop} {i fr lo : Nat} {m' : ev_m} {a0 a1 : ev_V} (hc : k.2.1.cls = "HelmHand$Reader") (d : decode k.1 pc = .ok (.invokevirtual 86, 3)) (hb : fr + 1 ≤ b.1 ∧ 23 + lo ≤ b.2.1) (hs : ev_cats st ≤ 8) (hC : ev_CF G K_X4_note (fr, lo, 0, 0) [vr 7 i, a0, a1] m none m') (kk : ev_E G k b u (pc + 3) L st (ev_emb m') Q) : ev_E G k b u pc L (a1 :: a0 :: vr 7 i :: st) (ev_emb m) Q := ev_cV0 (As := [a0, a1]) (ci := 4) (hc ▸ wl_X4_86) mi_X4_note rfl rfl rfl d hb hs rfl hC kk
theorem wl_X4_92 : Cond.methodLink "HelmHand$Reader" 92 yX4_isWord ∈ ev_GW := tm_2 (List.mem_of_getElem? (i := 219) rfl) rfl
theorem cl1_X4_92 {G : ev_G} {k : ev_K} {b : ev_B} {u : Nat × Nat} {pc : Nat} {L : List (Option ev_V)} {st : List ev_V} {m : ev_m} {Q : Option ev_V → ev_M → Prop} {i fr lo : Nat} {m' : ev_m} {a0 : ev_V} {v : ev_V} (hc : k.2.1.cls = "HelmHand$Reader") (d : decode k.1 pc = .ok (.invokevirtual 92, 3)) (hb : fr + 1 ≤ b.1 ∧ 22 + lo ≤ b.2.1) (hs : ev_cats st ≤ 8) (hC : ev_CF G K_X4_isWord (fr, lo, 0, 0) [vr 7 i, a0] m (some v) m') (kk : ev_E G k b u (pc + 3) L (v :: st) (ev_emb m') Q) : ev_E G k b u pc L (a0 :: vr 7 i :: st) (ev_emb m) Q := ev_cV1 (As := [a0]) (ci := 4) (hc ▸ wl_X4_92) mi_X4_isWord rfl rfl rfl d hb hs rfl hC kk
theorem wl_X4_96 : Cond.methodLink "HelmHand$Reader" 96 yX4_takeSeas ∈ ev_GW := tm_3 (List.mem_of_getElem? (i := 31) rfl) rfl
theorem cl1_X4_96 {G : ev_G} {k : ev_K} {b : ev_B} {u : Nat × Nat} {pc : Nat} {L : List (Option ev_V)} {st : List ev_V} {m : ev_m} {Q : Option ev_V → ev_M → Prop} {i fr lo : Nat} {m' : ev_m} {v : ev_V} (hc : k.2.1.cls = "HelmHand$Reader") (d : decode k.1 pc = .ok (.invokevirtual 96, 3)) (hb : fr + 1 ≤ b.1 ∧ 21 + lo ≤ b.2.1) (hs : ev_cats st ≤ 8) (hC : ev_CF G K_X4_takeSeas (fr, lo, 0, 0) [vr 7 i] m (some v) m') (kk : ev_E G k b u (pc + 3) L (v :: st) (ev_emb m') Q) : ev_E G k b u pc L (vr 7 i :: st) (ev_emb m) Q := ev_cV1 (As := []) (ci := 4) (hc ▸ wl_X4_96) mi_X4_takeSeas rfl rfl rfl d hb hs rfl hC kk
theorem wl_X4_99 : Cond.methodLink "HelmHand$Reader" 99 yX4_takeShipNumbers ∈ ev_GW := tm_3 (List.mem_of_getElem? (i := 51) rfl) rfl
theorem cl1_X4_99 {G : ev_G} {k : ev_K} {b : ev_B} {u : Nat × Nat} {pc : Nat} {L : List (Option ev_V)} {st : List ev_V} {m : ev_m} {Q : Option ev_V → ev_M → Prop} {i fr lo : Nat} {m' : ev_m} {v : ev_V} (hc : k.2.1.cls = "HelmHand$Reader") (d : decode k.1 pc = .ok (.invokevirtual 99, 3)) (hb : fr + 1 ≤ b.1 ∧ 21 + lo ≤ b.2.1) (hs : ev_cats st ≤ 8) (hC : ev_CF G K_X4_takeShipNumbers (fr, lo, 0, 0) [vr 7 i] m (some v) m') (kk : ev_E G k b u (pc + 3) L (v :: st) (ev_emb m') Q) : ev_E G k b u pc L (vr 7 i :: st) (ev_emb m) Q := ev_cV1 (As := []) (ci := 4) (hc ▸ wl_X4_99) mi_X4_takeShipNumbers rfl rfl rfl d hb hs rfl hC kk
theorem cl0_X5_49 {G : ev_G} {k : ev_K} {b : ev_B} {u : Nat × Nat} {pc : Nat} {L : List (Option ev_V)} {st : List ev_V} {m : ev_m} {Q : Option ev_V → ev_M → Prop} {fr lo : Nat} {m' : ev_m} {a0 a1 a2 : ev_V} (hc : k.2.1.cls = "HelmHand$Ship") (d : decode k.1 pc = .ok (.invokestatic 49, 3)) (hb : fr + 1 ≤ b.1 ∧ 22 + lo ≤ b.2.1) (hs : ev_cats st ≤ 8) (hC : ev_CF G K_X9_put (fr, lo, 0, 0) [a0, a1, a2] m none m') (kk : ev_E G k b u (pc + 3) L st (ev_emb m') Q) : ev_E G k b u pc L (a2 :: a1 :: a0 :: st) (ev_emb m) Q := ev_cSN (host := "HelmHand") (As := [a0, a1, a2]) (by rw [hc]; exact List.mem_of_getElem? (i := 15) rfl) mi_X9_put rfl d hb hs rfl hC kk
theorem wl_X5_53 : Cond.methodLink "HelmHand$Ship" 53 yX5_look ∈ ev_GW := tm_3 (List.mem_of_getElem? (i := 158) rfl) rfl
theorem cl1_X5_53 {G : ev_G} {k : ev_K} {b : ev_B} {u : Nat × Nat} {pc : Nat} {L : List (Option ev_V)} {st : List ev_V} {m : ev_m} {Q : Option ev_V → ev_M → Prop} {i fr lo : Nat} {m' : ev_m} {a0 : ev_V} {v : ev_V} (hc : k.2.1.cls = "HelmHand$Ship") (d : decode k.1 pc = .ok (.invokevirtual 53, 3)) (hb : fr + 1 ≤ b.1 ∧ 21 + lo ≤ b.2.1) (hs : ev_cats st ≤ 8) (hC : ev_CF G K_X5_look (fr, lo, 0, 0) [vr 3 i, a0] m (some v) m') (kk : ev_E G k b u (pc + 3) L (v :: st) (ev_emb m') Q) : ev_E G k b u pc L (a0 :: vr 3 i :: st) (ev_emb m) Q := ev_cV1 (As := [a0]) (ci := 5) (hc ▸ wl_X5_53) mi_X5_look rfl rfl rfl d hb hs rfl hC kk
theorem wl_X5_57 : Cond.methodLink "HelmHand$Ship" 57 yX5_write ∈ ev_GW := tm_3 (List.mem_of_getElem? (i := 164) rfl) rfl
theorem cl0_X5_57 {G : ev_G} {k : ev_K} {b : ev_B} {u : Nat × Nat} {pc : Nat} {L : List (Option ev_V)} {st : List ev_V} {m : ev_m} {Q : Option ev_V → ev_M → Prop} {i fr lo : Nat} {m' : ev_m} {a0 a1 : ev_V} (hc : k.2.1.cls = "HelmHand$Ship") (d : decode k.1 pc = .ok (.invokevirtual 57, 3)) (hb : fr + 1 ≤ b.1 ∧ 22 + lo ≤ b.2.1) (hs : ev_cats st ≤ 8) (hC : ev_CF G K_X5_write (fr, lo, 0, 0) [vr 3 i, a0, a1] m none m') (kk : ev_E G k b u (pc + 3) L st (ev_emb m') Q) : ev_E G k b u pc L (a1 :: a0 :: vr 3 i :: st) (ev_emb m) Q := ev_cV0 (As := [a0, a1]) (ci := 5) (hc ▸ wl_X5_57) mi_X5_write rfl rfl rfl d hb hs rfl hC kk
theorem cl0_X5_61 {G : ev_G} {k : ev_K} {b : ev_B} {u : Nat × Nat} {pc : Nat} {L : List (Option ev_V)} {st : List ev_V} {m : ev_m} {Q : Option ev_V → ev_M → Prop} {fr lo : Nat} {m' : ev_m} {a0 a1 : ev_V} (hc : k.2.1.cls = "HelmHand$Ship") (d : decode k.1 pc = .ok (.invokestatic 61, 3)) (hb : fr + 1 ≤ b.1 ∧ 21 + lo ≤ b.2.1) (hs : ev_cats st ≤ 8) (hC : ev_CF G K_X9_copyRow (fr, lo, 0, 0) [a0, a1] m none m') (kk : ev_E G k b u (pc + 3) L st (ev_emb m') Q) : ev_E G k b u pc L (a1 :: a0 :: st) (ev_emb m) Q := ev_cSN (host := "HelmHand") (As := [a0, a1]) (by rw [hc]; exact List.mem_of_getElem? (i := 21) rfl) mi_X9_copyRow rfl d hb hs rfl hC kk
theorem cl1_X5_65 {G : ev_G} {k : ev_K} {b : ev_B} {u : Nat × Nat} {pc : Nat} {L : List (Option ev_V)} {st : List ev_V} {m : ev_m} {Q : Option ev_V → ev_M → Prop} {fr lo : Nat} {m' : ev_m} {a0 a1 : ev_V} {v : ev_V} (hc : k.2.1.cls = "HelmHand$Ship") (d : decode k.1 pc = .ok (.invokestatic 65, 3)) (hb : fr + 1 ≤ b.1 ∧ 21 + lo ≤ b.2.1) (hs : ev_cats st ≤ 8) (hC : ev_CF G K_X9_at (fr, lo, 0, 0) [a0, a1] m (some v) m') (kk : ev_E G k b u (pc + 3) L (v :: st) (ev_emb m') Q) : ev_E G k b u pc L (a1 :: a0 :: st) (ev_emb m) Q := ev_cSN (host := "HelmHand") (As := [a0, a1]) (by rw [hc]; exact List.mem_of_getElem? (i := 20) rfl) mi_X9_at rfl d hb hs rfl hC kk
theorem wl_X6_15 : Cond.methodLink "HelmHand$Tape" 15 yX6_addByte ∈ ev_GW := tm_2 (List.mem_of_getElem? (i := 146) rfl) rfl
theorem cl0_X6_15 {G : ev_G} {k : ev_K} {b : ev_B} {u : Nat × Nat} {pc : Nat} {L : List (Option ev_V)} {st : List ev_V} {m : ev_m} {Q : Option ev_V → ev_M → Prop} {i fr lo : Nat} {m' : ev_m} {a0 : ev_V} (hc : k.2.1.cls = "HelmHand$Tape") (d : decode k.1 pc = .ok (.invokevirtual 15, 3)) (hb : fr + 1 ≤ b.1 ∧ 21 + lo ≤ b.2.1) (hs : ev_cats st ≤ 8) (hC : ev_CF G K_X6_addByte (fr, lo, 0, 0) [vr 2 i, a0] m none m') (kk : ev_E G k b u (pc + 3) L st (ev_emb m') Q) : ev_E G k b u pc L (a0 :: vr 2 i :: st) (ev_emb m) Q := ev_cV0 (As := [a0]) (ci := 6) (hc ▸ wl_X6_15) mi_X6_addByte rfl rfl rfl d hb hs rfl hC kk
theorem cl0_X7_22 {G : ev_G} {k : ev_K} {b : ev_B} {u : Nat × Nat} {pc : Nat} {L : List (Option ev_V)} {st : List ev_V} {m : ev_m} {Q : Option ev_V → ev_M → Prop} {fr lo : Nat} {m' : ev_m} {a0 a1 : ev_V} (hc : k.2.1.cls = "HelmHand$Watch") (d : decode k.1 pc = .ok (.invokestatic 22, 3)) (hb : fr + 1 ≤ b.1 ∧ 21 + lo ≤ b.2.1) (hs : ev_cats st ≤ 8) (hC : ev_CF G K_X9_copyRow (fr, lo, 0, 0) [a0, a1] m none m') (kk : ev_E G k b u (pc + 3) L st (ev_emb m') Q) : ev_E G k b u pc L (a1 :: a0 :: st) (ev_emb m) Q := ev_cSN (host := "HelmHand") (As := [a0, a1]) (by rw [hc]; exact List.mem_of_getElem? (i := 25) rfl) mi_X9_copyRow rfl d hb hs rfl hC kk
theorem cl0_X7_26 {G : ev_G} {k : ev_K} {b : ev_B} {u : Nat × Nat} {pc : Nat} {L : List (Option ev_V)} {st : List ev_V} {m : ev_m} {Q : Option ev_V → ev_M → Prop} {fr lo : Nat} {m' : ev_m} {a0 a1 a2 : ev_V} (hc : k.2.1.cls = "HelmHand$Watch") (d : decode k.1 pc = .ok (.invokestatic 26, 3)) (hb : fr + 1 ≤ b.1 ∧ 22 + lo ≤ b.2.1) (hs : ev_cats st ≤ 8) (hC : ev_CF G K_X9_put (fr, lo, 0, 0) [a0, a1, a2] m none m') (kk : ev_E G k b u (pc + 3) L st (ev_emb m') Q) : ev_E G k b u pc L (a2 :: a1 :: a0 :: st) (ev_emb m) Q := ev_cSN (host := "HelmHand") (As := [a0, a1, a2]) (by rw [hc]; exact List.mem_of_getElem? (i := 19) rfl) mi_X9_put rfl d hb hs rfl hC kk
theorem wl_X8_101 : Cond.methodLink "HelmHand$Wheel" 101 yX5_seaOf ∈ ev_GW := tm_4 (List.mem_of_getElem? (i := 77) rfl) rfl
theorem cl1_X8_101 {G : ev_G} {k : ev_K} {b : ev_B} {u : Nat × Nat} {pc : Nat} {L : List (Option ev_V)} {st : List ev_V} {m : ev_m} {Q : Option ev_V → ev_M → Prop} {i fr lo : Nat} {m' : ev_m} {a0 : ev_V} {v : ev_V} (hc : k.2.1.cls = "HelmHand$Wheel") (d : decode k.1 pc = .ok (.invokevirtual 101, 3)) (hb : fr + 1 ≤ b.1 ∧ 21 + lo ≤ b.2.1) (hs : ev_cats st ≤ 8) (hC : ev_CF G K_X5_seaOf (fr, lo, 0, 0) [vr 3 i, a0] m (some v) m') (kk : ev_E G k b u (pc + 3) L (v :: st) (ev_emb m') Q) : ev_E G k b u pc L (a0 :: vr 3 i :: st) (ev_emb m) Q := ev_cV1 (As := [a0]) (ci := 5) (hc ▸ wl_X8_101) mi_X5_seaOf rfl rfl rfl d hb hs rfl hC kk
theorem wl_X8_117 : Cond.methodLink "HelmHand$Wheel" 117 yX8_cost ∈ ev_GW := tm_4 (List.mem_of_getElem? (i := 90) rfl) rfl
theorem cl1_X8_117 {G : ev_G} {k : ev_K} {b : ev_B} {u : Nat × Nat} {pc : Nat} {L : List (Option ev_V)} {st : List ev_V} {m : ev_m} {Q : Option ev_V → ev_M → Prop} {i fr lo : Nat} {m' : ev_m} {v : ev_V} (hc : k.2.1.cls = "HelmHand$Wheel") (d : decode k.1 pc = .ok (.invokevirtual 117, 3)) (hb : fr + 1 ≤ b.1 ∧ 23 + lo ≤ b.2.1) (hs : ev_cats st ≤ 8) (hC : ev_CF G K_X8_cost (fr, lo, 0, 0) [vr 8 i] m (some v) m') (kk : ev_E G k b u (pc + 3) L (v :: st) (ev_emb m') Q) : ev_E G k b u pc L (vr 8 i :: st) (ev_emb m) Q := ev_cV1 (As := []) (ci := 8) (hc ▸ wl_X8_117) mi_X8_cost rfl rfl rfl d hb hs rfl hC kk
theorem wl_X8_121 : Cond.methodLink "HelmHand$Wheel" 121 yX8_off ∈ ev_GW := tm_4 (List.mem_of_getElem? (i := 109) rfl) rfl
theorem cl1_X8_121 {G : ev_G} {k : ev_K} {b : ev_B} {u : Nat × Nat} {pc : Nat} {L : List (Option ev_V)} {st : List ev_V} {m : ev_m} {Q : Option ev_V → ev_M → Prop} {i fr lo : Nat} {m' : ev_m} {v : ev_V} (hc : k.2.1.cls = "HelmHand$Wheel") (d : decode k.1 pc = .ok (.invokevirtual 121, 3)) (hb : fr + 1 ≤ b.1 ∧ 23 + lo ≤ b.2.1) (hs : ev_cats st ≤ 8) (hC : ev_CF G K_X8_off (fr, lo, 0, 0) [vr 8 i] m (some v) m') (kk : ev_E G k b u (pc + 3) L (v :: st) (ev_emb m') Q) : ev_E G k b u pc L (vr 8 i :: st) (ev_emb m) Q := ev_cV1 (As := []) (ci := 8) (hc ▸ wl_X8_121) mi_X8_off rfl rfl rfl d hb hs rfl hC kk
theorem wl_X8_124 : Cond.methodLink "HelmHand$Wheel" 124 yX8_wear ∈ ev_GW := tm_4 (List.mem_of_getElem? (i := 113) rfl) rfl
theorem cl1_X8_124 {G : ev_G} {k : ev_K} {b : ev_B} {u : Nat × Nat} {pc : Nat} {L : List (Option ev_V)} {st : List ev_V} {m : ev_m} {Q : Option ev_V → ev_M → Prop} {i fr lo : Nat} {m' : ev_m} {v : ev_V} (hc : k.2.1.cls = "HelmHand$Wheel") (d : decode k.1 pc = .ok (.invokevirtual 124, 3)) (hb : fr + 1 ≤ b.1 ∧ 23 + lo ≤ b.2.1) (hs : ev_cats st ≤ 8) (hC : ev_CF G K_X8_wear (fr, lo, 0, 0) [vr 8 i] m (some v) m') (kk : ev_E G k b u (pc + 3) L (v :: st) (ev_emb m') Q) : ev_E G k b u pc L (vr 8 i :: st) (ev_emb m) Q := ev_cV1 (As := []) (ci := 8) (hc ▸ wl_X8_124) mi_X8_wear rfl rfl rfl d hb hs rfl hC kk
theorem wl_X8_127 : Cond.methodLink "HelmHand$Wheel" 127 yX8_lost ∈ ev_GW := tm_4 (List.mem_of_getElem? (i := 117) rfl) rfl
theorem cl1_X8_127 {G : ev_G} {k : ev_K} {b : ev_B} {u : Nat × Nat} {pc : Nat} {L : List (Option ev_V)} {st : List ev_V} {m : ev_m} {Q : Option ev_V → ev_M → Prop} {i fr lo : Nat} {m' : ev_m} {v : ev_V} (hc : k.2.1.cls = "HelmHand$Wheel") (d : decode k.1 pc = .ok (.invokevirtual 127, 3)) (hb : fr + 1 ≤ b.1 ∧ 23 + lo ≤ b.2.1) (hs : ev_cats st ≤ 8) (hC : ev_CF G K_X8_lost (fr, lo, 0, 0) [vr 8 i] m (some v) m') (kk : ev_E G k b u (pc + 3) L (v :: st) (ev_emb m') Q) : ev_E G k b u pc L (vr 8 i :: st) (ev_emb m) Q := ev_cV1 (As := []) (ci := 8) (hc ▸ wl_X8_127) mi_X8_lost rfl rfl rfl d hb hs rfl hC kk
theorem wl_X8_130 : Cond.methodLink "HelmHand$Wheel" 130 yX8_widest ∈ ev_GW := tm_4 (List.mem_of_getElem? (i := 121) rfl) rfl
theorem cl1_X8_130 {G : ev_G} {k : ev_K} {b : ev_B} {u : Nat × Nat} {pc : Nat} {L : List (Option ev_V)} {st : List ev_V} {m : ev_m} {Q : Option ev_V → ev_M → Prop} {i fr lo : Nat} {m' : ev_m} {v : ev_V} (hc : k.2.1.cls = "HelmHand$Wheel") (d : decode k.1 pc = .ok (.invokevirtual 130, 3)) (hb : fr + 1 ≤ b.1 ∧ 22 + lo ≤ b.2.1) (hs : ev_cats st ≤ 8) (hC : ev_CF G K_X8_widest (fr, lo, 0, 0) [vr 8 i] m (some v) m') (kk : ev_E G k b u (pc + 3) L (v :: st) (ev_emb m') Q) : ev_E G k b u pc L (vr 8 i :: st) (ev_emb m) Q := ev_cV1 (As := []) (ci := 8) (hc ▸ wl_X8_130) mi_X8_widest rfl rfl rfl d hb hs rfl hC kk
theorem wl_X8_133 : Cond.methodLink "HelmHand$Wheel" 133 yX8_drift ∈ ev_GW := tm_4 (List.mem_of_getElem? (i := 125) rfl) rfl
theorem cl1_X8_133 {G : ev_G} {k : ev_K} {b : ev_B} {u : Nat × Nat} {pc : Nat} {L : List (Option ev_V)} {st : List ev_V} {m : ev_m} {Q : Option ev_V → ev_M → Prop} {i fr lo : Nat} {m' : ev_m} {v : ev_V} (hc : k.2.1.cls = "HelmHand$Wheel") (d : decode k.1 pc = .ok (.invokevirtual 133, 3)) (hb : fr + 1 ≤ b.1 ∧ 23 + lo ≤ b.2.1) (hs : ev_cats st ≤ 8) (hC : ev_CF G K_X8_drift (fr, lo, 0, 0) [vr 8 i] m (some v) m') (kk : ev_E G k b u (pc + 3) L (v :: st) (ev_emb m') Q) : ev_E G k b u pc L (vr 8 i :: st) (ev_emb m) Q := ev_cV1 (As := []) (ci := 8) (hc ▸ wl_X8_133) mi_X8_drift rfl rfl rfl d hb hs rfl hC kk
theorem wl_X8_136 : Cond.methodLink "HelmHand$Wheel" 136 yX8_crossings ∈ ev_GW := tm_4 (List.mem_of_getElem? (i := 129) rfl) rfl
theorem cl1_X8_136 {G : ev_G} {k : ev_K} {b : ev_B} {u : Nat × Nat} {pc : Nat} {L : List (Option ev_V)} {st : List ev_V} {m : ev_m} {Q : Option ev_V → ev_M → Prop} {i fr lo : Nat} {m' : ev_m} {v : ev_V} (hc : k.2.1.cls = "HelmHand$Wheel") (d : decode k.1 pc = .ok (.invokevirtual 136, 3)) (hb : fr + 1 ≤ b.1 ∧ 23 + lo ≤ b.2.1) (hs : ev_cats st ≤ 8) (hC : ev_CF G K_X8_crossings (fr, lo, 0, 0) [vr 8 i] m (some v) m') (kk : ev_E G k b u (pc + 3) L (v :: st) (ev_emb m') Q) : ev_E G k b u pc L (vr 8 i :: st) (ev_emb m) Q := ev_cV1 (As := []) (ci := 8) (hc ▸ wl_X8_136) mi_X8_crossings rfl rfl rfl d hb hs rfl hC kk
theorem wl_X8_139 : Cond.methodLink "HelmHand$Wheel" 139 yX8_grows ∈ ev_GW := tm_4 (List.mem_of_getElem? (i := 140) rfl) rfl
theorem cl1_X8_139 {G : ev_G} {k : ev_K} {b : ev_B} {u : Nat × Nat} {pc : Nat} {L : List (Option ev_V)} {st : List ev_V} {m : ev_m} {Q : Option ev_V → ev_M → Prop} {i fr lo : Nat} {m' : ev_m} {v : ev_V} (hc : k.2.1.cls = "HelmHand$Wheel") (d : decode k.1 pc = .ok (.invokevirtual 139, 3)) (hb : fr + 1 ≤ b.1 ∧ 21 + lo ≤ b.2.1) (hs : ev_cats st ≤ 8) (hC : ev_CF G K_X8_grows (fr, lo, 0, 0) [vr 8 i] m (some v) m') (kk : ev_E G k b u (pc + 3) L (v :: st) (ev_emb m') Q) : ev_E G k b u pc L (vr 8 i :: st) (ev_emb m) Q := ev_cV1 (As := []) (ci := 8) (hc ▸ wl_X8_139) mi_X8_grows rfl rfl rfl d hb hs rfl hC kk
theorem wl_X8_143 : Cond.methodLink "HelmHand$Wheel" 143 yX8_spokes ∈ ev_GW := tm_4 (List.mem_of_getElem? (i := 148) rfl) rfl
theorem cl1_X8_143 {G : ev_G} {k : ev_K} {b : ev_B} {u : Nat × Nat} {pc : Nat} {L : List (Option ev_V)} {st : List ev_V} {m : ev_m} {Q : Option ev_V → ev_M → Prop} {i fr lo : Nat} {m' : ev_m} {v : ev_V} (hc : k.2.1.cls = "HelmHand$Wheel") (d : decode k.1 pc = .ok (.invokevirtual 143, 3)) (hb : fr + 1 ≤ b.1 ∧ 22 + lo ≤ b.2.1) (hs : ev_cats st ≤ 8) (hC : ev_CF G K_X8_spokes (fr, lo, 0, 0) [vr 8 i] m (some v) m') (kk : ev_E G k b u (pc + 3) L (v :: st) (ev_emb m') Q) : ev_E G k b u pc L (vr 8 i :: st) (ev_emb m) Q := ev_cV1 (As := []) (ci := 8) (hc ▸ wl_X8_143) mi_X8_spokes rfl rfl rfl d hb hs rfl hC kk
theorem wl_X8_146 : Cond.methodLink "HelmHand$Wheel" 146 yX8_waits ∈ ev_GW := tm_4 (List.mem_of_getElem? (i := 152) rfl) rfl
theorem cl1_X8_146 {G : ev_G} {k : ev_K} {b : ev_B} {u : Nat × Nat} {pc : Nat} {L : List (Option ev_V)} {st : List ev_V} {m : ev_m} {Q : Option ev_V → ev_M → Prop} {i fr lo : Nat} {m' : ev_m} {v : ev_V} (hc : k.2.1.cls = "HelmHand$Wheel") (d : decode k.1 pc = .ok (.invokevirtual 146, 3)) (hb : fr + 1 ≤ b.1 ∧ 23 + lo ≤ b.2.1) (hs : ev_cats st ≤ 8) (hC : ev_CF G K_X8_waits (fr, lo, 0, 0) [vr 8 i] m (some v) m') (kk : ev_E G k b u (pc + 3) L (v :: st) (ev_emb m') Q) : ev_E G k b u pc L (vr 8 i :: st) (ev_emb m) Q := ev_cV1 (As := []) (ci := 8) (hc ▸ wl_X8_146) mi_X8_waits rfl rfl rfl d hb hs rfl hC kk
theorem wl_X8_154 : Cond.methodLink "HelmHand$Wheel" 154 yX8_offAt ∈ ev_GW := tm_4 (List.mem_of_getElem? (i := 98) rfl) rfl
theorem cl1_X8_154 {G : ev_G} {k : ev_K} {b : ev_B} {u : Nat × Nat} {pc : Nat} {L : List (Option ev_V)} {st : List ev_V} {m : ev_m} {Q : Option ev_V → ev_M → Prop} {i fr lo : Nat} {m' : ev_m} {a0 : ev_V} {v : ev_V} (hc : k.2.1.cls = "HelmHand$Wheel") (d : decode k.1 pc = .ok (.invokevirtual 154, 3)) (hb : fr + 1 ≤ b.1 ∧ 21 + lo ≤ b.2.1) (hs : ev_cats st ≤ 8) (hC : ev_CF G K_X8_offAt (fr, lo, 0, 0) [vr 8 i, a0] m (some v) m') (kk : ev_E G k b u (pc + 3) L (v :: st) (ev_emb m') Q) : ev_E G k b u pc L (a0 :: vr 8 i :: st) (ev_emb m) Q := ev_cV1 (As := [a0]) (ci := 8) (hc ▸ wl_X8_154) mi_X8_offAt rfl rfl rfl d hb hs rfl hC kk
theorem wl_X8_160 : Cond.methodLink "HelmHand$Wheel" 160 yX8_turnedAt ∈ ev_GW := tm_4 (List.mem_of_getElem? (i := 105) rfl) rfl
theorem cl1_X8_160 {G : ev_G} {k : ev_K} {b : ev_B} {u : Nat × Nat} {pc : Nat} {L : List (Option ev_V)} {st : List ev_V} {m : ev_m} {Q : Option ev_V → ev_M → Prop} {i fr lo : Nat} {m' : ev_m} {a0 : ev_V} {v : ev_V} (hc : k.2.1.cls = "HelmHand$Wheel") (d : decode k.1 pc = .ok (.invokevirtual 160, 3)) (hb : fr + 1 ≤ b.1 ∧ 21 + lo ≤ b.2.1) (hs : ev_cats st ≤ 8) (hC : ev_CF G K_X8_turnedAt (fr, lo, 0, 0) [vr 8 i, a0] m (some v) m') (kk : ev_E G k b u (pc + 3) L (v :: st) (ev_emb m') Q) : ev_E G k b u pc L (a0 :: vr 8 i :: st) (ev_emb m) Q := ev_cV1 (As := [a0]) (ci := 8) (hc ▸ wl_X8_160) mi_X8_turnedAt rfl rfl rfl d hb hs rfl hC kk
theorem wl_X8_163 : Cond.methodLink "HelmHand$Wheel" 163 yX8_costAt ∈ ev_GW := tm_4 (List.mem_of_getElem? (i := 94) rfl) rfl
theorem cl1_X8_163 {G : ev_G} {k : ev_K} {b : ev_B} {u : Nat × Nat} {pc : Nat} {L : List (Option ev_V)} {st : List ev_V} {m : ev_m} {Q : Option ev_V → ev_M → Prop} {i fr lo : Nat} {m' : ev_m} {a0 : ev_V} {v : ev_V} (hc : k.2.1.cls = "HelmHand$Wheel") (d : decode k.1 pc = .ok (.invokevirtual 163, 3)) (hb : fr + 1 ≤ b.1 ∧ 21 + lo ≤ b.2.1) (hs : ev_cats st ≤ 8) (hC : ev_CF G K_X8_costAt (fr, lo, 0, 0) [vr 8 i, a0] m (some v) m') (kk : ev_E G k b u (pc + 3) L (v :: st) (ev_emb m') Q) : ev_E G k b u pc L (a0 :: vr 8 i :: st) (ev_emb m) Q := ev_cV1 (As := [a0]) (ci := 8) (hc ▸ wl_X8_163) mi_X8_costAt rfl rfl rfl d hb hs rfl hC kk
theorem wl_X8_167 : Cond.methodLink "HelmHand$Wheel" 167 yJ6_compare_7cf53 ∈ ev_GW := tm_4 (List.mem_of_getElem? (i := 137) rfl) rfl
theorem cl1_X8_167 {G : ev_G} {k : ev_K} {b : ev_B} {u : Nat × Nat} {pc : Nat} {L : List (Option ev_V)} {st : List ev_V} {m : ev_m} {Q : Option ev_V → ev_M → Prop} {fr lo : Nat} {m' : ev_m} {a0 a1 : ev_V} {v : ev_V} (hc : k.2.1.cls = "HelmHand$Wheel") (d : decode k.1 pc = .ok (.invokestatic 167, 3)) (hb : fr + 1 ≤ b.1 ∧ 21 + lo ≤ b.2.1) (hs : ev_cats st ≤ 8) (hC : ev_CF G K_J6_compare_7cf53 (fr, lo, 0, 0) [a0, a1] m (some v) m') (kk : ev_E G k b u (pc + 3) L (v :: st) (ev_emb m') Q) : ev_E G k b u pc L (a1 :: a0 :: st) (ev_emb m) Q := ev_cS (As := [a0, a1]) (hc ▸ wl_X8_167) mi_J6_compare_7cf53 rfl d hb hs rfl hC kk
theorem wl_X8_172 : Cond.methodLink "HelmHand$Wheel" 172 yX8_signAt ∈ ev_GW := tm_4 (List.mem_of_getElem? (i := 133) rfl) rfl
theorem cl1_X8_172 {G : ev_G} {k : ev_K} {b : ev_B} {u : Nat × Nat} {pc : Nat} {L : List (Option ev_V)} {st : List ev_V} {m : ev_m} {Q : Option ev_V → ev_M → Prop} {i fr lo : Nat} {m' : ev_m} {a0 : ev_V} {v : ev_V} (hc : k.2.1.cls = "HelmHand$Wheel") (d : decode k.1 pc = .ok (.invokevirtual 172, 3)) (hb : fr + 1 ≤ b.1 ∧ 21 + lo ≤ b.2.1) (hs : ev_cats st ≤ 8) (hC : ev_CF G K_X8_signAt (fr, lo, 0, 0) [vr 8 i, a0] m (some v) m') (kk : ev_E G k b u (pc + 3) L (v :: st) (ev_emb m') Q) : ev_E G k b u pc L (a0 :: vr 8 i :: st) (ev_emb m) Q := ev_cV1 (As := [a0]) (ci := 8) (hc ▸ wl_X8_172) mi_X8_signAt rfl rfl rfl d hb hs rfl hC kk
theorem wl_X8_175 : Cond.methodLink "HelmHand$Wheel" 175 yX8_peakAt ∈ ev_GW := tm_4 (List.mem_of_getElem? (i := 144) rfl) rfl
theorem cl1_X8_175 {G : ev_G} {k : ev_K} {b : ev_B} {u : Nat × Nat} {pc : Nat} {L : List (Option ev_V)} {st : List ev_V} {m : ev_m} {Q : Option ev_V → ev_M → Prop} {i fr lo : Nat} {m' : ev_m} {a0 : ev_V} {v : ev_V} (hc : k.2.1.cls = "HelmHand$Wheel") (d : decode k.1 pc = .ok (.invokevirtual 175, 3)) (hb : fr + 1 ≤ b.1 ∧ 25 + lo ≤ b.2.1) (hs : ev_cats st ≤ 8) (hC : ev_CF G K_X8_peakAt (fr, lo, 0, 0) [vr 8 i, a0] m (some v) m') (kk : ev_E G k b u (pc + 3) L (v :: st) (ev_emb m') Q) : ev_E G k b u pc L (a0 :: vr 8 i :: st) (ev_emb m) Q := ev_cV1 (As := [a0]) (ci := 8) (hc ▸ wl_X8_175) mi_X8_peakAt rfl rfl rfl d hb hs rfl hC kk
theorem wl_X8_34 : Cond.methodLink "HelmHand$Wheel" 34 yX8_begin ∈ ev_GW := tm_4 (List.mem_of_getElem? (i := 18) rfl) rfl
theorem cl0_X8_34 {G : ev_G} {k : ev_K} {b : ev_B} {u : Nat × Nat} {pc : Nat} {L : List (Option ev_V)} {st : List ev_V} {m : ev_m} {Q : Option ev_V → ev_M → Prop} {i fr lo : Nat} {m' : ev_m} {a0 a1 : ev_V} (hc : k.2.1.cls = "HelmHand$Wheel") (d : decode k.1 pc = .ok (.invokevirtual 34, 3)) (hb : fr + 1 ≤ b.1 ∧ 22 + lo ≤ b.2.1) (hs : ev_cats st ≤ 8) (hC : ev_CF G K_X8_begin (fr, lo, 0, 0) [vr 8 i, a0, a1] m none m') (kk : ev_E G k b u (pc + 3) L st (ev_emb m') Q) : ev_E G k b u pc L (a1 :: a0 :: vr 8 i :: st) (ev_emb m) Q := ev_cV0 (As := [a0, a1]) (ci := 8) (hc ▸ wl_X8_34) mi_X8_begin rfl rfl rfl d hb hs rfl hC kk
theorem wl_X8_38 : Cond.methodLink "HelmHand$Wheel" 38 yX8_steer ∈ ev_GW := tm_4 (List.mem_of_getElem? (i := 23) rfl) rfl
theorem cl0_X8_38 {G : ev_G} {k : ev_K} {b : ev_B} {u : Nat × Nat} {pc : Nat} {L : List (Option ev_V)} {st : List ev_V} {m : ev_m} {Q : Option ev_V → ev_M → Prop} {i fr lo : Nat} {m' : ev_m} {a0 a1 : ev_V} (hc : k.2.1.cls = "HelmHand$Wheel") (d : decode k.1 pc = .ok (.invokevirtual 38, 3)) (hb : fr + 1 ≤ b.1 ∧ 23 + lo ≤ b.2.1) (hs : ev_cats st ≤ 8) (hC : ev_CF G K_X8_steer (fr, lo, 0, 0) [vr 8 i, a0, a1] m none m') (kk : ev_E G k b u (pc + 3) L st (ev_emb m') Q) : ev_E G k b u pc L (a1 :: a0 :: vr 8 i :: st) (ev_emb m) Q := ev_cV0 (As := [a0, a1]) (ci := 8) (hc ▸ wl_X8_38) mi_X8_steer rfl rfl rfl d hb hs rfl hC kk
theorem cl0_X8_58 {G : ev_G} {k : ev_K} {b : ev_B} {u : Nat × Nat} {pc : Nat} {L : List (Option ev_V)} {st : List ev_V} {m : ev_m} {Q : Option ev_V → ev_M → Prop} {fr lo : Nat} {m' : ev_m} {a0 a1 a2 : ev_V} (hc : k.2.1.cls = "HelmHand$Wheel") (d : decode k.1 pc = .ok (.invokestatic 58, 3)) (hb : fr + 1 ≤ b.1 ∧ 22 + lo ≤ b.2.1) (hs : ev_cats st ≤ 8) (hC : ev_CF G K_X9_put (fr, lo, 0, 0) [a0, a1, a2] m none m') (kk : ev_E G k b u (pc + 3) L st (ev_emb m') Q) : ev_E G k b u pc L (a2 :: a1 :: a0 :: st) (ev_emb m) Q := ev_cSN (host := "HelmHand") (As := [a0, a1, a2]) (by rw [hc]; exact List.mem_of_getElem? (i := 26) rfl) mi_X9_put rfl d hb hs rfl hC kk
theorem wl_X8_65 : Cond.methodLink "HelmHand$Wheel" 65 yX2_relieve ∈ ev_GW := tm_4 (List.mem_of_getElem? (i := 27) rfl) rfl
theorem cl0_X8_65 {G : ev_G} {k : ev_K} {b : ev_B} {u : Nat × Nat} {pc : Nat} {L : List (Option ev_V)} {st : List ev_V} {m : ev_m} {Q : Option ev_V → ev_M → Prop} {i fr lo : Nat} {m' : ev_m} {a0 : ev_V} (hc : k.2.1.cls = "HelmHand$Wheel") (d : decode k.1 pc = .ok (.invokevirtual 65, 3)) (hb : fr + 1 ≤ b.1 ∧ 21 + lo ≤ b.2.1) (hs : ev_cats st ≤ 8) (hC : ev_CF G K_X2_relieve (fr, lo, 0, 0) [vr 9 i, a0] m none m') (kk : ev_E G k b u (pc + 3) L st (ev_emb m') Q) : ev_E G k b u pc L (a0 :: vr 9 i :: st) (ev_emb m) Q := ev_cV0 (As := [a0]) (ci := 2) (hc ▸ wl_X8_65) mi_X2_relieve rfl rfl rfl d hb hs rfl hC kk
theorem wl_X8_69 : Cond.methodLink "HelmHand$Wheel" 69 yX2_wants ∈ ev_GW := tm_4 (List.mem_of_getElem? (i := 31) rfl) rfl
theorem cl1_X8_69 {G : ev_G} {k : ev_K} {b : ev_B} {u : Nat × Nat} {pc : Nat} {L : List (Option ev_V)} {st : List ev_V} {m : ev_m} {Q : Option ev_V → ev_M → Prop} {i fr lo : Nat} {m' : ev_m} {a0 : ev_V} {v : ev_V} (hc : k.2.1.cls = "HelmHand$Wheel") (d : decode k.1 pc = .ok (.invokevirtual 69, 3)) (hb : fr + 1 ≤ b.1 ∧ 25 + lo ≤ b.2.1) (hs : ev_cats st ≤ 8) (hC : ev_CF G K_X2_wants (fr, lo, 0, 0) [vr 9 i, a0] m (some v) m') (kk : ev_E G k b u (pc + 3) L (v :: st) (ev_emb m') Q) : ev_E G k b u pc L (a0 :: vr 9 i :: st) (ev_emb m) Q := ev_cV1 (As := [a0]) (ci := 2) (hc ▸ wl_X8_69) mi_X2_wants rfl rfl rfl d hb hs rfl hC kk
theorem wl_X8_73 : Cond.methodLink "HelmHand$Wheel" 73 yX8_move ∈ ev_GW := tm_4 (List.mem_of_getElem? (i := 71) rfl) rfl
theorem cl0_X8_73 {G : ev_G} {k : ev_K} {b : ev_B} {u : Nat × Nat} {pc : Nat} {L : List (Option ev_V)} {st : List ev_V} {m : ev_m} {Q : Option ev_V → ev_M → Prop} {i fr lo : Nat} {m' : ev_m} {a0 : ev_V} (hc : k.2.1.cls = "HelmHand$Wheel") (d : decode k.1 pc = .ok (.invokevirtual 73, 3)) (hb : fr + 1 ≤ b.1 ∧ 24 + lo ≤ b.2.1) (hs : ev_cats st ≤ 8) (hC : ev_CF G K_X8_move (fr, lo, 0, 0) [vr 8 i, a0] m none m') (kk : ev_E G k b u (pc + 3) L st (ev_emb m') Q) : ev_E G k b u pc L (a0 :: vr 8 i :: st) (ev_emb m) Q := ev_cV0 (As := [a0]) (ci := 8) (hc ▸ wl_X8_73) mi_X8_move rfl rfl rfl d hb hs rfl hC kk
theorem cl1_X8_77 {G : ev_G} {k : ev_K} {b : ev_B} {u : Nat × Nat} {pc : Nat} {L : List (Option ev_V)} {st : List ev_V} {m : ev_m} {Q : Option ev_V → ev_M → Prop} {fr lo : Nat} {m' : ev_m} {a0 a1 : ev_V} {v : ev_V} (hc : k.2.1.cls = "HelmHand$Wheel") (d : decode k.1 pc = .ok (.invokestatic 77, 3)) (hb : fr + 1 ≤ b.1 ∧ 21 + lo ≤ b.2.1) (hs : ev_cats st ≤ 8) (hC : ev_CF G K_X9_at (fr, lo, 0, 0) [a0, a1] m (some v) m') (kk : ev_E G k b u (pc + 3) L (v :: st) (ev_emb m') Q) : ev_E G k b u pc L (a1 :: a0 :: st) (ev_emb m) Q := ev_cSN (host := "HelmHand") (As := [a0, a1]) (by rw [hc]; exact List.mem_of_getElem? (i := 27) rfl) mi_X9_at rfl d hb hs rfl hC kk
theorem wl_X8_81 : Cond.methodLink "HelmHand$Wheel" 81 yX8_rudderNow ∈ ev_GW := tm_4 (List.mem_of_getElem? (i := 75) rfl) rfl
theorem cl1_X8_81 {G : ev_G} {k : ev_K} {b : ev_B} {u : Nat × Nat} {pc : Nat} {L : List (Option ev_V)} {st : List ev_V} {m : ev_m} {Q : Option ev_V → ev_M → Prop} {i fr lo : Nat} {m' : ev_m} {v : ev_V} (hc : k.2.1.cls = "HelmHand$Wheel") (d : decode k.1 pc = .ok (.invokevirtual 81, 3)) (hb : fr + 1 ≤ b.1 ∧ 20 + lo ≤ b.2.1) (hs : ev_cats st ≤ 8) (hC : ev_CF G K_X8_rudderNow (fr, lo, 0, 0) [vr 8 i] m (some v) m') (kk : ev_E G k b u (pc + 3) L (v :: st) (ev_emb m') Q) : ev_E G k b u pc L (vr 8 i :: st) (ev_emb m) Q := ev_cV1 (As := []) (ci := 8) (hc ▸ wl_X8_81) mi_X8_rudderNow rfl rfl rfl d hb hs rfl hC kk
theorem cl1_X8_88 {G : ev_G} {k : ev_K} {b : ev_B} {u : Nat × Nat} {pc : Nat} {L : List (Option ev_V)} {st : List ev_V} {m : ev_m} {Q : Option ev_V → ev_M → Prop} {fr lo : Nat} {m' : ev_m} {a0 a1 : ev_V} {v : ev_V} (hc : k.2.1.cls = "HelmHand$Wheel") (d : decode k.1 pc = .ok (.invokestatic 88, 3)) (hb : fr + 1 ≤ b.1 ∧ 21 + lo ≤ b.2.1) (hs : ev_cats st ≤ 8) (hC : ev_CF G K_X9_within (fr, lo, 0, 0) [a0, a1] m (some v) m') (kk : ev_E G k b u (pc + 3) L (v :: st) (ev_emb m') Q) : ev_E G k b u pc L (a1 :: a0 :: st) (ev_emb m) Q := ev_cSN (host := "HelmHand") (As := [a0, a1]) (by rw [hc]; exact List.mem_of_getElem? (i := 29) rfl) mi_X9_within rfl d hb hs rfl hC kk
theorem wl_X9_100 : Cond.methodLink "HelmHand" 100 yX0_paperAt ∈ ev_GW := tm_3 (List.mem_of_getElem? (i := 239) rfl) rfl
theorem cl1_X9_100 {G : ev_G} {k : ev_K} {b : ev_B} {u : Nat × Nat} {pc : Nat} {L : List (Option ev_V)} {st : List ev_V} {m : ev_m} {Q : Option ev_V → ev_M → Prop} {i fr lo : Nat} {m' : ev_m} {a0 : ev_V} {v : ev_V} (hc : k.2.1.cls = "HelmHand") (d : decode k.1 pc = .ok (.invokevirtual 100, 3)) (hb : fr + 1 ≤ b.1 ∧ 21 + lo ≤ b.2.1) (hs : ev_cats st ≤ 8) (hC : ev_CF G K_X0_paperAt (fr, lo, 0, 0) [vr 1 i, a0] m (some v) m') (kk : ev_E G k b u (pc + 3) L (v :: st) (ev_emb m') Q) : ev_E G k b u pc L (a0 :: vr 1 i :: st) (ev_emb m) Q := ev_cV1 (As := [a0]) (ci := 0) (hc ▸ wl_X9_100) mi_X0_paperAt rfl rfl rfl d hb hs rfl hC kk
theorem wl_X9_113 : Cond.methodLink "HelmHand" 113 yX9_at ∈ ev_GW := tm_4 (List.mem_of_getElem? (i := 0) rfl) rfl
theorem cl1_X9_113 {G : ev_G} {k : ev_K} {b : ev_B} {u : Nat × Nat} {pc : Nat} {L : List (Option ev_V)} {st : List ev_V} {m : ev_m} {Q : Option ev_V → ev_M → Prop} {fr lo : Nat} {m' : ev_m} {a0 a1 : ev_V} {v : ev_V} (hc : k.2.1.cls = "HelmHand") (d : decode k.1 pc = .ok (.invokestatic 113, 3)) (hb : fr + 1 ≤ b.1 ∧ 21 + lo ≤ b.2.1) (hs : ev_cats st ≤ 8) (hC : ev_CF G K_X9_at (fr, lo, 0, 0) [a0, a1] m (some v) m') (kk : ev_E G k b u (pc + 3) L (v :: st) (ev_emb m') Q) : ev_E G k b u pc L (a1 :: a0 :: st) (ev_emb m) Q := ev_cS (As := [a0, a1]) (hc ▸ wl_X9_113) mi_X9_at rfl d hb hs rfl hC kk
theorem wl_X9_117 : Cond.methodLink "HelmHand" 117 yX0_watchAt ∈ ev_GW := tm_4 (List.mem_of_getElem? (i := 5) rfl) rfl
theorem cl1_X9_117 {G : ev_G} {k : ev_K} {b : ev_B} {u : Nat × Nat} {pc : Nat} {L : List (Option ev_V)} {st : List ev_V} {m : ev_m} {Q : Option ev_V → ev_M → Prop} {i fr lo : Nat} {m' : ev_m} {a0 : ev_V} {v : ev_V} (hc : k.2.1.cls = "HelmHand") (d : decode k.1 pc = .ok (.invokevirtual 117, 3)) (hb : fr + 1 ≤ b.1 ∧ 21 + lo ≤ b.2.1) (hs : ev_cats st ≤ 8) (hC : ev_CF G K_X0_watchAt (fr, lo, 0, 0) [vr 1 i, a0] m (some v) m') (kk : ev_E G k b u (pc + 3) L (v :: st) (ev_emb m') Q) : ev_E G k b u pc L (a0 :: vr 1 i :: st) (ev_emb m) Q := ev_cV1 (As := [a0]) (ci := 0) (hc ▸ wl_X9_117) mi_X0_watchAt rfl rfl rfl d hb hs rfl hC kk
theorem wl_X9_132 : Cond.methodLink "HelmHand" 132 yX9_sailed ∈ ev_GW := tm_4 (List.mem_of_getElem? (i := 10) rfl) rfl
theorem cl1_X9_132 {G : ev_G} {k : ev_K} {b : ev_B} {u : Nat × Nat} {pc : Nat} {L : List (Option ev_V)} {st : List ev_V} {m : ev_m} {Q : Option ev_V → ev_M → Prop} {i fr lo : Nat} {m' : ev_m} {a0 a1 a2 a3 : ev_V} {v : ev_V} (hc : k.2.1.cls = "HelmHand") (d : decode k.1 pc = .ok (.invokevirtual 132, 3)) (hb : fr + 1 ≤ b.1 ∧ 26 + lo ≤ b.2.1) (hs : ev_cats st ≤ 8) (hC : ev_CF G K_X9_sailed (fr, lo, 0, 0) [vr 0 i, a0, a1, a2, a3] m (some v) m') (kk : ev_E G k b u (pc + 3) L (v :: st) (ev_emb m') Q) : ev_E G k b u pc L (a3 :: a2 :: a1 :: a0 :: vr 0 i :: st) (ev_emb m) Q := ev_cV1 (As := [a0, a1, a2, a3]) (ci := 9) (hc ▸ wl_X9_132) mi_X9_sailed rfl rfl rfl d hb hs rfl hC kk
theorem wl_X9_148 : Cond.methodLink "HelmHand" 148 yX8_tally ∈ ev_GW := tm_4 (List.mem_of_getElem? (i := 86) rfl) rfl
theorem cl1_X9_148 {G : ev_G} {k : ev_K} {b : ev_B} {u : Nat × Nat} {pc : Nat} {L : List (Option ev_V)} {st : List ev_V} {m : ev_m} {Q : Option ev_V → ev_M → Prop} {i fr lo : Nat} {m' : ev_m} {a0 : ev_V} {v : ev_V} (hc : k.2.1.cls = "HelmHand") (d : decode k.1 pc = .ok (.invokevirtual 148, 3)) (hb : fr + 1 ≤ b.1 ∧ 21 + lo ≤ b.2.1) (hs : ev_cats st ≤ 8) (hC : ev_CF G K_X8_tally (fr, lo, 0, 0) [vr 8 i, a0] m (some v) m') (kk : ev_E G k b u (pc + 3) L (v :: st) (ev_emb m') Q) : ev_E G k b u pc L (a0 :: vr 8 i :: st) (ev_emb m) Q := ev_cV1 (As := [a0]) (ci := 8) (hc ▸ wl_X9_148) mi_X8_tally rfl rfl rfl d hb hs rfl hC kk
theorem wl_X9_152 : Cond.methodLink "HelmHand" 152 yX8_peakAt ∈ ev_GW := tm_4 (List.mem_of_getElem? (i := 161) rfl) rfl
theorem cl1_X9_152 {G : ev_G} {k : ev_K} {b : ev_B} {u : Nat × Nat} {pc : Nat} {L : List (Option ev_V)} {st : List ev_V} {m : ev_m} {Q : Option ev_V → ev_M → Prop} {i fr lo : Nat} {m' : ev_m} {a0 : ev_V} {v : ev_V} (hc : k.2.1.cls = "HelmHand") (d : decode k.1 pc = .ok (.invokevirtual 152, 3)) (hb : fr + 1 ≤ b.1 ∧ 25 + lo ≤ b.2.1) (hs : ev_cats st ≤ 8) (hC : ev_CF G K_X8_peakAt (fr, lo, 0, 0) [vr 8 i, a0] m (some v) m') (kk : ev_E G k b u (pc + 3) L (v :: st) (ev_emb m') Q) : ev_E G k b u pc L (a0 :: vr 8 i :: st) (ev_emb m) Q := ev_cV1 (As := [a0]) (ci := 8) (hc ▸ wl_X9_152) mi_X8_peakAt rfl rfl rfl d hb hs rfl hC kk
theorem wl_X9_155 : Cond.methodLink "HelmHand" 155 yX9_ready ∈ ev_GW := tm_4 (List.mem_of_getElem? (i := 166) rfl) rfl
theorem cl1_X9_155 {G : ev_G} {k : ev_K} {b : ev_B} {u : Nat × Nat} {pc : Nat} {L : List (Option ev_V)} {st : List ev_V} {m : ev_m} {Q : Option ev_V → ev_M → Prop} {i fr lo : Nat} {m' : ev_m} {a0 a1 a2 : ev_V} {v : ev_V} (hc : k.2.1.cls = "HelmHand") (d : decode k.1 pc = .ok (.invokevirtual 155, 3)) (hb : fr + 1 ≤ b.1 ∧ 25 + lo ≤ b.2.1) (hs : ev_cats st ≤ 8) (hC : ev_CF G K_X9_ready (fr, lo, 0, 0) [vr 0 i, a0, a1, a2] m (some v) m') (kk : ev_E G k b u (pc + 3) L (v :: st) (ev_emb m') Q) : ev_E G k b u pc L (a2 :: a1 :: a0 :: vr 0 i :: st) (ev_emb m) Q := ev_cV1 (As := [a0, a1, a2]) (ci := 9) (hc ▸ wl_X9_155) mi_X9_ready rfl rfl rfl d hb hs rfl hC kk
theorem wl_X9_161 : Cond.methodLink "HelmHand" 161 yX9_leastRule ∈ ev_GW := tm_4 (List.mem_of_getElem? (i := 176) rfl) rfl
theorem cl1_X9_161 {G : ev_G} {k : ev_K} {b : ev_B} {u : Nat × Nat} {pc : Nat} {L : List (Option ev_V)} {st : List ev_V} {m : ev_m} {Q : Option ev_V → ev_M → Prop} {i fr lo : Nat} {m' : ev_m} {a0 a1 a2 a3 a4 : ev_V} {v : ev_V} (hc : k.2.1.cls = "HelmHand") (d : decode k.1 pc = .ok (.invokevirtual 161, 3)) (hb : fr + 1 ≤ b.1 ∧ 33 + lo ≤ b.2.1) (hs : ev_cats st ≤ 8) (hC : ev_CF G K_X9_leastRule (fr, lo, 0, 0) [vr 0 i, a0, a1, a2, a3, a4] m (some v) m') (kk : ev_E G k b u (pc + 3) L (v :: st) (ev_emb m') Q) : ev_E G k b u pc L (a4 :: a3 :: a2 :: a1 :: a0 :: vr 0 i :: st) (ev_emb m) Q := ev_cV1 (As := [a0, a1, a2, a3, a4]) (ci := 9) (hc ▸ wl_X9_161) mi_X9_leastRule rfl rfl rfl d hb hs rfl hC kk
theorem wl_X9_167 : Cond.methodLink "HelmHand" 167 yX9_costWith ∈ ev_GW := tm_4 (List.mem_of_getElem? (i := 199) rfl) rfl
theorem cl1_X9_167 {G : ev_G} {k : ev_K} {b : ev_B} {u : Nat × Nat} {pc : Nat} {L : List (Option ev_V)} {st : List ev_V} {m : ev_m} {Q : Option ev_V → ev_M → Prop} {i fr lo : Nat} {m' : ev_m} {a0 a1 a2 : ev_V} {v : ev_V} (hc : k.2.1.cls = "HelmHand") (d : decode k.1 pc = .ok (.invokevirtual 167, 3)) (hb : fr + 1 ≤ b.1 ∧ 23 + lo ≤ b.2.1) (hs : ev_cats st ≤ 8) (hC : ev_CF G K_X9_costWith (fr, lo, 0, 0) [vr 0 i, a0, a1, a2] m (some v) m') (kk : ev_E G k b u (pc + 3) L (v :: st) (ev_emb m') Q) : ev_E G k b u pc L (a2 :: a1 :: a0 :: vr 0 i :: st) (ev_emb m) Q := ev_cV1 (As := [a0, a1, a2]) (ci := 9) (hc ▸ wl_X9_167) mi_X9_costWith rfl rfl rfl d hb hs rfl hC kk
theorem wl_X9_171 : Cond.methodLink "HelmHand" 171 yX9_lagged ∈ ev_GW := tm_4 (List.mem_of_getElem? (i := 207) rfl) rfl
theorem cl1_X9_171 {G : ev_G} {k : ev_K} {b : ev_B} {u : Nat × Nat} {pc : Nat} {L : List (Option ev_V)} {st : List ev_V} {m : ev_m} {Q : Option ev_V → ev_M → Prop} {i fr lo : Nat} {m' : ev_m} {a0 a1 a2 a3 : ev_V} {v : ev_V} (hc : k.2.1.cls = "HelmHand") (d : decode k.1 pc = .ok (.invokevirtual 171, 3)) (hb : fr + 1 ≤ b.1 ∧ 24 + lo ≤ b.2.1) (hs : ev_cats st ≤ 8) (hC : ev_CF G K_X9_lagged (fr, lo, 0, 0) [vr 0 i, a0, a1, a2, a3] m (some v) m') (kk : ev_E G k b u (pc + 3) L (v :: st) (ev_emb m') Q) : ev_E G k b u pc L (a3 :: a2 :: a1 :: a0 :: vr 0 i :: st) (ev_emb m) Q := ev_cV1 (As := [a0, a1, a2, a3]) (ci := 9) (hc ▸ wl_X9_171) mi_X9_lagged rfl rfl rfl d hb hs rfl hC kk
theorem wl_X9_174 : Cond.methodLink "HelmHand" 174 yX9_growsWith ∈ ev_GW := tm_4 (List.mem_of_getElem? (i := 212) rfl) rfl
theorem cl1_X9_174 {G : ev_G} {k : ev_K} {b : ev_B} {u : Nat × Nat} {pc : Nat} {L : List (Option ev_V)} {st : List ev_V} {m : ev_m} {Q : Option ev_V → ev_M → Prop} {i fr lo : Nat} {m' : ev_m} {a0 a1 a2 : ev_V} {v : ev_V} (hc : k.2.1.cls = "HelmHand") (d : decode k.1 pc = .ok (.invokevirtual 174, 3)) (hb : fr + 1 ≤ b.1 ∧ 23 + lo ≤ b.2.1) (hs : ev_cats st ≤ 8) (hC : ev_CF G K_X9_growsWith (fr, lo, 0, 0) [vr 0 i, a0, a1, a2] m (some v) m') (kk : ev_E G k b u (pc + 3) L (v :: st) (ev_emb m') Q) : ev_E G k b u pc L (a2 :: a1 :: a0 :: vr 0 i :: st) (ev_emb m) Q := ev_cV1 (As := [a0, a1, a2]) (ci := 9) (hc ▸ wl_X9_174) mi_X9_growsWith rfl rfl rfl d hb hs rfl hC kk
theorem wl_X9_177 : Cond.methodLink "HelmHand" 177 yX9_isTrial ∈ ev_GW := tm_4 (List.mem_of_getElem? (i := 170) rfl) rfl
theorem cl1_X9_177 {G : ev_G} {k : ev_K} {b : ev_B} {u : Nat × Nat} {pc : Nat} {L : List (Option ev_V)} {st : List ev_V} {m : ev_m} {Q : Option ev_V → ev_M → Prop} {fr lo : Nat} {m' : ev_m} {a0 : ev_V} {v : ev_V} (hc : k.2.1.cls = "HelmHand") (d : decode k.1 pc = .ok (.invokestatic 177, 3)) (hb : fr + 1 ≤ b.1 ∧ 20 + lo ≤ b.2.1) (hs : ev_cats st ≤ 8) (hC : ev_CF G K_X9_isTrial (fr, lo, 0, 0) [a0] m (some v) m') (kk : ev_E G k b u (pc + 3) L (v :: st) (ev_emb m') Q) : ev_E G k b u pc L (a0 :: st) (ev_emb m) Q := ev_cS (As := [a0]) (hc ▸ wl_X9_177) mi_X9_isTrial rfl d hb hs rfl hC kk
theorem wl_X9_181 : Cond.methodLink "HelmHand" 181 yX5_copy ∈ ev_GW := tm_4 (List.mem_of_getElem? (i := 173) rfl) rfl
theorem cl0_X9_181 {G : ev_G} {k : ev_K} {b : ev_B} {u : Nat × Nat} {pc : Nat} {L : List (Option ev_V)} {st : List ev_V} {m : ev_m} {Q : Option ev_V → ev_M → Prop} {i fr lo : Nat} {m' : ev_m} {a0 : ev_V} (hc : k.2.1.cls = "HelmHand") (d : decode k.1 pc = .ok (.invokevirtual 181, 3)) (hb : fr + 1 ≤ b.1 ∧ 22 + lo ≤ b.2.1) (hs : ev_cats st ≤ 8) (hC : ev_CF G K_X5_copy (fr, lo, 0, 0) [vr 3 i, a0] m none m') (kk : ev_E G k b u (pc + 3) L st (ev_emb m') Q) : ev_E G k b u pc L (a0 :: vr 3 i :: st) (ev_emb m) Q := ev_cV0 (As := [a0]) (ci := 5) (hc ▸ wl_X9_181) mi_X5_copy rfl rfl rfl d hb hs rfl hC kk
theorem wl_X9_185 : Cond.methodLink "HelmHand" 185 yX5_write ∈ ev_GW := tm_4 (List.mem_of_getElem? (i := 211) rfl) rfl
theorem cl0_X9_185 {G : ev_G} {k : ev_K} {b : ev_B} {u : Nat × Nat} {pc : Nat} {L : List (Option ev_V)} {st : List ev_V} {m : ev_m} {Q : Option ev_V → ev_M → Prop} {i fr lo : Nat} {m' : ev_m} {a0 a1 : ev_V} (hc : k.2.1.cls = "HelmHand") (d : decode k.1 pc = .ok (.invokevirtual 185, 3)) (hb : fr + 1 ≤ b.1 ∧ 22 + lo ≤ b.2.1) (hs : ev_cats st ≤ 8) (hC : ev_CF G K_X5_write (fr, lo, 0, 0) [vr 3 i, a0, a1] m none m') (kk : ev_E G k b u (pc + 3) L st (ev_emb m') Q) : ev_E G k b u pc L (a1 :: a0 :: vr 3 i :: st) (ev_emb m) Q := ev_cV0 (As := [a0, a1]) (ci := 5) (hc ▸ wl_X9_185) mi_X5_write rfl rfl rfl d hb hs rfl hC kk
theorem wl_X9_189 : Cond.methodLink "HelmHand" 189 yX8_sail ∈ ev_GW := tm_4 (List.mem_of_getElem? (i := 14) rfl) rfl
theorem cl0_X9_189 {G : ev_G} {k : ev_K} {b : ev_B} {u : Nat × Nat} {pc : Nat} {L : List (Option ev_V)} {st : List ev_V} {m : ev_m} {Q : Option ev_V → ev_M → Prop} {i fr lo : Nat} {m' : ev_m} {a0 a1 a2 a3 : ev_V} (hc : k.2.1.cls = "HelmHand") (d : decode k.1 pc = .ok (.invokevirtual 189, 3)) (hb : fr + 1 ≤ b.1 ∧ 24 + lo ≤ b.2.1) (hs : ev_cats st ≤ 8) (hC : ev_CF G K_X8_sail (fr, lo, 0, 0) [vr 8 i, a0, a1, a2, a3] m none m') (kk : ev_E G k b u (pc + 3) L st (ev_emb m') Q) : ev_E G k b u pc L (a3 :: a2 :: a1 :: a0 :: vr 8 i :: st) (ev_emb m) Q := ev_cV0 (As := [a0, a1, a2, a3]) (ci := 8) (hc ▸ wl_X9_189) mi_X8_sail rfl rfl rfl d hb hs rfl hC kk
theorem wl_X9_193 : Cond.methodLink "HelmHand" 193 yX8_widest ∈ ev_GW := tm_4 (List.mem_of_getElem? (i := 221) rfl) rfl
theorem cl1_X9_193 {G : ev_G} {k : ev_K} {b : ev_B} {u : Nat × Nat} {pc : Nat} {L : List (Option ev_V)} {st : List ev_V} {m : ev_m} {Q : Option ev_V → ev_M → Prop} {i fr lo : Nat} {m' : ev_m} {v : ev_V} (hc : k.2.1.cls = "HelmHand") (d : decode k.1 pc = .ok (.invokevirtual 193, 3)) (hb : fr + 1 ≤ b.1 ∧ 22 + lo ≤ b.2.1) (hs : ev_cats st ≤ 8) (hC : ev_CF G K_X8_widest (fr, lo, 0, 0) [vr 8 i] m (some v) m') (kk : ev_E G k b u (pc + 3) L (v :: st) (ev_emb m') Q) : ev_E G k b u pc L (vr 8 i :: st) (ev_emb m) Q := ev_cV1 (As := []) (ci := 8) (hc ▸ wl_X9_193) mi_X8_widest rfl rfl rfl d hb hs rfl hC kk
theorem wl_X9_197 : Cond.methodLink "HelmHand" 197 yX5_takeSeas ∈ ev_GW := tm_4 (List.mem_of_getElem? (i := 226) rfl) rfl
theorem cl0_X9_197 {G : ev_G} {k : ev_K} {b : ev_B} {u : Nat × Nat} {pc : Nat} {L : List (Option ev_V)} {st : List ev_V} {m : ev_m} {Q : Option ev_V → ev_M → Prop} {i fr lo : Nat} {m' : ev_m} {a0 a1 : ev_V} (hc : k.2.1.cls = "HelmHand") (d : decode k.1 pc = .ok (.invokevirtual 197, 3)) (hb : fr + 1 ≤ b.1 ∧ 23 + lo ≤ b.2.1) (hs : ev_cats st ≤ 8) (hC : ev_CF G K_X5_takeSeas (fr, lo, 0, 0) [vr 3 i, a0, a1] m none m') (kk : ev_E G k b u (pc + 3) L st (ev_emb m') Q) : ev_E G k b u pc L (a1 :: a0 :: vr 3 i :: st) (ev_emb m) Q := ev_cV0 (As := [a0, a1]) (ci := 5) (hc ▸ wl_X9_197) mi_X5_takeSeas rfl rfl rfl d hb hs rfl hC kk
theorem wl_X9_201 : Cond.methodLink "HelmHand" 201 yX9_trialWidest ∈ ev_GW := tm_4 (List.mem_of_getElem? (i := 230) rfl) rfl
theorem cl1_X9_201 {G : ev_G} {k : ev_K} {b : ev_B} {u : Nat × Nat} {pc : Nat} {L : List (Option ev_V)} {st : List ev_V} {m : ev_m} {Q : Option ev_V → ev_M → Prop} {i fr lo : Nat} {m' : ev_m} {a0 : ev_V} {v : ev_V} (hc : k.2.1.cls = "HelmHand") (d : decode k.1 pc = .ok (.invokevirtual 201, 3)) (hb : fr + 1 ≤ b.1 ∧ 21 + lo ≤ b.2.1) (hs : ev_cats st ≤ 8) (hC : ev_CF G K_X9_trialWidest (fr, lo, 0, 0) [vr 0 i, a0] m (some v) m') (kk : ev_E G k b u (pc + 3) L (v :: st) (ev_emb m') Q) : ev_E G k b u pc L (a0 :: vr 0 i :: st) (ev_emb m) Q := ev_cV1 (As := [a0]) (ci := 9) (hc ▸ wl_X9_201) mi_X9_trialWidest rfl rfl rfl d hb hs rfl hC kk
theorem wl_X9_207 : Cond.methodLink "HelmHand" 207 yX8_drift ∈ ev_GW := tm_4 (List.mem_of_getElem? (i := 238) rfl) rfl
theorem cl1_X9_207 {G : ev_G} {k : ev_K} {b : ev_B} {u : Nat × Nat} {pc : Nat} {L : List (Option ev_V)} {st : List ev_V} {m : ev_m} {Q : Option ev_V → ev_M → Prop} {i fr lo : Nat} {m' : ev_m} {v : ev_V} (hc : k.2.1.cls = "HelmHand") (d : decode k.1 pc = .ok (.invokevirtual 207, 3)) (hb : fr + 1 ≤ b.1 ∧ 23 + lo ≤ b.2.1) (hs : ev_cats st ≤ 8) (hC : ev_CF G K_X8_drift (fr, lo, 0, 0) [vr 8 i] m (some v) m') (kk : ev_E G k b u (pc + 3) L (v :: st) (ev_emb m') Q) : ev_E G k b u pc L (vr 8 i :: st) (ev_emb m) Q := ev_cV1 (As := []) (ci := 8) (hc ▸ wl_X9_207) mi_X8_drift rfl rfl rfl d hb hs rfl hC kk
theorem wl_X9_216 : Cond.methodLink "HelmHand" 216 yX9_trialCost ∈ ev_GW := tm_4 (List.mem_of_getElem? (i := 182) rfl) rfl
theorem cl1_X9_216 {G : ev_G} {k : ev_K} {b : ev_B} {u : Nat × Nat} {pc : Nat} {L : List (Option ev_V)} {st : List ev_V} {m : ev_m} {Q : Option ev_V → ev_M → Prop} {i fr lo : Nat} {m' : ev_m} {a0 : ev_V} {v : ev_V} (hc : k.2.1.cls = "HelmHand") (d : decode k.1 pc = .ok (.invokevirtual 216, 3)) (hb : fr + 1 ≤ b.1 ∧ 21 + lo ≤ b.2.1) (hs : ev_cats st ≤ 8) (hC : ev_CF G K_X9_trialCost (fr, lo, 0, 0) [vr 0 i, a0] m (some v) m') (kk : ev_E G k b u (pc + 3) L (v :: st) (ev_emb m') Q) : ev_E G k b u pc L (a0 :: vr 0 i :: st) (ev_emb m) Q := ev_cV1 (As := [a0]) (ci := 9) (hc ▸ wl_X9_216) mi_X9_trialCost rfl rfl rfl d hb hs rfl hC kk
theorem wl_X9_222 : Cond.methodLink "HelmHand" 222 yX1_addStar ∈ ev_GW := tm_5 (List.mem_of_getElem? (i := 14) rfl) rfl
theorem cl1_X9_222 {G : ev_G} {k : ev_K} {b : ev_B} {u : Nat × Nat} {pc : Nat} {L : List (Option ev_V)} {st : List ev_V} {m : ev_m} {Q : Option ev_V → ev_M → Prop} {i fr lo : Nat} {m' : ev_m} {a0 a1 : ev_V} {v : ev_V} (hc : k.2.1.cls = "HelmHand") (d : decode k.1 pc = .ok (.invokevirtual 222, 3)) (hb : fr + 1 ≤ b.1 ∧ 22 + lo ≤ b.2.1) (hs : ev_cats st ≤ 8) (hC : ev_CF G K_X1_addStar (fr, lo, 0, 0) [vr 4 i, a0, a1] m (some v) m') (kk : ev_E G k b u (pc + 3) L (v :: st) (ev_emb m') Q) : ev_E G k b u pc L (a1 :: a0 :: vr 4 i :: st) (ev_emb m) Q := ev_cV1 (As := [a0, a1]) (ci := 1) (hc ▸ wl_X9_222) mi_X1_addStar rfl rfl rfl d hb hs rfl hC kk
theorem wl_X9_226 : Cond.methodLink "HelmHand" 226 yX8_earliestBeyond ∈ ev_GW := tm_5 (List.mem_of_getElem? (i := 23) rfl) rfl
theorem cl1_X9_226 {G : ev_G} {k : ev_K} {b : ev_B} {u : Nat × Nat} {pc : Nat} {L : List (Option ev_V)} {st : List ev_V} {m : ev_m} {Q : Option ev_V → ev_M → Prop} {i fr lo : Nat} {m' : ev_m} {a0 : ev_V} {v : ev_V} (hc : k.2.1.cls = "HelmHand") (d : decode k.1 pc = .ok (.invokevirtual 226, 3)) (hb : fr + 1 ≤ b.1 ∧ 22 + lo ≤ b.2.1) (hs : ev_cats st ≤ 8) (hC : ev_CF G K_X8_earliestBeyond (fr, lo, 0, 0) [vr 8 i, a0] m (some v) m') (kk : ev_E G k b u (pc + 3) L (v :: st) (ev_emb m') Q) : ev_E G k b u pc L (a0 :: vr 8 i :: st) (ev_emb m) Q := ev_cV1 (As := [a0]) (ci := 8) (hc ▸ wl_X9_226) mi_X8_earliestBeyond rfl rfl rfl d hb hs rfl hC kk
theorem wl_X9_229 : Cond.methodLink "HelmHand" 229 yX8_latestBeyond ∈ ev_GW := tm_5 (List.mem_of_getElem? (i := 27) rfl) rfl
theorem cl1_X9_229 {G : ev_G} {k : ev_K} {b : ev_B} {u : Nat × Nat} {pc : Nat} {L : List (Option ev_V)} {st : List ev_V} {m : ev_m} {Q : Option ev_V → ev_M → Prop} {i fr lo : Nat} {m' : ev_m} {a0 : ev_V} {v : ev_V} (hc : k.2.1.cls = "HelmHand") (d : decode k.1 pc = .ok (.invokevirtual 229, 3)) (hb : fr + 1 ≤ b.1 ∧ 22 + lo ≤ b.2.1) (hs : ev_cats st ≤ 8) (hC : ev_CF G K_X8_latestBeyond (fr, lo, 0, 0) [vr 8 i, a0] m (some v) m') (kk : ev_E G k b u (pc + 3) L (v :: st) (ev_emb m') Q) : ev_E G k b u pc L (a0 :: vr 8 i :: st) (ev_emb m) Q := ev_cV1 (As := [a0]) (ci := 8) (hc ▸ wl_X9_229) mi_X8_latestBeyond rfl rfl rfl d hb hs rfl hC kk
theorem wl_X9_232 : Cond.methodLink "HelmHand" 232 yX9_leastOfThree ∈ ev_GW := tm_5 (List.mem_of_getElem? (i := 35) rfl) rfl
theorem cl1_X9_232 {G : ev_G} {k : ev_K} {b : ev_B} {u : Nat × Nat} {pc : Nat} {L : List (Option ev_V)} {st : List ev_V} {m : ev_m} {Q : Option ev_V → ev_M → Prop} {i fr lo : Nat} {m' : ev_m} {a0 a1 a2 : ev_V} {v : ev_V} (hc : k.2.1.cls = "HelmHand") (d : decode k.1 pc = .ok (.invokevirtual 232, 3)) (hb : fr + 1 ≤ b.1 ∧ 29 + lo ≤ b.2.1) (hs : ev_cats st ≤ 8) (hC : ev_CF G K_X9_leastOfThree (fr, lo, 0, 0) [vr 0 i, a0, a1, a2] m (some v) m') (kk : ev_E G k b u (pc + 3) L (v :: st) (ev_emb m') Q) : ev_E G k b u pc L (a2 :: a1 :: a0 :: vr 0 i :: st) (ev_emb m) Q := ev_cV1 (As := [a0, a1, a2]) (ci := 9) (hc ▸ wl_X9_232) mi_X9_leastOfThree rfl rfl rfl d hb hs rfl hC kk
theorem wl_X9_243 : Cond.methodLink "HelmHand" 243 yX9_learnt ∈ ev_GW := tm_5 (List.mem_of_getElem? (i := 46) rfl) rfl
theorem cl1_X9_243 {G : ev_G} {k : ev_K} {b : ev_B} {u : Nat × Nat} {pc : Nat} {L : List (Option ev_V)} {st : List ev_V} {m : ev_m} {Q : Option ev_V → ev_M → Prop} {i fr lo : Nat} {m' : ev_m} {a0 a1 : ev_V} {v : ev_V} (hc : k.2.1.cls = "HelmHand") (d : decode k.1 pc = .ok (.invokevirtual 243, 3)) (hb : fr + 1 ≤ b.1 ∧ 27 + lo ≤ b.2.1) (hs : ev_cats st ≤ 8) (hC : ev_CF G K_X9_learnt (fr, lo, 0, 0) [vr 0 i, a0, a1] m (some v) m') (kk : ev_E G k b u (pc + 3) L (v :: st) (ev_emb m') Q) : ev_E G k b u pc L (a1 :: a0 :: vr 0 i :: st) (ev_emb m) Q := ev_cV1 (As := [a0, a1]) (ci := 9) (hc ▸ wl_X9_243) mi_X9_learnt rfl rfl rfl d hb hs rfl hC kk
theorem wl_X9_246 : Cond.methodLink "HelmHand" 246 yX9_isManned ∈ ev_GW := tm_5 (List.mem_of_getElem? (i := 54) rfl) rfl
theorem cl1_X9_246 {G : ev_G} {k : ev_K} {b : ev_B} {u : Nat × Nat} {pc : Nat} {L : List (Option ev_V)} {st : List ev_V} {m : ev_m} {Q : Option ev_V → ev_M → Prop} {i fr lo : Nat} {m' : ev_m} {a0 : ev_V} {v : ev_V} (hc : k.2.1.cls = "HelmHand") (d : decode k.1 pc = .ok (.invokevirtual 246, 3)) (hb : fr + 1 ≤ b.1 ∧ 22 + lo ≤ b.2.1) (hs : ev_cats st ≤ 8) (hC : ev_CF G K_X9_isManned (fr, lo, 0, 0) [vr 0 i, a0] m (some v) m') (kk : ev_E G k b u (pc + 3) L (v :: st) (ev_emb m') Q) : ev_E G k b u pc L (a0 :: vr 0 i :: st) (ev_emb m) Q := ev_cV1 (As := [a0]) (ci := 9) (hc ▸ wl_X9_246) mi_X9_isManned rfl rfl rfl d hb hs rfl hC kk
theorem wl_X9_252 : Cond.methodLink "HelmHand" 252 yX8_begin ∈ ev_GW := tm_5 (List.mem_of_getElem? (i := 59) rfl) rfl
theorem cl0_X9_252 {G : ev_G} {k : ev_K} {b : ev_B} {u : Nat × Nat} {pc : Nat} {L : List (Option ev_V)} {st : List ev_V} {m : ev_m} {Q : Option ev_V → ev_M → Prop} {i fr lo : Nat} {m' : ev_m} {a0 a1 : ev_V} (hc : k.2.1.cls = "HelmHand") (d : decode k.1 pc = .ok (.invokevirtual 252, 3)) (hb : fr + 1 ≤ b.1 ∧ 22 + lo ≤ b.2.1) (hs : ev_cats st ≤ 8) (hC : ev_CF G K_X8_begin (fr, lo, 0, 0) [vr 8 i, a0, a1] m none m') (kk : ev_E G k b u (pc + 3) L st (ev_emb m') Q) : ev_E G k b u pc L (a1 :: a0 :: vr 8 i :: st) (ev_emb m) Q := ev_cV0 (As := [a0, a1]) (ci := 8) (hc ▸ wl_X9_252) mi_X8_begin rfl rfl rfl d hb hs rfl hC kk
theorem wl_X9_255 : Cond.methodLink "HelmHand" 255 yX8_steer ∈ ev_GW := tm_5 (List.mem_of_getElem? (i := 60) rfl) rfl
theorem cl0_X9_255 {G : ev_G} {k : ev_K} {b : ev_B} {u : Nat × Nat} {pc : Nat} {L : List (Option ev_V)} {st : List ev_V} {m : ev_m} {Q : Option ev_V → ev_M → Prop} {i fr lo : Nat} {m' : ev_m} {a0 a1 : ev_V} (hc : k.2.1.cls = "HelmHand") (d : decode k.1 pc = .ok (.invokevirtual 255, 3)) (hb : fr + 1 ≤ b.1 ∧ 23 + lo ≤ b.2.1) (hs : ev_cats st ≤ 8) (hC : ev_CF G K_X8_steer (fr, lo, 0, 0) [vr 8 i, a0, a1] m none m') (kk : ev_E G k b u (pc + 3) L st (ev_emb m') Q) : ev_E G k b u pc L (a1 :: a0 :: vr 8 i :: st) (ev_emb m) Q := ev_cV0 (As := [a0, a1]) (ci := 8) (hc ▸ wl_X9_255) mi_X8_steer rfl rfl rfl d hb hs rfl hC kk
theorem wl_X9_259 : Cond.methodLink "HelmHand" 259 yX8_cost ∈ ev_GW := tm_4 (List.mem_of_getElem? (i := 186) rfl) rfl
theorem cl1_X9_259 {G : ev_G} {k : ev_K} {b : ev_B} {u : Nat × Nat} {pc : Nat} {L : List (Option ev_V)} {st : List ev_V} {m : ev_m} {Q : Option ev_V → ev_M → Prop} {i fr lo : Nat} {m' : ev_m} {v : ev_V} (hc : k.2.1.cls = "HelmHand") (d : decode k.1 pc = .ok (.invokevirtual 259, 3)) (hb : fr + 1 ≤ b.1 ∧ 23 + lo ≤ b.2.1) (hs : ev_cats st ≤ 8) (hC : ev_CF G K_X8_cost (fr, lo, 0, 0) [vr 8 i] m (some v) m') (kk : ev_E G k b u (pc + 3) L (v :: st) (ev_emb m') Q) : ev_E G k b u pc L (vr 8 i :: st) (ev_emb m) Q := ev_cV1 (As := []) (ci := 8) (hc ▸ wl_X9_259) mi_X8_cost rfl rfl rfl d hb hs rfl hC kk
theorem wl_X9_262 : Cond.methodLink "HelmHand" 262 yX8_off ∈ ev_GW := tm_5 (List.mem_of_getElem? (i := 61) rfl) rfl
theorem cl1_X9_262 {G : ev_G} {k : ev_K} {b : ev_B} {u : Nat × Nat} {pc : Nat} {L : List (Option ev_V)} {st : List ev_V} {m : ev_m} {Q : Option ev_V → ev_M → Prop} {i fr lo : Nat} {m' : ev_m} {v : ev_V} (hc : k.2.1.cls = "HelmHand") (d : decode k.1 pc = .ok (.invokevirtual 262, 3)) (hb : fr + 1 ≤ b.1 ∧ 23 + lo ≤ b.2.1) (hs : ev_cats st ≤ 8) (hC : ev_CF G K_X8_off (fr, lo, 0, 0) [vr 8 i] m (some v) m') (kk : ev_E G k b u (pc + 3) L (v :: st) (ev_emb m') Q) : ev_E G k b u pc L (vr 8 i :: st) (ev_emb m) Q := ev_cV1 (As := []) (ci := 8) (hc ▸ wl_X9_262) mi_X8_off rfl rfl rfl d hb hs rfl hC kk
theorem wl_X9_265 : Cond.methodLink "HelmHand" 265 yX8_wear ∈ ev_GW := tm_5 (List.mem_of_getElem? (i := 62) rfl) rfl
theorem cl1_X9_265 {G : ev_G} {k : ev_K} {b : ev_B} {u : Nat × Nat} {pc : Nat} {L : List (Option ev_V)} {st : List ev_V} {m : ev_m} {Q : Option ev_V → ev_M → Prop} {i fr lo : Nat} {m' : ev_m} {v : ev_V} (hc : k.2.1.cls = "HelmHand") (d : decode k.1 pc = .ok (.invokevirtual 265, 3)) (hb : fr + 1 ≤ b.1 ∧ 23 + lo ≤ b.2.1) (hs : ev_cats st ≤ 8) (hC : ev_CF G K_X8_wear (fr, lo, 0, 0) [vr 8 i] m (some v) m') (kk : ev_E G k b u (pc + 3) L (v :: st) (ev_emb m') Q) : ev_E G k b u pc L (vr 8 i :: st) (ev_emb m) Q := ev_cV1 (As := []) (ci := 8) (hc ▸ wl_X9_265) mi_X8_wear rfl rfl rfl d hb hs rfl hC kk
theorem wl_X9_271 : Cond.methodLink "HelmHand" 271 yX9_sailChanged ∈ ev_GW := tm_5 (List.mem_of_getElem? (i := 67) rfl) rfl
theorem cl0_X9_271 {G : ev_G} {k : ev_K} {b : ev_B} {u : Nat × Nat} {pc : Nat} {L : List (Option ev_V)} {st : List ev_V} {m : ev_m} {Q : Option ev_V → ev_M → Prop} {i fr lo : Nat} {m' : ev_m} {a0 a1 a2 a3 a4 : ev_V} (hc : k.2.1.cls = "HelmHand") (d : decode k.1 pc = .ok (.invokevirtual 271, 3)) (hb : fr + 1 ≤ b.1 ∧ 25 + lo ≤ b.2.1) (hs : ev_cats st ≤ 8) (hC : ev_CF G K_X9_sailChanged (fr, lo, 0, 0) [vr 0 i, a0, a1, a2, a3, a4] m none m') (kk : ev_E G k b u (pc + 3) L st (ev_emb m') Q) : ev_E G k b u pc L (a4 :: a3 :: a2 :: a1 :: a0 :: vr 0 i :: st) (ev_emb m) Q := ev_cV0 (As := [a0, a1, a2, a3, a4]) (ci := 9) (hc ▸ wl_X9_271) mi_X9_sailChanged rfl rfl rfl d hb hs rfl hC kk
theorem wl_X9_275 : Cond.methodLink "HelmHand" 275 yJ6_bitCount_0f7a4 ∈ ev_GW := tm_5 (List.mem_of_getElem? (i := 75) rfl) rfl
theorem cl1_X9_275 {G : ev_G} {k : ev_K} {b : ev_B} {u : Nat × Nat} {pc : Nat} {L : List (Option ev_V)} {st : List ev_V} {m : ev_m} {Q : Option ev_V → ev_M → Prop} {fr lo : Nat} {m' : ev_m} {a0 : ev_V} {v : ev_V} (hc : k.2.1.cls = "HelmHand") (d : decode k.1 pc = .ok (.invokestatic 275, 3)) (hb : fr + 1 ≤ b.1 ∧ 20 + lo ≤ b.2.1) (hs : ev_cats st ≤ 8) (hC : ev_CF G K_J6_bitCount_0f7a4 (fr, lo, 0, 0) [a0] m (some v) m') (kk : ev_E G k b u (pc + 3) L (v :: st) (ev_emb m') Q) : ev_E G k b u pc L (a0 :: st) (ev_emb m) Q := ev_cS (As := [a0]) (hc ▸ wl_X9_275) mi_J6_bitCount_0f7a4 rfl d hb hs rfl hC kk
theorem wl_X9_282 : Cond.methodLink "HelmHand" 282 yX9_handsOf ∈ ev_GW := tm_5 (List.mem_of_getElem? (i := 81) rfl) rfl
theorem cl1_X9_282 {G : ev_G} {k : ev_K} {b : ev_B} {u : Nat × Nat} {pc : Nat} {L : List (Option ev_V)} {st : List ev_V} {m : ev_m} {Q : Option ev_V → ev_M → Prop} {fr lo : Nat} {m' : ev_m} {a0 a1 : ev_V} {v : ev_V} (hc : k.2.1.cls = "HelmHand") (d : decode k.1 pc = .ok (.invokestatic 282, 3)) (hb : fr + 1 ≤ b.1 ∧ 23 + lo ≤ b.2.1) (hs : ev_cats st ≤ 8) (hC : ev_CF G K_X9_handsOf (fr, lo, 0, 0) [a0, a1] m (some v) m') (kk : ev_E G k b u (pc + 3) L (v :: st) (ev_emb m') Q) : ev_E G k b u pc L (a1 :: a0 :: st) (ev_emb m) Q := ev_cS (As := [a0, a1]) (hc ▸ wl_X9_282) mi_X9_handsOf rfl d hb hs rfl hC kk
theorem wl_X9_285 : Cond.methodLink "HelmHand" 285 yX9_costInTurns ∈ ev_GW := tm_5 (List.mem_of_getElem? (i := 87) rfl) rfl
theorem cl1_X9_285 {G : ev_G} {k : ev_K} {b : ev_B} {u : Nat × Nat} {pc : Nat} {L : List (Option ev_V)} {st : List ev_V} {m : ev_m} {Q : Option ev_V → ev_M → Prop} {i fr lo : Nat} {m' : ev_m} {a0 a1 a2 a3 : ev_V} {v : ev_V} (hc : k.2.1.cls = "HelmHand") (d : decode k.1 pc = .ok (.invokevirtual 285, 3)) (hb : fr + 1 ≤ b.1 ∧ 27 + lo ≤ b.2.1) (hs : ev_cats st ≤ 8) (hC : ev_CF G K_X9_costInTurns (fr, lo, 0, 0) [vr 0 i, a0, a1, a2, a3] m (some v) m') (kk : ev_E G k b u (pc + 3) L (v :: st) (ev_emb m') Q) : ev_E G k b u pc L (a3 :: a2 :: a1 :: a0 :: vr 0 i :: st) (ev_emb m) Q := ev_cV1 (As := [a0, a1, a2, a3]) (ci := 9) (hc ▸ wl_X9_285) mi_X9_costInTurns rfl rfl rfl d hb hs rfl hC kk
theorem wl_X9_289 : Cond.methodLink "HelmHand" 289 yX9_handIn ∈ ev_GW := tm_5 (List.mem_of_getElem? (i := 84) rfl) rfl
theorem cl1_X9_289 {G : ev_G} {k : ev_K} {b : ev_B} {u : Nat × Nat} {pc : Nat} {L : List (Option ev_V)} {st : List ev_V} {m : ev_m} {Q : Option ev_V → ev_M → Prop} {fr lo : Nat} {m' : ev_m} {a0 a1 a2 : ev_V} {v : ev_V} (hc : k.2.1.cls = "HelmHand") (d : decode k.1 pc = .ok (.invokestatic 289, 3)) (hb : fr + 1 ≤ b.1 ∧ 22 + lo ≤ b.2.1) (hs : ev_cats st ≤ 8) (hC : ev_CF G K_X9_handIn (fr, lo, 0, 0) [a0, a1, a2] m (some v) m') (kk : ev_E G k b u (pc + 3) L (v :: st) (ev_emb m') Q) : ev_E G k b u pc L (a2 :: a1 :: a0 :: st) (ev_emb m) Q := ev_cS (As := [a0, a1, a2]) (hc ▸ wl_X9_289) mi_X9_handIn rfl d hb hs rfl hC kk
theorem wl_X9_292 : Cond.methodLink "HelmHand" 292 yX8_steerTogether ∈ ev_GW := tm_5 (List.mem_of_getElem? (i := 95) rfl) rfl
theorem cl0_X9_292 {G : ev_G} {k : ev_K} {b : ev_B} {u : Nat × Nat} {pc : Nat} {L : List (Option ev_V)} {st : List ev_V} {m : ev_m} {Q : Option ev_V → ev_M → Prop} {i fr lo : Nat} {m' : ev_m} {a0 a1 a2 : ev_V} (hc : k.2.1.cls = "HelmHand") (d : decode k.1 pc = .ok (.invokevirtual 292, 3)) (hb : fr + 1 ≤ b.1 ∧ 25 + lo ≤ b.2.1) (hs : ev_cats st ≤ 8) (hC : ev_CF G K_X8_steerTogether (fr, lo, 0, 0) [vr 8 i, a0, a1, a2] m none m') (kk : ev_E G k b u (pc + 3) L st (ev_emb m') Q) : ev_E G k b u pc L (a2 :: a1 :: a0 :: vr 8 i :: st) (ev_emb m) Q := ev_cV0 (As := [a0, a1, a2]) (ci := 8) (hc ▸ wl_X9_292) mi_X8_steerTogether rfl rfl rfl d hb hs rfl hC kk
theorem wl_X9_296 : Cond.methodLink "HelmHand" 296 yX8_alikeTo ∈ ev_GW := tm_5 (List.mem_of_getElem? (i := 103) rfl) rfl
theorem cl1_X9_296 {G : ev_G} {k : ev_K} {b : ev_B} {u : Nat × Nat} {pc : Nat} {L : List (Option ev_V)} {st : List ev_V} {m : ev_m} {Q : Option ev_V → ev_M → Prop} {i fr lo : Nat} {m' : ev_m} {a0 : ev_V} {v : ev_V} (hc : k.2.1.cls = "HelmHand") (d : decode k.1 pc = .ok (.invokevirtual 296, 3)) (hb : fr + 1 ≤ b.1 ∧ 22 + lo ≤ b.2.1) (hs : ev_cats st ≤ 8) (hC : ev_CF G K_X8_alikeTo (fr, lo, 0, 0) [vr 8 i, a0] m (some v) m') (kk : ev_E G k b u (pc + 3) L (v :: st) (ev_emb m') Q) : ev_E G k b u pc L (a0 :: vr 8 i :: st) (ev_emb m) Q := ev_cV1 (As := [a0]) (ci := 8) (hc ▸ wl_X9_296) mi_X8_alikeTo rfl rfl rfl d hb hs rfl hC kk
theorem wl_X9_300 : Cond.methodLink "HelmHand" 300 yX8_apartFrom ∈ ev_GW := tm_4 (List.mem_of_getElem? (i := 191) rfl) rfl
theorem cl1_X9_300 {G : ev_G} {k : ev_K} {b : ev_B} {u : Nat × Nat} {pc : Nat} {L : List (Option ev_V)} {st : List ev_V} {m : ev_m} {Q : Option ev_V → ev_M → Prop} {i fr lo : Nat} {m' : ev_m} {a0 : ev_V} {v : ev_V} (hc : k.2.1.cls = "HelmHand") (d : decode k.1 pc = .ok (.invokevirtual 300, 3)) (hb : fr + 1 ≤ b.1 ∧ 23 + lo ≤ b.2.1) (hs : ev_cats st ≤ 8) (hC : ev_CF G K_X8_apartFrom (fr, lo, 0, 0) [vr 8 i, a0] m (some v) m') (kk : ev_E G k b u (pc + 3) L (v :: st) (ev_emb m') Q) : ev_E G k b u pc L (a0 :: vr 8 i :: st) (ev_emb m) Q := ev_cV1 (As := [a0]) (ci := 8) (hc ▸ wl_X9_300) mi_X8_apartFrom rfl rfl rfl d hb hs rfl hC kk
theorem wl_X9_304 : Cond.methodLink "HelmHand" 304 yX9_trialApart ∈ ev_GW := tm_4 (List.mem_of_getElem? (i := 187) rfl) rfl
theorem cl1_X9_304 {G : ev_G} {k : ev_K} {b : ev_B} {u : Nat × Nat} {pc : Nat} {L : List (Option ev_V)} {st : List ev_V} {m : ev_m} {Q : Option ev_V → ev_M → Prop} {i fr lo : Nat} {m' : ev_m} {a0 : ev_V} {v : ev_V} (hc : k.2.1.cls = "HelmHand") (d : decode k.1 pc = .ok (.invokevirtual 304, 3)) (hb : fr + 1 ≤ b.1 ∧ 21 + lo ≤ b.2.1) (hs : ev_cats st ≤ 8) (hC : ev_CF G K_X9_trialApart (fr, lo, 0, 0) [vr 0 i, a0] m (some v) m') (kk : ev_E G k b u (pc + 3) L (v :: st) (ev_emb m') Q) : ev_E G k b u pc L (a0 :: vr 0 i :: st) (ev_emb m) Q := ev_cV1 (As := [a0]) (ci := 9) (hc ▸ wl_X9_304) mi_X9_trialApart rfl rfl rfl d hb hs rfl hC kk
theorem wl_X9_307 : Cond.methodLink "HelmHand" 307 yX9_deadest ∈ ev_GW := tm_5 (List.mem_of_getElem? (i := 128) rfl) rfl
theorem cl1_X9_307 {G : ev_G} {k : ev_K} {b : ev_B} {u : Nat × Nat} {pc : Nat} {L : List (Option ev_V)} {st : List ev_V} {m : ev_m} {Q : Option ev_V → ev_M → Prop} {i fr lo : Nat} {m' : ev_m} {a0 a1 : ev_V} {v : ev_V} (hc : k.2.1.cls = "HelmHand") (d : decode k.1 pc = .ok (.invokevirtual 307, 3)) (hb : fr + 1 ≤ b.1 ∧ 23 + lo ≤ b.2.1) (hs : ev_cats st ≤ 8) (hC : ev_CF G K_X9_deadest (fr, lo, 0, 0) [vr 0 i, a0, a1] m (some v) m') (kk : ev_E G k b u (pc + 3) L (v :: st) (ev_emb m') Q) : ev_E G k b u pc L (a1 :: a0 :: vr 0 i :: st) (ev_emb m) Q := ev_cV1 (As := [a0, a1]) (ci := 9) (hc ▸ wl_X9_307) mi_X9_deadest rfl rfl rfl d hb hs rfl hC kk
theorem wl_X9_310 : Cond.methodLink "HelmHand" 310 yX9_leastGear ∈ ev_GW := tm_5 (List.mem_of_getElem? (i := 132) rfl) rfl
theorem cl1_X9_310 {G : ev_G} {k : ev_K} {b : ev_B} {u : Nat × Nat} {pc : Nat} {L : List (Option ev_V)} {st : List ev_V} {m : ev_m} {Q : Option ev_V → ev_M → Prop} {i fr lo : Nat} {m' : ev_m} {a0 a1 a2 : ev_V} {v : ev_V} (hc : k.2.1.cls = "HelmHand") (d : decode k.1 pc = .ok (.invokevirtual 310, 3)) (hb : fr + 1 ≤ b.1 ∧ 24 + lo ≤ b.2.1) (hs : ev_cats st ≤ 8) (hC : ev_CF G K_X9_leastGear (fr, lo, 0, 0) [vr 0 i, a0, a1, a2] m (some v) m') (kk : ev_E G k b u (pc + 3) L (v :: st) (ev_emb m') Q) : ev_E G k b u pc L (a2 :: a1 :: a0 :: vr 0 i :: st) (ev_emb m) Q := ev_cV1 (As := [a0, a1, a2]) (ci := 9) (hc ▸ wl_X9_310) mi_X9_leastGear rfl rfl rfl d hb hs rfl hC kk
theorem wl_X9_313 : Cond.methodLink "HelmHand" 313 yX8_dearest ∈ ev_GW := tm_5 (List.mem_of_getElem? (i := 140) rfl) rfl
theorem cl1_X9_313 {G : ev_G} {k : ev_K} {b : ev_B} {u : Nat × Nat} {pc : Nat} {L : List (Option ev_V)} {st : List ev_V} {m : ev_m} {Q : Option ev_V → ev_M → Prop} {i fr lo : Nat} {m' : ev_m} {v : ev_V} (hc : k.2.1.cls = "HelmHand") (d : decode k.1 pc = .ok (.invokevirtual 313, 3)) (hb : fr + 1 ≤ b.1 ∧ 22 + lo ≤ b.2.1) (hs : ev_cats st ≤ 8) (hC : ev_CF G K_X8_dearest (fr, lo, 0, 0) [vr 8 i] m (some v) m') (kk : ev_E G k b u (pc + 3) L (v :: st) (ev_emb m') Q) : ev_E G k b u pc L (vr 8 i :: st) (ev_emb m) Q := ev_cV1 (As := []) (ci := 8) (hc ▸ wl_X9_313) mi_X8_dearest rfl rfl rfl d hb hs rfl hC kk
theorem wl_X9_317 : Cond.methodLink "HelmHand" 317 yX8_halfway ∈ ev_GW := tm_5 (List.mem_of_getElem? (i := 144) rfl) rfl
theorem cl1_X9_317 {G : ev_G} {k : ev_K} {b : ev_B} {u : Nat × Nat} {pc : Nat} {L : List (Option ev_V)} {st : List ev_V} {m : ev_m} {Q : Option ev_V → ev_M → Prop} {i fr lo : Nat} {m' : ev_m} {v : ev_V} (hc : k.2.1.cls = "HelmHand") (d : decode k.1 pc = .ok (.invokevirtual 317, 3)) (hb : fr + 1 ≤ b.1 ∧ 25 + lo ≤ b.2.1) (hs : ev_cats st ≤ 8) (hC : ev_CF G K_X8_halfway (fr, lo, 0, 0) [vr 8 i] m (some v) m') (kk : ev_E G k b u (pc + 3) L (v :: st) (ev_emb m') Q) : ev_E G k b u pc L (vr 8 i :: st) (ev_emb m) Q := ev_cV1 (As := []) (ci := 8) (hc ▸ wl_X9_317) mi_X8_halfway rfl rfl rfl d hb hs rfl hC kk
theorem wl_X9_320 : Cond.methodLink "HelmHand" 320 yX0_countOf ∈ ev_GW := tm_5 (List.mem_of_getElem? (i := 165) rfl) rfl
theorem cl1_X9_320 {G : ev_G} {k : ev_K} {b : ev_B} {u : Nat × Nat} {pc : Nat} {L : List (Option ev_V)} {st : List ev_V} {m : ev_m} {Q : Option ev_V → ev_M → Prop} {i fr lo : Nat} {m' : ev_m} {a0 : ev_V} {v : ev_V} (hc : k.2.1.cls = "HelmHand") (d : decode k.1 pc = .ok (.invokevirtual 320, 3)) (hb : fr + 1 ≤ b.1 ∧ 21 + lo ≤ b.2.1) (hs : ev_cats st ≤ 8) (hC : ev_CF G K_X0_countOf (fr, lo, 0, 0) [vr 1 i, a0] m (some v) m') (kk : ev_E G k b u (pc + 3) L (v :: st) (ev_emb m') Q) : ev_E G k b u pc L (a0 :: vr 1 i :: st) (ev_emb m) Q := ev_cV1 (As := [a0]) (ci := 0) (hc ▸ wl_X9_320) mi_X0_countOf rfl rfl rfl d hb hs rfl hC kk
theorem wl_X9_323 : Cond.methodLink "HelmHand" 323 yX0_copy ∈ ev_GW := tm_5 (List.mem_of_getElem? (i := 170) rfl) rfl
theorem cl0_X9_323 {G : ev_G} {k : ev_K} {b : ev_B} {u : Nat × Nat} {pc : Nat} {L : List (Option ev_V)} {st : List ev_V} {m : ev_m} {Q : Option ev_V → ev_M → Prop} {i fr lo : Nat} {m' : ev_m} {a0 : ev_V} (hc : k.2.1.cls = "HelmHand") (d : decode k.1 pc = .ok (.invokevirtual 323, 3)) (hb : fr + 1 ≤ b.1 ∧ 22 + lo ≤ b.2.1) (hs : ev_cats st ≤ 8) (hC : ev_CF G K_X0_copy (fr, lo, 0, 0) [vr 1 i, a0] m none m') (kk : ev_E G k b u (pc + 3) L st (ev_emb m') Q) : ev_E G k b u pc L (a0 :: vr 1 i :: st) (ev_emb m) Q := ev_cV0 (As := [a0]) (ci := 0) (hc ▸ wl_X9_323) mi_X0_copy rfl rfl rfl d hb hs rfl hC kk
theorem wl_X9_326 : Cond.methodLink "HelmHand" 326 yX1_copy ∈ ev_GW := tm_4 (List.mem_of_getElem? (i := 174) rfl) rfl
theorem cl0_X9_326 {G : ev_G} {k : ev_K} {b : ev_B} {u : Nat × Nat} {pc : Nat} {L : List (Option ev_V)} {st : List ev_V} {m : ev_m} {Q : Option ev_V → ev_M → Prop} {i fr lo : Nat} {m' : ev_m} {a0 : ev_V} (hc : k.2.1.cls = "HelmHand") (d : decode k.1 pc = .ok (.invokevirtual 326, 3)) (hb : fr + 1 ≤ b.1 ∧ 22 + lo ≤ b.2.1) (hs : ev_cats st ≤ 8) (hC : ev_CF G K_X1_copy (fr, lo, 0, 0) [vr 4 i, a0] m none m') (kk : ev_E G k b u (pc + 3) L st (ev_emb m') Q) : ev_E G k b u pc L (a0 :: vr 4 i :: st) (ev_emb m) Q := ev_cV0 (As := [a0]) (ci := 1) (hc ▸ wl_X9_326) mi_X1_copy rfl rfl rfl d hb hs rfl hC kk
theorem wl_X9_329 : Cond.methodLink "HelmHand" 329 yX1_write ∈ ev_GW := tm_4 (List.mem_of_getElem? (i := 181) rfl) rfl
theorem cl0_X9_329 {G : ev_G} {k : ev_K} {b : ev_B} {u : Nat × Nat} {pc : Nat} {L : List (Option ev_V)} {st : List ev_V} {m : ev_m} {Q : Option ev_V → ev_M → Prop} {i fr lo : Nat} {m' : ev_m} {a0 a1 : ev_V} (hc : k.2.1.cls = "HelmHand") (d : decode k.1 pc = .ok (.invokevirtual 329, 3)) (hb : fr + 1 ≤ b.1 ∧ 22 + lo ≤ b.2.1) (hs : ev_cats st ≤ 8) (hC : ev_CF G K_X1_write (fr, lo, 0, 0) [vr 4 i, a0, a1] m none m') (kk : ev_E G k b u (pc + 3) L st (ev_emb m') Q) : ev_E G k b u pc L (a1 :: a0 :: vr 4 i :: st) (ev_emb m) Q := ev_cV0 (As := [a0, a1]) (ci := 1) (hc ▸ wl_X9_329) mi_X1_write rfl rfl rfl d hb hs rfl hC kk
theorem wl_X9_330 : Cond.methodLink "HelmHand" 330 yX8_grows ∈ ev_GW := tm_4 (List.mem_of_getElem? (i := 216) rfl) rfl
theorem cl1_X9_330 {G : ev_G} {k : ev_K} {b : ev_B} {u : Nat × Nat} {pc : Nat} {L : List (Option ev_V)} {st : List ev_V} {m : ev_m} {Q : Option ev_V → ev_M → Prop} {i fr lo : Nat} {m' : ev_m} {v : ev_V} (hc : k.2.1.cls = "HelmHand") (d : decode k.1 pc = .ok (.invokevirtual 330, 3)) (hb : fr + 1 ≤ b.1 ∧ 21 + lo ≤ b.2.1) (hs : ev_cats st ≤ 8) (hC : ev_CF G K_X8_grows (fr, lo, 0, 0) [vr 8 i] m (some v) m') (kk : ev_E G k b u (pc + 3) L (v :: st) (ev_emb m') Q) : ev_E G k b u pc L (vr 8 i :: st) (ev_emb m) Q := ev_cV1 (As := []) (ci := 8) (hc ▸ wl_X9_330) mi_X8_grows rfl rfl rfl d hb hs rfl hC kk
theorem wl_X9_62 : Cond.methodLink "HelmHand" 62 yX6_addWord ∈ ev_GW := tm_2 (List.mem_of_getElem? (i := 142) rfl) rfl
theorem cl0_X9_62 {G : ev_G} {k : ev_K} {b : ev_B} {u : Nat × Nat} {pc : Nat} {L : List (Option ev_V)} {st : List ev_V} {m : ev_m} {Q : Option ev_V → ev_M → Prop} {i fr lo : Nat} {m' : ev_m} {a0 : ev_V} (hc : k.2.1.cls = "HelmHand") (d : decode k.1 pc = .ok (.invokevirtual 62, 3)) (hb : fr + 1 ≤ b.1 ∧ 21 + lo ≤ b.2.1) (hs : ev_cats st ≤ 8) (hC : ev_CF G K_X6_addWord (fr, lo, 0, 0) [vr 2 i, a0] m none m') (kk : ev_E G k b u (pc + 3) L st (ev_emb m') Q) : ev_E G k b u pc L (a0 :: vr 2 i :: st) (ev_emb m) Q := ev_cV0 (As := [a0]) (ci := 6) (hc ▸ wl_X9_62) mi_X6_addWord rfl rfl rfl d hb hs rfl hC kk
theorem wl_X9_66 : Cond.methodLink "HelmHand" 66 yX0_placeFor ∈ ev_GW := tm_2 (List.mem_of_getElem? (i := 158) rfl) rfl
theorem cl1_X9_66 {G : ev_G} {k : ev_K} {b : ev_B} {u : Nat × Nat} {pc : Nat} {L : List (Option ev_V)} {st : List ev_V} {m : ev_m} {Q : Option ev_V → ev_M → Prop} {i fr lo : Nat} {m' : ev_m} {a0 a1 : ev_V} {v : ev_V} (hc : k.2.1.cls = "HelmHand") (d : decode k.1 pc = .ok (.invokevirtual 66, 3)) (hb : fr + 1 ≤ b.1 ∧ 24 + lo ≤ b.2.1) (hs : ev_cats st ≤ 8) (hC : ev_CF G K_X0_placeFor (fr, lo, 0, 0) [vr 1 i, a0, a1] m (some v) m') (kk : ev_E G k b u (pc + 3) L (v :: st) (ev_emb m') Q) : ev_E G k b u pc L (a1 :: a0 :: vr 1 i :: st) (ev_emb m) Q := ev_cV1 (As := [a0, a1]) (ci := 0) (hc ▸ wl_X9_66) mi_X0_placeFor rfl rfl rfl d hb hs rfl hC kk
theorem wl_X9_76 : Cond.methodLink "HelmHand" 76 yX4_take ∈ ev_GW := tm_2 (List.mem_of_getElem? (i := 166) rfl) rfl
theorem cl0_X9_76 {G : ev_G} {k : ev_K} {b : ev_B} {u : Nat × Nat} {pc : Nat} {L : List (Option ev_V)} {st : List ev_V} {m : ev_m} {Q : Option ev_V → ev_M → Prop} {i fr lo : Nat} {m' : ev_m} {a0 a1 : ev_V} (hc : k.2.1.cls = "HelmHand") (d : decode k.1 pc = .ok (.invokevirtual 76, 3)) (hb : fr + 1 ≤ b.1 ∧ 24 + lo ≤ b.2.1) (hs : ev_cats st ≤ 8) (hC : ev_CF G K_X4_take (fr, lo, 0, 0) [vr 7 i, a0, a1] m none m') (kk : ev_E G k b u (pc + 3) L st (ev_emb m') Q) : ev_E G k b u pc L (a1 :: a0 :: vr 7 i :: st) (ev_emb m) Q := ev_cV0 (As := [a0, a1]) (ci := 4) (hc ▸ wl_X9_76) mi_X4_take rfl rfl rfl d hb hs rfl hC kk
theorem wl_X9_82 : Cond.methodLink "HelmHand" 82 yX0_keep ∈ ev_GW := tm_3 (List.mem_of_getElem? (i := 139) rfl) rfl
theorem cl0_X9_82 {G : ev_G} {k : ev_K} {b : ev_B} {u : Nat × Nat} {pc : Nat} {L : List (Option ev_V)} {st : List ev_V} {m : ev_m} {Q : Option ev_V → ev_M → Prop} {i fr lo : Nat} {m' : ev_m} {a0 a1 a2 : ev_V} (hc : k.2.1.cls = "HelmHand") (d : decode k.1 pc = .ok (.invokevirtual 82, 3)) (hb : fr + 1 ≤ b.1 ∧ 23 + lo ≤ b.2.1) (hs : ev_cats st ≤ 8) (hC : ev_CF G K_X0_keep (fr, lo, 0, 0) [vr 1 i, a0, a1, a2] m none m') (kk : ev_E G k b u (pc + 3) L st (ev_emb m') Q) : ev_E G k b u pc L (a2 :: a1 :: a0 :: vr 1 i :: st) (ev_emb m) Q := ev_cV0 (As := [a0, a1, a2]) (ci := 0) (hc ▸ wl_X9_82) mi_X0_keep rfl rfl rfl d hb hs rfl hC kk
theorem wl_X9_86 : Cond.methodLink "HelmHand" 86 yX0_shipAt ∈ ev_GW := tm_3 (List.mem_of_getElem? (i := 226) rfl) rfl
theorem cl1_X9_86 {G : ev_G} {k : ev_K} {b : ev_B} {u : Nat × Nat} {pc : Nat} {L : List (Option ev_V)} {st : List ev_V} {m : ev_m} {Q : Option ev_V → ev_M → Prop} {i fr lo : Nat} {m' : ev_m} {a0 : ev_V} {v : ev_V} (hc : k.2.1.cls = "HelmHand") (d : decode k.1 pc = .ok (.invokevirtual 86, 3)) (hb : fr + 1 ≤ b.1 ∧ 21 + lo ≤ b.2.1) (hs : ev_cats st ≤ 8) (hC : ev_CF G K_X0_shipAt (fr, lo, 0, 0) [vr 1 i, a0] m (some v) m') (kk : ev_E G k b u (pc + 3) L (v :: st) (ev_emb m') Q) : ev_E G k b u pc L (a0 :: vr 1 i :: st) (ev_emb m) Q := ev_cV1 (As := [a0]) (ci := 0) (hc ▸ wl_X9_86) mi_X0_shipAt rfl rfl rfl d hb hs rfl hC kk
theorem wl_X9_91 : Cond.methodLink "HelmHand" 91 yX5_look ∈ ev_GW := tm_3 (List.mem_of_getElem? (i := 228) rfl) rfl
theorem cl1_X9_91 {G : ev_G} {k : ev_K} {b : ev_B} {u : Nat × Nat} {pc : Nat} {L : List (Option ev_V)} {st : List ev_V} {m : ev_m} {Q : Option ev_V → ev_M → Prop} {i fr lo : Nat} {m' : ev_m} {a0 : ev_V} {v : ev_V} (hc : k.2.1.cls = "HelmHand") (d : decode k.1 pc = .ok (.invokevirtual 91, 3)) (hb : fr + 1 ≤ b.1 ∧ 21 + lo ≤ b.2.1) (hs : ev_cats st ≤ 8) (hC : ev_CF G K_X5_look (fr, lo, 0, 0) [vr 3 i, a0] m (some v) m') (kk : ev_E G k b u (pc + 3) L (v :: st) (ev_emb m') Q) : ev_E G k b u pc L (a0 :: vr 3 i :: st) (ev_emb m) Q := ev_cV1 (As := [a0]) (ci := 5) (hc ▸ wl_X9_91) mi_X5_look rfl rfl rfl d hb hs rfl hC kk
theorem wl_X9_95 : Cond.methodLink "HelmHand" 95 yX0_handAt ∈ ev_GW := tm_3 (List.mem_of_getElem? (i := 233) rfl) rfl
theorem cl1_X9_95 {G : ev_G} {k : ev_K} {b : ev_B} {u : Nat × Nat} {pc : Nat} {L : List (Option ev_V)} {st : List ev_V} {m : ev_m} {Q : Option ev_V → ev_M → Prop} {i fr lo : Nat} {m' : ev_m} {a0 : ev_V} {v : ev_V} (hc : k.2.1.cls = "HelmHand") (d : decode k.1 pc = .ok (.invokevirtual 95, 3)) (hb : fr + 1 ≤ b.1 ∧ 21 + lo ≤ b.2.1) (hs : ev_cats st ≤ 8) (hC : ev_CF G K_X0_handAt (fr, lo, 0, 0) [vr 1 i, a0] m (some v) m') (kk : ev_E G k b u (pc + 3) L (v :: st) (ev_emb m') Q) : ev_E G k b u pc L (a0 :: vr 1 i :: st) (ev_emb m) Q := ev_cV1 (As := [a0]) (ci := 0) (hc ▸ wl_X9_95) mi_X0_handAt rfl rfl rfl d hb hs rfl hC kk
theorem wl_X9_99 : Cond.methodLink "HelmHand" 99 yX1_look ∈ ev_GW := tm_3 (List.mem_of_getElem? (i := 234) rfl) rfl
theorem cl1_X9_99 {G : ev_G} {k : ev_K} {b : ev_B} {u : Nat × Nat} {pc : Nat} {L : List (Option ev_V)} {st : List ev_V} {m : ev_m} {Q : Option ev_V → ev_M → Prop} {i fr lo : Nat} {m' : ev_m} {a0 : ev_V} {v : ev_V} (hc : k.2.1.cls = "HelmHand") (d : decode k.1 pc = .ok (.invokevirtual 99, 3)) (hb : fr + 1 ≤ b.1 ∧ 21 + lo ≤ b.2.1) (hs : ev_cats st ≤ 8) (hC : ev_CF G K_X1_look (fr, lo, 0, 0) [vr 4 i, a0] m (some v) m') (kk : ev_E G k b u (pc + 3) L (v :: st) (ev_emb m') Q) : ev_E G k b u pc L (a0 :: vr 4 i :: st) (ev_emb m) Q := ev_cV1 (As := [a0]) (ci := 1) (hc ▸ wl_X9_99) mi_X1_look rfl rfl rfl d hb hs rfl hC kk
theorem wf_X0_110 : Cond.fieldLink "HelmHand$Book" 110 "HelmHand$Book" "fault" "I" ∈ ev_GW := tm_1 (List.mem_of_getElem? (i := 196) rfl) rfl
theorem fl_X0_110 : ev_FL "HelmHand$Book" 110 0 1 := ⟨by decide, wf_X0_110⟩
theorem gt_X0_110 {G : ev_G} {k : ev_K} {b : ev_B} {u : Nat × Nat} {pc : Nat} {L : List (Option ev_V)} {st : List ev_V} {m : ev_m} {Q : Option ev_V → ev_M → Prop} {i : Nat} (hc : k.2.1.cls = "HelmHand$Book") (d : decode k.1 pc = .ok (.getfield 110, 3)) (kk : ev_E G k b u (pc + 3) L (vi (m.1 1 i 1) :: st) (ev_emb m) Q) : ev_E G k b u pc L (vr 1 i :: st) (ev_emb m) Q := ev_getI (ci := 0) (hc ▸ fl_X0_110) rfl rfl d kk
theorem wf_X0_12 : Cond.fieldLink "HelmHand$Book" 12 "HelmHand$Book" "tape" "LHelmHand$Tape;" ∈ ev_GW := tm_1 (List.mem_of_getElem? (i := 193) rfl) rfl
theorem fl_X0_12 : ev_FL "HelmHand$Book" 12 0 0 := ⟨by decide, wf_X0_12⟩
theorem gt_X0_12 {G : ev_G} {k : ev_K} {b : ev_B} {u : Nat × Nat} {pc : Nat} {L : List (Option ev_V)} {st : List ev_V} {m : ev_m} {Q : Option ev_V → ev_M → Prop} {i : Nat} (hc : k.2.1.cls = "HelmHand$Book") (d : decode k.1 pc = .ok (.getfield 12, 3)) (kk : ev_E G k b u (pc + 3) L (vr 2 i :: st) (ev_emb m) Q) : ev_E G k b u pc L (vr 1 i :: st) (ev_emb m) Q := ev_getR (ci := 0) (hc ▸ fl_X0_12) rfl rfl rfl d kk
theorem wf_X0_18 : Cond.fieldLink "HelmHand$Book" 18 "HelmHand$Book" "faultPlace" "I" ∈ ev_GW := tm_1 (List.mem_of_getElem? (i := 197) rfl) rfl
theorem fl_X0_18 : ev_FL "HelmHand$Book" 18 0 2 := ⟨by decide, wf_X0_18⟩
theorem gt_X0_18 {G : ev_G} {k : ev_K} {b : ev_B} {u : Nat × Nat} {pc : Nat} {L : List (Option ev_V)} {st : List ev_V} {m : ev_m} {Q : Option ev_V → ev_M → Prop} {i : Nat} (hc : k.2.1.cls = "HelmHand$Book") (d : decode k.1 pc = .ok (.getfield 18, 3)) (kk : ev_E G k b u (pc + 3) L (vi (m.1 1 i 2) :: st) (ev_emb m) Q) : ev_E G k b u pc L (vr 1 i :: st) (ev_emb m) Q := ev_getI (ci := 0) (hc ▸ fl_X0_18) rfl rfl d kk
theorem wf_X0_24 : Cond.fieldLink "HelmHand$Book" 24 "HelmHand$Book" "shipRow" "[LHelmHand$Ship;" ∈ ev_GW := tm_1 (List.mem_of_getElem? (i := 204) rfl) rfl
theorem fl_X0_24 : ev_FL "HelmHand$Book" 24 0 7 := ⟨by decide, wf_X0_24⟩
theorem gt_X0_24 {G : ev_G} {k : ev_K} {b : ev_B} {u : Nat × Nat} {pc : Nat} {L : List (Option ev_V)} {st : List ev_V} {m : ev_m} {Q : Option ev_V → ev_M → Prop} {i : Nat} (hc : k.2.1.cls = "HelmHand$Book") (d : decode k.1 pc = .ok (.getfield 24, 3)) (kk : ev_E G k b u (pc + 3) L (vr 24 i :: st) (ev_emb m) Q) : ev_E G k b u pc L (vr 1 i :: st) (ev_emb m) Q := ev_getR (ci := 0) (hc ▸ fl_X0_24) rfl rfl rfl d kk
theorem wf_X0_30 : Cond.fieldLink "HelmHand$Book" 30 "HelmHand$Book" "handRow" "[LHelmHand$Hand;" ∈ ev_GW := tm_1 (List.mem_of_getElem? (i := 205) rfl) rfl
theorem fl_X0_30 : ev_FL "HelmHand$Book" 30 0 8 := ⟨by decide, wf_X0_30⟩
theorem gt_X0_30 {G : ev_G} {k : ev_K} {b : ev_B} {u : Nat × Nat} {pc : Nat} {L : List (Option ev_V)} {st : List ev_V} {m : ev_m} {Q : Option ev_V → ev_M → Prop} {i : Nat} (hc : k.2.1.cls = "HelmHand$Book") (d : decode k.1 pc = .ok (.getfield 30, 3)) (kk : ev_E G k b u (pc + 3) L (vr 25 i :: st) (ev_emb m) Q) : ev_E G k b u pc L (vr 1 i :: st) (ev_emb m) Q := ev_getR (ci := 0) (hc ▸ fl_X0_30) rfl rfl rfl d kk
theorem wf_X0_36 : Cond.fieldLink "HelmHand$Book" 36 "HelmHand$Book" "paperRow" "[LHelmHand$Paper;" ∈ ev_GW := tm_1 (List.mem_of_getElem? (i := 206) rfl) rfl
theorem fl_X0_36 : ev_FL "HelmHand$Book" 36 0 9 := ⟨by decide, wf_X0_36⟩
theorem gt_X0_36 {G : ev_G} {k : ev_K} {b : ev_B} {u : Nat × Nat} {pc : Nat} {L : List (Option ev_V)} {st : List ev_V} {m : ev_m} {Q : Option ev_V → ev_M → Prop} {i : Nat} (hc : k.2.1.cls = "HelmHand$Book") (d : decode k.1 pc = .ok (.getfield 36, 3)) (kk : ev_E G k b u (pc + 3) L (vr 26 i :: st) (ev_emb m) Q) : ev_E G k b u pc L (vr 1 i :: st) (ev_emb m) Q := ev_getR (ci := 0) (hc ▸ fl_X0_36) rfl rfl rfl d kk
theorem wf_X0_42 : Cond.fieldLink "HelmHand$Book" 42 "HelmHand$Book" "watchRow" "[LHelmHand$Watch;" ∈ ev_GW := tm_1 (List.mem_of_getElem? (i := 207) rfl) rfl
theorem fl_X0_42 : ev_FL "HelmHand$Book" 42 0 10 := ⟨by decide, wf_X0_42⟩
theorem gt_X0_42 {G : ev_G} {k : ev_K} {b : ev_B} {u : Nat × Nat} {pc : Nat} {L : List (Option ev_V)} {st : List ev_V} {m : ev_m} {Q : Option ev_V → ev_M → Prop} {i : Nat} (hc : k.2.1.cls = "HelmHand$Book") (d : decode k.1 pc = .ok (.getfield 42, 3)) (kk : ev_E G k b u (pc + 3) L (vr 27 i :: st) (ev_emb m) Q) : ev_E G k b u pc L (vr 1 i :: st) (ev_emb m) Q := ev_getR (ci := 0) (hc ▸ fl_X0_42) rfl rfl rfl d kk
theorem wf_X0_50 : Cond.fieldLink "HelmHand$Book" 50 "HelmHand$Book" "ships" "I" ∈ ev_GW := tm_1 (List.mem_of_getElem? (i := 199) rfl) rfl
theorem fl_X0_50 : ev_FL "HelmHand$Book" 50 0 3 := ⟨by decide, wf_X0_50⟩
theorem gt_X0_50 {G : ev_G} {k : ev_K} {b : ev_B} {u : Nat × Nat} {pc : Nat} {L : List (Option ev_V)} {st : List ev_V} {m : ev_m} {Q : Option ev_V → ev_M → Prop} {i : Nat} (hc : k.2.1.cls = "HelmHand$Book") (d : decode k.1 pc = .ok (.getfield 50, 3)) (kk : ev_E G k b u (pc + 3) L (vi (m.1 1 i 3) :: st) (ev_emb m) Q) : ev_E G k b u pc L (vr 1 i :: st) (ev_emb m) Q := ev_getI (ci := 0) (hc ▸ fl_X0_50) rfl rfl d kk
theorem wf_X0_53 : Cond.fieldLink "HelmHand$Book" 53 "HelmHand$Book" "hands" "I" ∈ ev_GW := tm_1 (List.mem_of_getElem? (i := 200) rfl) rfl
theorem fl_X0_53 : ev_FL "HelmHand$Book" 53 0 4 := ⟨by decide, wf_X0_53⟩
theorem gt_X0_53 {G : ev_G} {k : ev_K} {b : ev_B} {u : Nat × Nat} {pc : Nat} {L : List (Option ev_V)} {st : List ev_V} {m : ev_m} {Q : Option ev_V → ev_M → Prop} {i : Nat} (hc : k.2.1.cls = "HelmHand$Book") (d : decode k.1 pc = .ok (.getfield 53, 3)) (kk : ev_E G k b u (pc + 3) L (vi (m.1 1 i 4) :: st) (ev_emb m) Q) : ev_E G k b u pc L (vr 1 i :: st) (ev_emb m) Q := ev_getI (ci := 0) (hc ▸ fl_X0_53) rfl rfl d kk
theorem wf_X0_56 : Cond.fieldLink "HelmHand$Book" 56 "HelmHand$Book" "papers" "I" ∈ ev_GW := tm_1 (List.mem_of_getElem? (i := 202) rfl) rfl
theorem fl_X0_56 : ev_FL "HelmHand$Book" 56 0 5 := ⟨by decide, wf_X0_56⟩
theorem gt_X0_56 {G : ev_G} {k : ev_K} {b : ev_B} {u : Nat × Nat} {pc : Nat} {L : List (Option ev_V)} {st : List ev_V} {m : ev_m} {Q : Option ev_V → ev_M → Prop} {i : Nat} (hc : k.2.1.cls = "HelmHand$Book") (d : decode k.1 pc = .ok (.getfield 56, 3)) (kk : ev_E G k b u (pc + 3) L (vi (m.1 1 i 5) :: st) (ev_emb m) Q) : ev_E G k b u pc L (vr 1 i :: st) (ev_emb m) Q := ev_getI (ci := 0) (hc ▸ fl_X0_56) rfl rfl d kk
theorem wf_X0_59 : Cond.fieldLink "HelmHand$Book" 59 "HelmHand$Book" "watches" "I" ∈ ev_GW := tm_1 (List.mem_of_getElem? (i := 203) rfl) rfl
theorem fl_X0_59 : ev_FL "HelmHand$Book" 59 0 6 := ⟨by decide, wf_X0_59⟩
theorem gt_X0_59 {G : ev_G} {k : ev_K} {b : ev_B} {u : Nat × Nat} {pc : Nat} {L : List (Option ev_V)} {st : List ev_V} {m : ev_m} {Q : Option ev_V → ev_M → Prop} {i : Nat} (hc : k.2.1.cls = "HelmHand$Book") (d : decode k.1 pc = .ok (.getfield 59, 3)) (kk : ev_E G k b u (pc + 3) L (vi (m.1 1 i 6) :: st) (ev_emb m) Q) : ev_E G k b u pc L (vr 1 i :: st) (ev_emb m) Q := ev_getI (ci := 0) (hc ▸ fl_X0_59) rfl rfl d kk
theorem wf_X0_72 : Cond.fieldLink "HelmHand$Book" 72 "HelmHand$Reader" "ship" "LHelmHand$Ship;" ∈ ev_GW := tm_2 (List.mem_of_getElem? (i := 9) rfl) rfl
theorem fl_X0_72 : ev_FL "HelmHand$Book" 72 4 0 := ⟨by decide, wf_X0_72⟩
theorem gt_X0_72 {G : ev_G} {k : ev_K} {b : ev_B} {u : Nat × Nat} {pc : Nat} {L : List (Option ev_V)} {st : List ev_V} {m : ev_m} {Q : Option ev_V → ev_M → Prop} {i : Nat} (hc : k.2.1.cls = "HelmHand$Book") (d : decode k.1 pc = .ok (.getfield 72, 3)) (kk : ev_E G k b u (pc + 3) L (vr 3 9 :: st) (ev_emb m) Q) : ev_E G k b u pc L (vr 7 i :: st) (ev_emb m) Q := ev_getR (ci := 4) (hc ▸ fl_X0_72) rfl rfl rfl d kk
theorem wf_X0_82 : Cond.fieldLink "HelmHand$Book" 82 "HelmHand$Reader" "hand" "LHelmHand$Hand;" ∈ ev_GW := tm_2 (List.mem_of_getElem? (i := 11) rfl) rfl
theorem fl_X0_82 : ev_FL "HelmHand$Book" 82 4 1 := ⟨by decide, wf_X0_82⟩
theorem gt_X0_82 {G : ev_G} {k : ev_K} {b : ev_B} {u : Nat × Nat} {pc : Nat} {L : List (Option ev_V)} {st : List ev_V} {m : ev_m} {Q : Option ev_V → ev_M → Prop} {i : Nat} (hc : k.2.1.cls = "HelmHand$Book") (d : decode k.1 pc = .ok (.getfield 82, 3)) (kk : ev_E G k b u (pc + 3) L (vr 4 17 :: st) (ev_emb m) Q) : ev_E G k b u pc L (vr 7 i :: st) (ev_emb m) Q := ev_getR (ci := 4) (hc ▸ fl_X0_82) rfl rfl rfl d kk
theorem wf_X0_90 : Cond.fieldLink "HelmHand$Book" 90 "HelmHand$Reader" "paper" "LHelmHand$Paper;" ∈ ev_GW := tm_2 (List.mem_of_getElem? (i := 13) rfl) rfl
theorem fl_X0_90 : ev_FL "HelmHand$Book" 90 4 2 := ⟨by decide, wf_X0_90⟩
theorem gt_X0_90 {G : ev_G} {k : ev_K} {b : ev_B} {u : Nat × Nat} {pc : Nat} {L : List (Option ev_V)} {st : List ev_V} {m : ev_m} {Q : Option ev_V → ev_M → Prop} {i : Nat} (hc : k.2.1.cls = "HelmHand$Book") (d : decode k.1 pc = .ok (.getfield 90, 3)) (kk : ev_E G k b u (pc + 3) L (vr 5 8 :: st) (ev_emb m) Q) : ev_E G k b u pc L (vr 7 i :: st) (ev_emb m) Q := ev_getR (ci := 4) (hc ▸ fl_X0_90) rfl rfl rfl d kk
theorem wf_X0_98 : Cond.fieldLink "HelmHand$Book" 98 "HelmHand$Reader" "watch" "LHelmHand$Watch;" ∈ ev_GW := tm_2 (List.mem_of_getElem? (i := 15) rfl) rfl
theorem fl_X0_98 : ev_FL "HelmHand$Book" 98 4 3 := ⟨by decide, wf_X0_98⟩
theorem gt_X0_98 {G : ev_G} {k : ev_K} {b : ev_B} {u : Nat × Nat} {pc : Nat} {L : List (Option ev_V)} {st : List ev_V} {m : ev_m} {Q : Option ev_V → ev_M → Prop} {i : Nat} (hc : k.2.1.cls = "HelmHand$Book") (d : decode k.1 pc = .ok (.getfield 98, 3)) (kk : ev_E G k b u (pc + 3) L (vr 6 8 :: st) (ev_emb m) Q) : ev_E G k b u pc L (vr 7 i :: st) (ev_emb m) Q := ev_getR (ci := 4) (hc ▸ fl_X0_98) rfl rfl rfl d kk
theorem wf_X1_15 : Cond.fieldLink "HelmHand$Hand" 15 "HelmHand$Hand" "till" "[I" ∈ ev_GW := tm_1 (List.mem_of_getElem? (i := 132) rfl) rfl
theorem fl_X1_15 : ev_FL "HelmHand$Hand" 15 1 11 := ⟨by decide, wf_X1_15⟩
theorem gt_X1_15 {G : ev_G} {k : ev_K} {b : ev_B} {u : Nat × Nat} {pc : Nat} {L : List (Option ev_V)} {st : List ev_V} {m : ev_m} {Q : Option ev_V → ev_M → Prop} {i : Nat} (hc : k.2.1.cls = "HelmHand$Hand") (d : decode k.1 pc = .ok (.getfield 15, 3)) (kk : ev_E G k b u (pc + 3) L (vr 14 i :: st) (ev_emb m) Q) : ev_E G k b u pc L (vr 4 i :: st) (ev_emb m) Q := ev_getR (ci := 1) (hc ▸ fl_X1_15) rfl rfl rfl d kk
theorem wf_X1_22 : Cond.fieldLink "HelmHand$Hand" 22 "HelmHand$Hand" "point" "I" ∈ ev_GW := tm_1 (List.mem_of_getElem? (i := 122) rfl) rfl
theorem fl_X1_22 : ev_FL "HelmHand$Hand" 22 1 4 := ⟨by decide, wf_X1_22⟩
theorem gt_X1_22 {G : ev_G} {k : ev_K} {b : ev_B} {u : Nat × Nat} {pc : Nat} {L : List (Option ev_V)} {st : List ev_V} {m : ev_m} {Q : Option ev_V → ev_M → Prop} {i : Nat} (hc : k.2.1.cls = "HelmHand$Hand") (d : decode k.1 pc = .ok (.getfield 22, 3)) (kk : ev_E G k b u (pc + 3) L (vi (m.1 4 i 4) :: st) (ev_emb m) Q) : ev_E G k b u pc L (vr 4 i :: st) (ev_emb m) Q := ev_getI (ci := 1) (hc ▸ fl_X1_22) rfl rfl d kk
theorem wf_X1_26 : Cond.fieldLink "HelmHand$Hand" 26 "HelmHand$Hand" "stars" "I" ∈ ev_GW := tm_1 (List.mem_of_getElem? (i := 129) rfl) rfl
theorem fl_X1_26 : ev_FL "HelmHand$Hand" 26 1 9 := ⟨by decide, wf_X1_26⟩
theorem gt_X1_26 {G : ev_G} {k : ev_K} {b : ev_B} {u : Nat × Nat} {pc : Nat} {L : List (Option ev_V)} {st : List ev_V} {m : ev_m} {Q : Option ev_V → ev_M → Prop} {i : Nat} (hc : k.2.1.cls = "HelmHand$Hand") (d : decode k.1 pc = .ok (.getfield 26, 3)) (kk : ev_E G k b u (pc + 3) L (vi (m.1 4 i 9) :: st) (ev_emb m) Q) : ev_E G k b u pc L (vr 4 i :: st) (ev_emb m) Q := ev_getI (ci := 1) (hc ▸ fl_X1_26) rfl rfl d kk
theorem wf_X1_37 : Cond.fieldLink "HelmHand$Hand" 37 "HelmHand$Hand" "far" "I" ∈ ev_GW := tm_1 (List.mem_of_getElem? (i := 117) rfl) rfl
theorem fl_X1_37 : ev_FL "HelmHand$Hand" 37 1 0 := ⟨by decide, wf_X1_37⟩
theorem gt_X1_37 {G : ev_G} {k : ev_K} {b : ev_B} {u : Nat × Nat} {pc : Nat} {L : List (Option ev_V)} {st : List ev_V} {m : ev_m} {Q : Option ev_V → ev_M → Prop} {i : Nat} (hc : k.2.1.cls = "HelmHand$Hand") (d : decode k.1 pc = .ok (.getfield 37, 3)) (kk : ev_E G k b u (pc + 3) L (vi (m.1 4 i 0) :: st) (ev_emb m) Q) : ev_E G k b u pc L (vr 4 i :: st) (ev_emb m) Q := ev_getI (ci := 1) (hc ▸ fl_X1_37) rfl rfl d kk
theorem wf_X1_40 : Cond.fieldLink "HelmHand$Hand" 40 "HelmHand$Hand" "quick" "I" ∈ ev_GW := tm_1 (List.mem_of_getElem? (i := 119) rfl) rfl
theorem fl_X1_40 : ev_FL "HelmHand$Hand" 40 1 1 := ⟨by decide, wf_X1_40⟩
theorem gt_X1_40 {G : ev_G} {k : ev_K} {b : ev_B} {u : Nat × Nat} {pc : Nat} {L : List (Option ev_V)} {st : List ev_V} {m : ev_m} {Q : Option ev_V → ev_M → Prop} {i : Nat} (hc : k.2.1.cls = "HelmHand$Hand") (d : decode k.1 pc = .ok (.getfield 40, 3)) (kk : ev_E G k b u (pc + 3) L (vi (m.1 4 i 1) :: st) (ev_emb m) Q) : ev_E G k b u pc L (vr 4 i :: st) (ev_emb m) Q := ev_getI (ci := 1) (hc ▸ fl_X1_40) rfl rfl d kk
theorem wf_X1_43 : Cond.fieldLink "HelmHand$Hand" 43 "HelmHand$Hand" "been" "I" ∈ ev_GW := tm_1 (List.mem_of_getElem? (i := 120) rfl) rfl
theorem fl_X1_43 : ev_FL "HelmHand$Hand" 43 1 2 := ⟨by decide, wf_X1_43⟩
theorem gt_X1_43 {G : ev_G} {k : ev_K} {b : ev_B} {u : Nat × Nat} {pc : Nat} {L : List (Option ev_V)} {st : List ev_V} {m : ev_m} {Q : Option ev_V → ev_M → Prop} {i : Nat} (hc : k.2.1.cls = "HelmHand$Hand") (d : decode k.1 pc = .ok (.getfield 43, 3)) (kk : ev_E G k b u (pc + 3) L (vi (m.1 4 i 2) :: st) (ev_emb m) Q) : ev_E G k b u pc L (vr 4 i :: st) (ev_emb m) Q := ev_getI (ci := 1) (hc ▸ fl_X1_43) rfl rfl d kk
theorem wf_X1_46 : Cond.fieldLink "HelmHand$Hand" 46 "HelmHand$Hand" "dead" "I" ∈ ev_GW := tm_1 (List.mem_of_getElem? (i := 121) rfl) rfl
theorem fl_X1_46 : ev_FL "HelmHand$Hand" 46 1 3 := ⟨by decide, wf_X1_46⟩
theorem gt_X1_46 {G : ev_G} {k : ev_K} {b : ev_B} {u : Nat × Nat} {pc : Nat} {L : List (Option ev_V)} {st : List ev_V} {m : ev_m} {Q : Option ev_V → ev_M → Prop} {i : Nat} (hc : k.2.1.cls = "HelmHand$Hand") (d : decode k.1 pc = .ok (.getfield 46, 3)) (kk : ev_E G k b u (pc + 3) L (vi (m.1 4 i 3) :: st) (ev_emb m) Q) : ev_E G k b u pc L (vr 4 i :: st) (ev_emb m) Q := ev_getI (ci := 1) (hc ▸ fl_X1_46) rfl rfl d kk
theorem wf_X1_49 : Cond.fieldLink "HelmHand$Hand" 49 "HelmHand$Hand" "wrong" "I" ∈ ev_GW := tm_1 (List.mem_of_getElem? (i := 124) rfl) rfl
theorem fl_X1_49 : ev_FL "HelmHand$Hand" 49 1 5 := ⟨by decide, wf_X1_49⟩
theorem gt_X1_49 {G : ev_G} {k : ev_K} {b : ev_B} {u : Nat × Nat} {pc : Nat} {L : List (Option ev_V)} {st : List ev_V} {m : ev_m} {Q : Option ev_V → ev_M → Prop} {i : Nat} (hc : k.2.1.cls = "HelmHand$Hand") (d : decode k.1 pc = .ok (.getfield 49, 3)) (kk : ev_E G k b u (pc + 3) L (vi (m.1 4 i 5) :: st) (ev_emb m) Q) : ev_E G k b u pc L (vr 4 i :: st) (ev_emb m) Q := ev_getI (ci := 1) (hc ▸ fl_X1_49) rfl rfl d kk
theorem wf_X1_52 : Cond.fieldLink "HelmHand$Hand" 52 "HelmHand$Hand" "tired" "I" ∈ ev_GW := tm_1 (List.mem_of_getElem? (i := 125) rfl) rfl
theorem fl_X1_52 : ev_FL "HelmHand$Hand" 52 1 6 := ⟨by decide, wf_X1_52⟩
theorem gt_X1_52 {G : ev_G} {k : ev_K} {b : ev_B} {u : Nat × Nat} {pc : Nat} {L : List (Option ev_V)} {st : List ev_V} {m : ev_m} {Q : Option ev_V → ev_M → Prop} {i : Nat} (hc : k.2.1.cls = "HelmHand$Hand") (d : decode k.1 pc = .ok (.getfield 52, 3)) (kk : ev_E G k b u (pc + 3) L (vi (m.1 4 i 6) :: st) (ev_emb m) Q) : ev_E G k b u pc L (vr 4 i :: st) (ev_emb m) Q := ev_getI (ci := 1) (hc ▸ fl_X1_52) rfl rfl d kk
theorem wf_X1_55 : Cond.fieldLink "HelmHand$Hand" 55 "HelmHand$Hand" "slips" "I" ∈ ev_GW := tm_1 (List.mem_of_getElem? (i := 127) rfl) rfl
theorem fl_X1_55 : ev_FL "HelmHand$Hand" 55 1 7 := ⟨by decide, wf_X1_55⟩
theorem gt_X1_55 {G : ev_G} {k : ev_K} {b : ev_B} {u : Nat × Nat} {pc : Nat} {L : List (Option ev_V)} {st : List ev_V} {m : ev_m} {Q : Option ev_V → ev_M → Prop} {i : Nat} (hc : k.2.1.cls = "HelmHand$Hand") (d : decode k.1 pc = .ok (.getfield 55, 3)) (kk : ev_E G k b u (pc + 3) L (vi (m.1 4 i 7) :: st) (ev_emb m) Q) : ev_E G k b u pc L (vr 4 i :: st) (ev_emb m) Q := ev_getI (ci := 1) (hc ▸ fl_X1_55) rfl rfl d kk
theorem wf_X1_58 : Cond.fieldLink "HelmHand$Hand" 58 "HelmHand$Hand" "easy" "Z" ∈ ev_GW := tm_1 (List.mem_of_getElem? (i := 128) rfl) rfl
theorem fl_X1_58 : ev_FL "HelmHand$Hand" 58 1 8 := ⟨by decide, wf_X1_58⟩
theorem gt_X1_58 {G : ev_G} {k : ev_K} {b : ev_B} {u : Nat × Nat} {pc : Nat} {L : List (Option ev_V)} {st : List ev_V} {m : ev_m} {Q : Option ev_V → ev_M → Prop} {i : Nat} (hc : k.2.1.cls = "HelmHand$Hand") (d : decode k.1 pc = .ok (.getfield 58, 3)) (kk : ev_E G k b u (pc + 3) L (vi (m.1 4 i 8) :: st) (ev_emb m) Q) : ev_E G k b u pc L (vr 4 i :: st) (ev_emb m) Q := ev_getI (ci := 1) (hc ▸ fl_X1_58) rfl rfl d kk
theorem wf_X1_9 : Cond.fieldLink "HelmHand$Hand" 9 "HelmHand$Hand" "from" "[I" ∈ ev_GW := tm_1 (List.mem_of_getElem? (i := 131) rfl) rfl
theorem fl_X1_9 : ev_FL "HelmHand$Hand" 9 1 10 := ⟨by decide, wf_X1_9⟩
theorem gt_X1_9 {G : ev_G} {k : ev_K} {b : ev_B} {u : Nat × Nat} {pc : Nat} {L : List (Option ev_V)} {st : List ev_V} {m : ev_m} {Q : Option ev_V → ev_M → Prop} {i : Nat} (hc : k.2.1.cls = "HelmHand$Hand") (d : decode k.1 pc = .ok (.getfield 9, 3)) (kk : ev_E G k b u (pc + 3) L (vr 13 i :: st) (ev_emb m) Q) : ev_E G k b u pc L (vr 4 i :: st) (ev_emb m) Q := ev_getR (ci := 1) (hc ▸ fl_X1_9) rfl rfl rfl d kk
theorem wf_X10_100 : Cond.fieldLink "HelmHandModel" 100 "HelmHandModel" "length" "I" ∈ ev_GW := tm_5 (List.mem_of_getElem? (i := 196) rfl) rfl
theorem fl_X10_100 : ev_FL "HelmHandModel" 100 10 11 := ⟨by decide, wf_X10_100⟩
theorem gt_X10_100 {G : ev_G} {k : ev_K} {b : ev_B} {u : Nat × Nat} {pc : Nat} {L : List (Option ev_V)} {st : List ev_V} {m : ev_m} {Q : Option ev_V → ev_M → Prop} {i : Nat} (hc : k.2.1.cls = "HelmHandModel") (d : decode k.1 pc = .ok (.getfield 100, 3)) (kk : ev_E G k b u (pc + 3) L (vi (m.1 10 i 11) :: st) (ev_emb m) Q) : ev_E G k b u pc L (vr 10 i :: st) (ev_emb m) Q := ev_getI (ci := 10) (hc ▸ fl_X10_100) rfl rfl d kk
theorem wf_X10_107 : Cond.fieldLink "HelmHandModel" 107 "HelmHandModel" "begins" "I" ∈ ev_GW := tm_5 (List.mem_of_getElem? (i := 197) rfl) rfl
theorem fl_X10_107 : ev_FL "HelmHandModel" 107 10 12 := ⟨by decide, wf_X10_107⟩
theorem gt_X10_107 {G : ev_G} {k : ev_K} {b : ev_B} {u : Nat × Nat} {pc : Nat} {L : List (Option ev_V)} {st : List ev_V} {m : ev_m} {Q : Option ev_V → ev_M → Prop} {i : Nat} (hc : k.2.1.cls = "HelmHandModel") (d : decode k.1 pc = .ok (.getfield 107, 3)) (kk : ev_E G k b u (pc + 3) L (vi (m.1 10 i 12) :: st) (ev_emb m) Q) : ev_E G k b u pc L (vr 10 i :: st) (ev_emb m) Q := ev_getI (ci := 10) (hc ▸ fl_X10_107) rfl rfl d kk
theorem wf_X10_110 : Cond.fieldLink "HelmHandModel" 110 "HelmHandModel" "word" "J" ∈ ev_GW := tm_5 (List.mem_of_getElem? (i := 200) rfl) rfl
theorem fl_X10_110 : ev_FL "HelmHandModel" 110 10 15 := ⟨by decide, wf_X10_110⟩
theorem gt_X10_110 {G : ev_G} {k : ev_K} {b : ev_B} {u : Nat × Nat} {pc : Nat} {L : List (Option ev_V)} {st : List ev_V} {m : ev_m} {Q : Option ev_V → ev_M → Prop} {i : Nat} (hc : k.2.1.cls = "HelmHandModel") (d : decode k.1 pc = .ok (.getfield 110, 3)) (kk : ev_E G k b u (pc + 3) L (vl (m.2.1 10 i 15) :: st) (ev_emb m) Q) : ev_E G k b u pc L (vr 10 i :: st) (ev_emb m) Q := ev_getL (ci := 10) (hc ▸ fl_X10_110) rfl rfl d kk
theorem wf_X10_114 : Cond.fieldLink "HelmHandModel" 114 "HelmHandModel" "sort" "I" ∈ ev_GW := tm_5 (List.mem_of_getElem? (i := 198) rfl) rfl
theorem fl_X10_114 : ev_FL "HelmHandModel" 114 10 13 := ⟨by decide, wf_X10_114⟩
theorem gt_X10_114 {G : ev_G} {k : ev_K} {b : ev_B} {u : Nat × Nat} {pc : Nat} {L : List (Option ev_V)} {st : List ev_V} {m : ev_m} {Q : Option ev_V → ev_M → Prop} {i : Nat} (hc : k.2.1.cls = "HelmHandModel") (d : decode k.1 pc = .ok (.getfield 114, 3)) (kk : ev_E G k b u (pc + 3) L (vi (m.1 10 i 13) :: st) (ev_emb m) Q) : ev_E G k b u pc L (vr 10 i :: st) (ev_emb m) Q := ev_getI (ci := 10) (hc ▸ fl_X10_114) rfl rfl d kk
theorem wf_X10_117 : Cond.fieldLink "HelmHandModel" 117 "HelmHandModel" "value" "I" ∈ ev_GW := tm_5 (List.mem_of_getElem? (i := 199) rfl) rfl
theorem fl_X10_117 : ev_FL "HelmHandModel" 117 10 14 := ⟨by decide, wf_X10_117⟩
theorem gt_X10_117 {G : ev_G} {k : ev_K} {b : ev_B} {u : Nat × Nat} {pc : Nat} {L : List (Option ev_V)} {st : List ev_V} {m : ev_m} {Q : Option ev_V → ev_M → Prop} {i : Nat} (hc : k.2.1.cls = "HelmHandModel") (d : decode k.1 pc = .ok (.getfield 117, 3)) (kk : ev_E G k b u (pc + 3) L (vi (m.1 10 i 14) :: st) (ev_emb m) Q) : ev_E G k b u pc L (vr 10 i :: st) (ev_emb m) Q := ev_getI (ci := 10) (hc ▸ fl_X10_117) rfl rfl d kk
theorem wf_X10_120 : Cond.fieldLink "HelmHandModel" 120 "HelmHandModel" "wrongAt" "I" ∈ ev_GW := tm_5 (List.mem_of_getElem? (i := 201) rfl) rfl
theorem fl_X10_120 : ev_FL "HelmHandModel" 120 10 16 := ⟨by decide, wf_X10_120⟩
theorem gt_X10_120 {G : ev_G} {k : ev_K} {b : ev_B} {u : Nat × Nat} {pc : Nat} {L : List (Option ev_V)} {st : List ev_V} {m : ev_m} {Q : Option ev_V → ev_M → Prop} {i : Nat} (hc : k.2.1.cls = "HelmHandModel") (d : decode k.1 pc = .ok (.getfield 120, 3)) (kk : ev_E G k b u (pc + 3) L (vi (m.1 10 i 16) :: st) (ev_emb m) Q) : ev_E G k b u pc L (vr 10 i :: st) (ev_emb m) Q := ev_getI (ci := 10) (hc ▸ fl_X10_120) rfl rfl d kk
theorem wf_X10_123 : Cond.fieldLink "HelmHandModel" 123 "HelmHandModel" "laterFault" "I" ∈ ev_GW := tm_5 (List.mem_of_getElem? (i := 202) rfl) rfl
theorem fl_X10_123 : ev_FL "HelmHandModel" 123 10 17 := ⟨by decide, wf_X10_123⟩
theorem gt_X10_123 {G : ev_G} {k : ev_K} {b : ev_B} {u : Nat × Nat} {pc : Nat} {L : List (Option ev_V)} {st : List ev_V} {m : ev_m} {Q : Option ev_V → ev_M → Prop} {i : Nat} (hc : k.2.1.cls = "HelmHandModel") (d : decode k.1 pc = .ok (.getfield 123, 3)) (kk : ev_E G k b u (pc + 3) L (vi (m.1 10 i 17) :: st) (ev_emb m) Q) : ev_E G k b u pc L (vr 10 i :: st) (ev_emb m) Q := ev_getI (ci := 10) (hc ▸ fl_X10_123) rfl rfl d kk
theorem wf_X10_126 : Cond.fieldLink "HelmHandModel" 126 "HelmHandModel" "laterPlace" "I" ∈ ev_GW := tm_5 (List.mem_of_getElem? (i := 203) rfl) rfl
theorem fl_X10_126 : ev_FL "HelmHandModel" 126 10 18 := ⟨by decide, wf_X10_126⟩
theorem gt_X10_126 {G : ev_G} {k : ev_K} {b : ev_B} {u : Nat × Nat} {pc : Nat} {L : List (Option ev_V)} {st : List ev_V} {m : ev_m} {Q : Option ev_V → ev_M → Prop} {i : Nat} (hc : k.2.1.cls = "HelmHandModel") (d : decode k.1 pc = .ok (.getfield 126, 3)) (kk : ev_E G k b u (pc + 3) L (vi (m.1 10 i 18) :: st) (ev_emb m) Q) : ev_E G k b u pc L (vr 10 i :: st) (ev_emb m) Q := ev_getI (ci := 10) (hc ▸ fl_X10_126) rfl rfl d kk
theorem wf_X10_13 : Cond.fieldLink "HelmHandModel" 13 "HelmHandModel" "size" "[I" ∈ ev_GW := tm_5 (List.mem_of_getElem? (i := 187) rfl) rfl
theorem fl_X10_13 : ev_FL "HelmHandModel" 13 10 2 := ⟨by decide, wf_X10_13⟩
theorem gt_X10_13 {G : ev_G} {k : ev_K} {b : ev_B} {u : Nat × Nat} {pc : Nat} {L : List (Option ev_V)} {st : List ev_V} {m : ev_m} {Q : Option ev_V → ev_M → Prop} {i : Nat} (hc : k.2.1.cls = "HelmHandModel") (d : decode k.1 pc = .ok (.getfield 13, 3)) (kk : ev_E G k b u (pc + 3) L (vr 31 0 :: st) (ev_emb m) Q) : ev_E G k b u pc L (vr 10 i :: st) (ev_emb m) Q := ev_getR (ci := 10) (hc ▸ fl_X10_13) rfl rfl rfl d kk
theorem wf_X10_133 : Cond.fieldLink "HelmHandModel" 133 "HelmHandModel" "read" "I" ∈ ev_GW := tm_5 (List.mem_of_getElem? (i := 205) rfl) rfl
theorem fl_X10_133 : ev_FL "HelmHandModel" 133 10 20 := ⟨by decide, wf_X10_133⟩
theorem gt_X10_133 {G : ev_G} {k : ev_K} {b : ev_B} {u : Nat × Nat} {pc : Nat} {L : List (Option ev_V)} {st : List ev_V} {m : ev_m} {Q : Option ev_V → ev_M → Prop} {i : Nat} (hc : k.2.1.cls = "HelmHandModel") (d : decode k.1 pc = .ok (.getfield 133, 3)) (kk : ev_E G k b u (pc + 3) L (vi (m.1 10 i 20) :: st) (ev_emb m) Q) : ev_E G k b u pc L (vr 10 i :: st) (ev_emb m) Q := ev_getI (ci := 10) (hc ▸ fl_X10_133) rfl rfl d kk
theorem wf_X10_17 : Cond.fieldLink "HelmHandModel" 17 "HelmHandModel" "fault" "[I" ∈ ev_GW := tm_5 (List.mem_of_getElem? (i := 188) rfl) rfl
theorem fl_X10_17 : ev_FL "HelmHandModel" 17 10 3 := ⟨by decide, wf_X10_17⟩
theorem gt_X10_17 {G : ev_G} {k : ev_K} {b : ev_B} {u : Nat × Nat} {pc : Nat} {L : List (Option ev_V)} {st : List ev_V} {m : ev_m} {Q : Option ev_V → ev_M → Prop} {i : Nat} (hc : k.2.1.cls = "HelmHandModel") (d : decode k.1 pc = .ok (.getfield 17, 3)) (kk : ev_E G k b u (pc + 3) L (vr 32 0 :: st) (ev_emb m) Q) : ev_E G k b u pc L (vr 10 i :: st) (ev_emb m) Q := ev_getR (ci := 10) (hc ▸ fl_X10_17) rfl rfl rfl d kk
theorem wf_X10_20 : Cond.fieldLink "HelmHandModel" 20 "HelmHandModel" "faultPlace" "[I" ∈ ev_GW := tm_5 (List.mem_of_getElem? (i := 189) rfl) rfl
theorem fl_X10_20 : ev_FL "HelmHandModel" 20 10 4 := ⟨by decide, wf_X10_20⟩
theorem gt_X10_20 {G : ev_G} {k : ev_K} {b : ev_B} {u : Nat × Nat} {pc : Nat} {L : List (Option ev_V)} {st : List ev_V} {m : ev_m} {Q : Option ev_V → ev_M → Prop} {i : Nat} (hc : k.2.1.cls = "HelmHandModel") (d : decode k.1 pc = .ok (.getfield 20, 3)) (kk : ev_E G k b u (pc + 3) L (vr 33 0 :: st) (ev_emb m) Q) : ev_E G k b u pc L (vr 10 i :: st) (ev_emb m) Q := ev_getR (ci := 10) (hc ▸ fl_X10_20) rfl rfl rfl d kk
theorem wf_X10_23 : Cond.fieldLink "HelmHandModel" 23 "HelmHandModel" "many" "[I" ∈ ev_GW := tm_5 (List.mem_of_getElem? (i := 190) rfl) rfl
theorem fl_X10_23 : ev_FL "HelmHandModel" 23 10 5 := ⟨by decide, wf_X10_23⟩
theorem gt_X10_23 {G : ev_G} {k : ev_K} {b : ev_B} {u : Nat × Nat} {pc : Nat} {L : List (Option ev_V)} {st : List ev_V} {m : ev_m} {Q : Option ev_V → ev_M → Prop} {i : Nat} (hc : k.2.1.cls = "HelmHandModel") (d : decode k.1 pc = .ok (.getfield 23, 3)) (kk : ev_E G k b u (pc + 3) L (vr 34 0 :: st) (ev_emb m) Q) : ev_E G k b u pc L (vr 10 i :: st) (ev_emb m) Q := ev_getR (ci := 10) (hc ▸ fl_X10_23) rfl rfl rfl d kk
theorem wf_X10_236 : Cond.fieldLink "HelmHandModel" 236 "HelmHandModel" "drawn" "I" ∈ ev_GW := tm_5 (List.mem_of_getElem? (i := 211) rfl) rfl
theorem fl_X10_236 : ev_FL "HelmHandModel" 236 10 26 := ⟨by decide, wf_X10_236⟩
theorem gt_X10_236 {G : ev_G} {k : ev_K} {b : ev_B} {u : Nat × Nat} {pc : Nat} {L : List (Option ev_V)} {st : List ev_V} {m : ev_m} {Q : Option ev_V → ev_M → Prop} {i : Nat} (hc : k.2.1.cls = "HelmHandModel") (d : decode k.1 pc = .ok (.getfield 236, 3)) (kk : ev_E G k b u (pc + 3) L (vi (m.1 10 i 26) :: st) (ev_emb m) Q) : ev_E G k b u pc L (vr 10 i :: st) (ev_emb m) Q := ev_getI (ci := 10) (hc ▸ fl_X10_236) rfl rfl d kk
theorem wf_X10_240 : Cond.fieldLink "HelmHandModel" 240 "HelmHandModel" "done" "I" ∈ ev_GW := tm_5 (List.mem_of_getElem? (i := 217) rfl) rfl
theorem fl_X10_240 : ev_FL "HelmHandModel" 240 10 32 := ⟨by decide, wf_X10_240⟩
theorem gt_X10_240 {G : ev_G} {k : ev_K} {b : ev_B} {u : Nat × Nat} {pc : Nat} {L : List (Option ev_V)} {st : List ev_V} {m : ev_m} {Q : Option ev_V → ev_M → Prop} {i : Nat} (hc : k.2.1.cls = "HelmHandModel") (d : decode k.1 pc = .ok (.getfield 240, 3)) (kk : ev_E G k b u (pc + 3) L (vi (m.1 10 i 32) :: st) (ev_emb m) Q) : ev_E G k b u pc L (vr 10 i :: st) (ev_emb m) Q := ev_getI (ci := 10) (hc ▸ fl_X10_240) rfl rfl d kk
theorem wf_X10_243 : Cond.fieldLink "HelmHandModel" 243 "HelmHandModel" "off" "J" ∈ ev_GW := tm_5 (List.mem_of_getElem? (i := 218) rfl) rfl
theorem fl_X10_243 : ev_FL "HelmHandModel" 243 10 33 := ⟨by decide, wf_X10_243⟩
theorem gt_X10_243 {G : ev_G} {k : ev_K} {b : ev_B} {u : Nat × Nat} {pc : Nat} {L : List (Option ev_V)} {st : List ev_V} {m : ev_m} {Q : Option ev_V → ev_M → Prop} {i : Nat} (hc : k.2.1.cls = "HelmHandModel") (d : decode k.1 pc = .ok (.getfield 243, 3)) (kk : ev_E G k b u (pc + 3) L (vl (m.2.1 10 i 33) :: st) (ev_emb m) Q) : ev_E G k b u pc L (vr 10 i :: st) (ev_emb m) Q := ev_getL (ci := 10) (hc ▸ fl_X10_243) rfl rfl d kk
theorem wf_X10_246 : Cond.fieldLink "HelmHandModel" 246 "HelmHandModel" "wear" "I" ∈ ev_GW := tm_5 (List.mem_of_getElem? (i := 219) rfl) rfl
theorem fl_X10_246 : ev_FL "HelmHandModel" 246 10 34 := ⟨by decide, wf_X10_246⟩
theorem gt_X10_246 {G : ev_G} {k : ev_K} {b : ev_B} {u : Nat × Nat} {pc : Nat} {L : List (Option ev_V)} {st : List ev_V} {m : ev_m} {Q : Option ev_V → ev_M → Prop} {i : Nat} (hc : k.2.1.cls = "HelmHandModel") (d : decode k.1 pc = .ok (.getfield 246, 3)) (kk : ev_E G k b u (pc + 3) L (vi (m.1 10 i 34) :: st) (ev_emb m) Q) : ev_E G k b u pc L (vr 10 i :: st) (ev_emb m) Q := ev_getI (ci := 10) (hc ▸ fl_X10_246) rfl rfl d kk
theorem wf_X10_249 : Cond.fieldLink "HelmHandModel" 249 "HelmHandModel" "lost" "J" ∈ ev_GW := tm_5 (List.mem_of_getElem? (i := 220) rfl) rfl
theorem fl_X10_249 : ev_FL "HelmHandModel" 249 10 35 := ⟨by decide, wf_X10_249⟩
theorem gt_X10_249 {G : ev_G} {k : ev_K} {b : ev_B} {u : Nat × Nat} {pc : Nat} {L : List (Option ev_V)} {st : List ev_V} {m : ev_m} {Q : Option ev_V → ev_M → Prop} {i : Nat} (hc : k.2.1.cls = "HelmHandModel") (d : decode k.1 pc = .ok (.getfield 249, 3)) (kk : ev_E G k b u (pc + 3) L (vl (m.2.1 10 i 35) :: st) (ev_emb m) Q) : ev_E G k b u pc L (vr 10 i :: st) (ev_emb m) Q := ev_getL (ci := 10) (hc ▸ fl_X10_249) rfl rfl d kk
theorem wf_X10_252 : Cond.fieldLink "HelmHandModel" 252 "HelmHandModel" "widest" "I" ∈ ev_GW := tm_5 (List.mem_of_getElem? (i := 221) rfl) rfl
theorem fl_X10_252 : ev_FL "HelmHandModel" 252 10 36 := ⟨by decide, wf_X10_252⟩
theorem gt_X10_252 {G : ev_G} {k : ev_K} {b : ev_B} {u : Nat × Nat} {pc : Nat} {L : List (Option ev_V)} {st : List ev_V} {m : ev_m} {Q : Option ev_V → ev_M → Prop} {i : Nat} (hc : k.2.1.cls = "HelmHandModel") (d : decode k.1 pc = .ok (.getfield 252, 3)) (kk : ev_E G k b u (pc + 3) L (vi (m.1 10 i 36) :: st) (ev_emb m) Q) : ev_E G k b u pc L (vr 10 i :: st) (ev_emb m) Q := ev_getI (ci := 10) (hc ▸ fl_X10_252) rfl rfl d kk
theorem wf_X10_255 : Cond.fieldLink "HelmHandModel" 255 "HelmHandModel" "drift" "J" ∈ ev_GW := tm_5 (List.mem_of_getElem? (i := 222) rfl) rfl
theorem fl_X10_255 : ev_FL "HelmHandModel" 255 10 37 := ⟨by decide, wf_X10_255⟩
theorem gt_X10_255 {G : ev_G} {k : ev_K} {b : ev_B} {u : Nat × Nat} {pc : Nat} {L : List (Option ev_V)} {st : List ev_V} {m : ev_m} {Q : Option ev_V → ev_M → Prop} {i : Nat} (hc : k.2.1.cls = "HelmHandModel") (d : decode k.1 pc = .ok (.getfield 255, 3)) (kk : ev_E G k b u (pc + 3) L (vl (m.2.1 10 i 37) :: st) (ev_emb m) Q) : ev_E G k b u pc L (vr 10 i :: st) (ev_emb m) Q := ev_getL (ci := 10) (hc ▸ fl_X10_255) rfl rfl d kk
theorem wf_X10_258 : Cond.fieldLink "HelmHandModel" 258 "HelmHandModel" "times" "I" ∈ ev_GW := tm_5 (List.mem_of_getElem? (i := 223) rfl) rfl
theorem fl_X10_258 : ev_FL "HelmHandModel" 258 10 38 := ⟨by decide, wf_X10_258⟩
theorem gt_X10_258 {G : ev_G} {k : ev_K} {b : ev_B} {u : Nat × Nat} {pc : Nat} {L : List (Option ev_V)} {st : List ev_V} {m : ev_m} {Q : Option ev_V → ev_M → Prop} {i : Nat} (hc : k.2.1.cls = "HelmHandModel") (d : decode k.1 pc = .ok (.getfield 258, 3)) (kk : ev_E G k b u (pc + 3) L (vi (m.1 10 i 38) :: st) (ev_emb m) Q) : ev_E G k b u pc L (vr 10 i :: st) (ev_emb m) Q := ev_getI (ci := 10) (hc ▸ fl_X10_258) rfl rfl d kk
theorem wf_X10_26 : Cond.fieldLink "HelmHandModel" 26 "HelmHandModel" "ships" "[I" ∈ ev_GW := tm_5 (List.mem_of_getElem? (i := 191) rfl) rfl
theorem fl_X10_26 : ev_FL "HelmHandModel" 26 10 6 := ⟨by decide, wf_X10_26⟩
theorem gt_X10_26 {G : ev_G} {k : ev_K} {b : ev_B} {u : Nat × Nat} {pc : Nat} {L : List (Option ev_V)} {st : List ev_V} {m : ev_m} {Q : Option ev_V → ev_M → Prop} {i : Nat} (hc : k.2.1.cls = "HelmHandModel") (d : decode k.1 pc = .ok (.getfield 26, 3)) (kk : ev_E G k b u (pc + 3) L (vr 35 0 :: st) (ev_emb m) Q) : ev_E G k b u pc L (vr 10 i :: st) (ev_emb m) Q := ev_getR (ci := 10) (hc ▸ fl_X10_26) rfl rfl rfl d kk
theorem wf_X10_264 : Cond.fieldLink "HelmHandModel" 264 "HelmHandModel" "sign" "I" ∈ ev_GW := tm_5 (List.mem_of_getElem? (i := 224) rfl) rfl
theorem fl_X10_264 : ev_FL "HelmHandModel" 264 10 39 := ⟨by decide, wf_X10_264⟩
theorem gt_X10_264 {G : ev_G} {k : ev_K} {b : ev_B} {u : Nat × Nat} {pc : Nat} {L : List (Option ev_V)} {st : List ev_V} {m : ev_m} {Q : Option ev_V → ev_M → Prop} {i : Nat} (hc : k.2.1.cls = "HelmHandModel") (d : decode k.1 pc = .ok (.getfield 264, 3)) (kk : ev_E G k b u (pc + 3) L (vi (m.1 10 i 39) :: st) (ev_emb m) Q) : ev_E G k b u pc L (vr 10 i :: st) (ev_emb m) Q := ev_getI (ci := 10) (hc ▸ fl_X10_264) rfl rfl d kk
theorem wf_X10_267 : Cond.fieldLink "HelmHandModel" 267 "HelmHandModel" "spokes" "I" ∈ ev_GW := tm_5 (List.mem_of_getElem? (i := 225) rfl) rfl
theorem fl_X10_267 : ev_FL "HelmHandModel" 267 10 40 := ⟨by decide, wf_X10_267⟩
theorem gt_X10_267 {G : ev_G} {k : ev_K} {b : ev_B} {u : Nat × Nat} {pc : Nat} {L : List (Option ev_V)} {st : List ev_V} {m : ev_m} {Q : Option ev_V → ev_M → Prop} {i : Nat} (hc : k.2.1.cls = "HelmHandModel") (d : decode k.1 pc = .ok (.getfield 267, 3)) (kk : ev_E G k b u (pc + 3) L (vi (m.1 10 i 40) :: st) (ev_emb m) Q) : ev_E G k b u pc L (vr 10 i :: st) (ev_emb m) Q := ev_getI (ci := 10) (hc ▸ fl_X10_267) rfl rfl d kk
theorem wf_X10_270 : Cond.fieldLink "HelmHandModel" 270 "HelmHandModel" "still" "I" ∈ ev_GW := tm_5 (List.mem_of_getElem? (i := 226) rfl) rfl
theorem fl_X10_270 : ev_FL "HelmHandModel" 270 10 41 := ⟨by decide, wf_X10_270⟩
theorem gt_X10_270 {G : ev_G} {k : ev_K} {b : ev_B} {u : Nat × Nat} {pc : Nat} {L : List (Option ev_V)} {st : List ev_V} {m : ev_m} {Q : Option ev_V → ev_M → Prop} {i : Nat} (hc : k.2.1.cls = "HelmHandModel") (d : decode k.1 pc = .ok (.getfield 270, 3)) (kk : ev_E G k b u (pc + 3) L (vi (m.1 10 i 41) :: st) (ev_emb m) Q) : ev_E G k b u pc L (vr 10 i :: st) (ev_emb m) Q := ev_getI (ci := 10) (hc ▸ fl_X10_270) rfl rfl d kk
theorem wf_X10_273 : Cond.fieldLink "HelmHandModel" 273 "HelmHandModel" "longest" "I" ∈ ev_GW := tm_5 (List.mem_of_getElem? (i := 227) rfl) rfl
theorem fl_X10_273 : ev_FL "HelmHandModel" 273 10 42 := ⟨by decide, wf_X10_273⟩
theorem gt_X10_273 {G : ev_G} {k : ev_K} {b : ev_B} {u : Nat × Nat} {pc : Nat} {L : List (Option ev_V)} {st : List ev_V} {m : ev_m} {Q : Option ev_V → ev_M → Prop} {i : Nat} (hc : k.2.1.cls = "HelmHandModel") (d : decode k.1 pc = .ok (.getfield 273, 3)) (kk : ev_E G k b u (pc + 3) L (vi (m.1 10 i 42) :: st) (ev_emb m) Q) : ev_E G k b u pc L (vr 10 i :: st) (ev_emb m) Q := ev_getI (ci := 10) (hc ▸ fl_X10_273) rfl rfl d kk
theorem wf_X10_29 : Cond.fieldLink "HelmHandModel" 29 "HelmHandModel" "hands" "[I" ∈ ev_GW := tm_5 (List.mem_of_getElem? (i := 192) rfl) rfl
theorem fl_X10_29 : ev_FL "HelmHandModel" 29 10 7 := ⟨by decide, wf_X10_29⟩
theorem gt_X10_29 {G : ev_G} {k : ev_K} {b : ev_B} {u : Nat × Nat} {pc : Nat} {L : List (Option ev_V)} {st : List ev_V} {m : ev_m} {Q : Option ev_V → ev_M → Prop} {i : Nat} (hc : k.2.1.cls = "HelmHandModel") (d : decode k.1 pc = .ok (.getfield 29, 3)) (kk : ev_E G k b u (pc + 3) L (vr 36 0 :: st) (ev_emb m) Q) : ev_E G k b u pc L (vr 10 i :: st) (ev_emb m) Q := ev_getR (ci := 10) (hc ▸ fl_X10_29) rfl rfl rfl d kk
theorem wf_X10_32 : Cond.fieldLink "HelmHandModel" 32 "HelmHandModel" "papers" "[I" ∈ ev_GW := tm_5 (List.mem_of_getElem? (i := 193) rfl) rfl
theorem fl_X10_32 : ev_FL "HelmHandModel" 32 10 8 := ⟨by decide, wf_X10_32⟩
theorem gt_X10_32 {G : ev_G} {k : ev_K} {b : ev_B} {u : Nat × Nat} {pc : Nat} {L : List (Option ev_V)} {st : List ev_V} {m : ev_m} {Q : Option ev_V → ev_M → Prop} {i : Nat} (hc : k.2.1.cls = "HelmHandModel") (d : decode k.1 pc = .ok (.getfield 32, 3)) (kk : ev_E G k b u (pc + 3) L (vr 37 0 :: st) (ev_emb m) Q) : ev_E G k b u pc L (vr 10 i :: st) (ev_emb m) Q := ev_getR (ci := 10) (hc ▸ fl_X10_32) rfl rfl rfl d kk
theorem wf_X10_35 : Cond.fieldLink "HelmHandModel" 35 "HelmHandModel" "watches" "[I" ∈ ev_GW := tm_5 (List.mem_of_getElem? (i := 194) rfl) rfl
theorem fl_X10_35 : ev_FL "HelmHandModel" 35 10 9 := ⟨by decide, wf_X10_35⟩
theorem gt_X10_35 {G : ev_G} {k : ev_K} {b : ev_B} {u : Nat × Nat} {pc : Nat} {L : List (Option ev_V)} {st : List ev_V} {m : ev_m} {Q : Option ev_V → ev_M → Prop} {i : Nat} (hc : k.2.1.cls = "HelmHandModel") (d : decode k.1 pc = .ok (.getfield 35, 3)) (kk : ev_E G k b u (pc + 3) L (vr 38 0 :: st) (ev_emb m) Q) : ev_E G k b u pc L (vr 10 i :: st) (ev_emb m) Q := ev_getR (ci := 10) (hc ▸ fl_X10_35) rfl rfl rfl d kk
theorem wf_X10_38 : Cond.fieldLink "HelmHandModel" 38 "HelmHandModel" "row" "[I" ∈ ev_GW := tm_5 (List.mem_of_getElem? (i := 204) rfl) rfl
theorem fl_X10_38 : ev_FL "HelmHandModel" 38 10 19 := ⟨by decide, wf_X10_38⟩
theorem gt_X10_38 {G : ev_G} {k : ev_K} {b : ev_B} {u : Nat × Nat} {pc : Nat} {L : List (Option ev_V)} {st : List ev_V} {m : ev_m} {Q : Option ev_V → ev_M → Prop} {i : Nat} (hc : k.2.1.cls = "HelmHandModel") (d : decode k.1 pc = .ok (.getfield 38, 3)) (kk : ev_E G k b u (pc + 3) L (vr 39 0 :: st) (ev_emb m) Q) : ev_E G k b u pc L (vr 10 i :: st) (ev_emb m) Q := ev_getR (ci := 10) (hc ▸ fl_X10_38) rfl rfl rfl d kk
theorem wf_X10_41 : Cond.fieldLink "HelmHandModel" 41 "HelmHandModel" "now" "[I" ∈ ev_GW := tm_5 (List.mem_of_getElem? (i := 206) rfl) rfl
theorem fl_X10_41 : ev_FL "HelmHandModel" 41 10 21 := ⟨by decide, wf_X10_41⟩
theorem gt_X10_41 {G : ev_G} {k : ev_K} {b : ev_B} {u : Nat × Nat} {pc : Nat} {L : List (Option ev_V)} {st : List ev_V} {m : ev_m} {Q : Option ev_V → ev_M → Prop} {i : Nat} (hc : k.2.1.cls = "HelmHandModel") (d : decode k.1 pc = .ok (.getfield 41, 3)) (kk : ev_E G k b u (pc + 3) L (vr 40 0 :: st) (ev_emb m) Q) : ev_E G k b u pc L (vr 10 i :: st) (ev_emb m) Q := ev_getR (ci := 10) (hc ▸ fl_X10_41) rfl rfl rfl d kk
theorem wf_X10_44 : Cond.fieldLink "HelmHandModel" 44 "HelmHandModel" "man" "[I" ∈ ev_GW := tm_5 (List.mem_of_getElem? (i := 207) rfl) rfl
theorem fl_X10_44 : ev_FL "HelmHandModel" 44 10 22 := ⟨by decide, wf_X10_44⟩
theorem gt_X10_44 {G : ev_G} {k : ev_K} {b : ev_B} {u : Nat × Nat} {pc : Nat} {L : List (Option ev_V)} {st : List ev_V} {m : ev_m} {Q : Option ev_V → ev_M → Prop} {i : Nat} (hc : k.2.1.cls = "HelmHandModel") (d : decode k.1 pc = .ok (.getfield 44, 3)) (kk : ev_E G k b u (pc + 3) L (vr 41 0 :: st) (ev_emb m) Q) : ev_E G k b u pc L (vr 10 i :: st) (ev_emb m) Q := ev_getR (ci := 10) (hc ▸ fl_X10_44) rfl rfl rfl d kk
theorem wf_X10_47 : Cond.fieldLink "HelmHandModel" 47 "HelmHandModel" "saw" "[I" ∈ ev_GW := tm_5 (List.mem_of_getElem? (i := 208) rfl) rfl
theorem fl_X10_47 : ev_FL "HelmHandModel" 47 10 23 := ⟨by decide, wf_X10_47⟩
theorem gt_X10_47 {G : ev_G} {k : ev_K} {b : ev_B} {u : Nat × Nat} {pc : Nat} {L : List (Option ev_V)} {st : List ev_V} {m : ev_m} {Q : Option ev_V → ev_M → Prop} {i : Nat} (hc : k.2.1.cls = "HelmHandModel") (d : decode k.1 pc = .ok (.getfield 47, 3)) (kk : ev_E G k b u (pc + 3) L (vr 42 0 :: st) (ev_emb m) Q) : ev_E G k b u pc L (vr 10 i :: st) (ev_emb m) Q := ev_getR (ci := 10) (hc ▸ fl_X10_47) rfl rfl rfl d kk
theorem wf_X10_50 : Cond.fieldLink "HelmHandModel" 50 "HelmHandModel" "sum" "[I" ∈ ev_GW := tm_5 (List.mem_of_getElem? (i := 209) rfl) rfl
theorem fl_X10_50 : ev_FL "HelmHandModel" 50 10 24 := ⟨by decide, wf_X10_50⟩
theorem gt_X10_50 {G : ev_G} {k : ev_K} {b : ev_B} {u : Nat × Nat} {pc : Nat} {L : List (Option ev_V)} {st : List ev_V} {m : ev_m} {Q : Option ev_V → ev_M → Prop} {i : Nat} (hc : k.2.1.cls = "HelmHandModel") (d : decode k.1 pc = .ok (.getfield 50, 3)) (kk : ev_E G k b u (pc + 3) L (vr 43 0 :: st) (ev_emb m) Q) : ev_E G k b u pc L (vr 10 i :: st) (ev_emb m) Q := ev_getR (ci := 10) (hc ▸ fl_X10_50) rfl rfl rfl d kk
theorem wf_X10_53 : Cond.fieldLink "HelmHandModel" 53 "HelmHandModel" "begun" "[I" ∈ ev_GW := tm_5 (List.mem_of_getElem? (i := 210) rfl) rfl
theorem fl_X10_53 : ev_FL "HelmHandModel" 53 10 25 := ⟨by decide, wf_X10_53⟩
theorem gt_X10_53 {G : ev_G} {k : ev_K} {b : ev_B} {u : Nat × Nat} {pc : Nat} {L : List (Option ev_V)} {st : List ev_V} {m : ev_m} {Q : Option ev_V → ev_M → Prop} {i : Nat} (hc : k.2.1.cls = "HelmHandModel") (d : decode k.1 pc = .ok (.getfield 53, 3)) (kk : ev_E G k b u (pc + 3) L (vr 44 0 :: st) (ev_emb m) Q) : ev_E G k b u pc L (vr 10 i :: st) (ev_emb m) Q := ev_getR (ci := 10) (hc ▸ fl_X10_53) rfl rfl rfl d kk
theorem wf_X10_56 : Cond.fieldLink "HelmHandModel" 56 "HelmHandModel" "heads" "[I" ∈ ev_GW := tm_5 (List.mem_of_getElem? (i := 212) rfl) rfl
theorem fl_X10_56 : ev_FL "HelmHandModel" 56 10 27 := ⟨by decide, wf_X10_56⟩
theorem gt_X10_56 {G : ev_G} {k : ev_K} {b : ev_B} {u : Nat × Nat} {pc : Nat} {L : List (Option ev_V)} {st : List ev_V} {m : ev_m} {Q : Option ev_V → ev_M → Prop} {i : Nat} (hc : k.2.1.cls = "HelmHandModel") (d : decode k.1 pc = .ok (.getfield 56, 3)) (kk : ev_E G k b u (pc + 3) L (vr 45 0 :: st) (ev_emb m) Q) : ev_E G k b u pc L (vr 10 i :: st) (ev_emb m) Q := ev_getR (ci := 10) (hc ▸ fl_X10_56) rfl rfl rfl d kk
theorem wf_X10_59 : Cond.fieldLink "HelmHandModel" 59 "HelmHandModel" "paces" "[I" ∈ ev_GW := tm_5 (List.mem_of_getElem? (i := 213) rfl) rfl
theorem fl_X10_59 : ev_FL "HelmHandModel" 59 10 28 := ⟨by decide, wf_X10_59⟩
theorem gt_X10_59 {G : ev_G} {k : ev_K} {b : ev_B} {u : Nat × Nat} {pc : Nat} {L : List (Option ev_V)} {st : List ev_V} {m : ev_m} {Q : Option ev_V → ev_M → Prop} {i : Nat} (hc : k.2.1.cls = "HelmHandModel") (d : decode k.1 pc = .ok (.getfield 59, 3)) (kk : ev_E G k b u (pc + 3) L (vr 46 0 :: st) (ev_emb m) Q) : ev_E G k b u pc L (vr 10 i :: st) (ev_emb m) Q := ev_getR (ci := 10) (hc ▸ fl_X10_59) rfl rfl rfl d kk
theorem wf_X10_62 : Cond.fieldLink "HelmHandModel" 62 "HelmHandModel" "rudders" "[I" ∈ ev_GW := tm_5 (List.mem_of_getElem? (i := 214) rfl) rfl
theorem fl_X10_62 : ev_FL "HelmHandModel" 62 10 29 := ⟨by decide, wf_X10_62⟩
theorem gt_X10_62 {G : ev_G} {k : ev_K} {b : ev_B} {u : Nat × Nat} {pc : Nat} {L : List (Option ev_V)} {st : List ev_V} {m : ev_m} {Q : Option ev_V → ev_M → Prop} {i : Nat} (hc : k.2.1.cls = "HelmHandModel") (d : decode k.1 pc = .ok (.getfield 62, 3)) (kk : ev_E G k b u (pc + 3) L (vr 47 0 :: st) (ev_emb m) Q) : ev_E G k b u pc L (vr 10 i :: st) (ev_emb m) Q := ev_getR (ci := 10) (hc ▸ fl_X10_62) rfl rfl rfl d kk
theorem wf_X10_65 : Cond.fieldLink "HelmHandModel" 65 "HelmHandModel" "seen" "[I" ∈ ev_GW := tm_5 (List.mem_of_getElem? (i := 215) rfl) rfl
theorem fl_X10_65 : ev_FL "HelmHandModel" 65 10 30 := ⟨by decide, wf_X10_65⟩
theorem gt_X10_65 {G : ev_G} {k : ev_K} {b : ev_B} {u : Nat × Nat} {pc : Nat} {L : List (Option ev_V)} {st : List ev_V} {m : ev_m} {Q : Option ev_V → ev_M → Prop} {i : Nat} (hc : k.2.1.cls = "HelmHandModel") (d : decode k.1 pc = .ok (.getfield 65, 3)) (kk : ev_E G k b u (pc + 3) L (vr 48 0 :: st) (ev_emb m) Q) : ev_E G k b u pc L (vr 10 i :: st) (ev_emb m) Q := ev_getR (ci := 10) (hc ▸ fl_X10_65) rfl rfl rfl d kk
theorem wf_X10_68 : Cond.fieldLink "HelmHandModel" 68 "HelmHandModel" "peaks" "[I" ∈ ev_GW := tm_5 (List.mem_of_getElem? (i := 216) rfl) rfl
theorem fl_X10_68 : ev_FL "HelmHandModel" 68 10 31 := ⟨by decide, wf_X10_68⟩
theorem gt_X10_68 {G : ev_G} {k : ev_K} {b : ev_B} {u : Nat × Nat} {pc : Nat} {L : List (Option ev_V)} {st : List ev_V} {m : ev_m} {Q : Option ev_V → ev_M → Prop} {i : Nat} (hc : k.2.1.cls = "HelmHandModel") (d : decode k.1 pc = .ok (.getfield 68, 3)) (kk : ev_E G k b u (pc + 3) L (vr 49 0 :: st) (ev_emb m) Q) : ev_E G k b u pc L (vr 10 i :: st) (ev_emb m) Q := ev_getR (ci := 10) (hc ▸ fl_X10_68) rfl rfl rfl d kk
theorem wf_X10_7 : Cond.fieldLink "HelmHandModel" 7 "HelmHandModel" "tape" "[B" ∈ ev_GW := tm_5 (List.mem_of_getElem? (i := 186) rfl) rfl
theorem fl_X10_7 : ev_FL "HelmHandModel" 7 10 1 := ⟨by decide, wf_X10_7⟩
theorem gt_X10_7 {G : ev_G} {k : ev_K} {b : ev_B} {u : Nat × Nat} {pc : Nat} {L : List (Option ev_V)} {st : List ev_V} {m : ev_m} {Q : Option ev_V → ev_M → Prop} {i : Nat} (hc : k.2.1.cls = "HelmHandModel") (d : decode k.1 pc = .ok (.getfield 7, 3)) (kk : ev_E G k b u (pc + 3) L (vr 30 0 :: st) (ev_emb m) Q) : ev_E G k b u pc L (vr 10 i :: st) (ev_emb m) Q := ev_getR (ci := 10) (hc ▸ fl_X10_7) rfl rfl rfl d kk
theorem wf_X10_71 : Cond.fieldLink "HelmHandModel" 71 "HelmHandModel" "order" "[I" ∈ ev_GW := tm_5 (List.mem_of_getElem? (i := 228) rfl) rfl
theorem fl_X10_71 : ev_FL "HelmHandModel" 71 10 43 := ⟨by decide, wf_X10_71⟩
theorem gt_X10_71 {G : ev_G} {k : ev_K} {b : ev_B} {u : Nat × Nat} {pc : Nat} {L : List (Option ev_V)} {st : List ev_V} {m : ev_m} {Q : Option ev_V → ev_M → Prop} {i : Nat} (hc : k.2.1.cls = "HelmHandModel") (d : decode k.1 pc = .ok (.getfield 71, 3)) (kk : ev_E G k b u (pc + 3) L (vr 50 0 :: st) (ev_emb m) Q) : ev_E G k b u pc L (vr 10 i :: st) (ev_emb m) Q := ev_getR (ci := 10) (hc ▸ fl_X10_71) rfl rfl rfl d kk
theorem wf_X10_74 : Cond.fieldLink "HelmHandModel" 74 "HelmHandModel" "best" "[I" ∈ ev_GW := tm_5 (List.mem_of_getElem? (i := 229) rfl) rfl
theorem fl_X10_74 : ev_FL "HelmHandModel" 74 10 44 := ⟨by decide, wf_X10_74⟩
theorem gt_X10_74 {G : ev_G} {k : ev_K} {b : ev_B} {u : Nat × Nat} {pc : Nat} {L : List (Option ev_V)} {st : List ev_V} {m : ev_m} {Q : Option ev_V → ev_M → Prop} {i : Nat} (hc : k.2.1.cls = "HelmHandModel") (d : decode k.1 pc = .ok (.getfield 74, 3)) (kk : ev_E G k b u (pc + 3) L (vr 51 0 :: st) (ev_emb m) Q) : ev_E G k b u pc L (vr 10 i :: st) (ev_emb m) Q := ev_getR (ci := 10) (hc ▸ fl_X10_74) rfl rfl rfl d kk
theorem wf_X10_77 : Cond.fieldLink "HelmHandModel" 77 "HelmHandModel" "kept" "[Z" ∈ ev_GW := tm_5 (List.mem_of_getElem? (i := 230) rfl) rfl
theorem fl_X10_77 : ev_FL "HelmHandModel" 77 10 45 := ⟨by decide, wf_X10_77⟩
theorem gt_X10_77 {G : ev_G} {k : ev_K} {b : ev_B} {u : Nat × Nat} {pc : Nat} {L : List (Option ev_V)} {st : List ev_V} {m : ev_m} {Q : Option ev_V → ev_M → Prop} {i : Nat} (hc : k.2.1.cls = "HelmHandModel") (d : decode k.1 pc = .ok (.getfield 77, 3)) (kk : ev_E G k b u (pc + 3) L (vr 52 0 :: st) (ev_emb m) Q) : ev_E G k b u pc L (vr 10 i :: st) (ev_emb m) Q := ev_getR (ci := 10) (hc ▸ fl_X10_77) rfl rfl rfl d kk
theorem wf_X10_97 : Cond.fieldLink "HelmHandModel" 97 "HelmHandModel" "ahead" "I" ∈ ev_GW := tm_5 (List.mem_of_getElem? (i := 195) rfl) rfl
theorem fl_X10_97 : ev_FL "HelmHandModel" 97 10 10 := ⟨by decide, wf_X10_97⟩
theorem gt_X10_97 {G : ev_G} {k : ev_K} {b : ev_B} {u : Nat × Nat} {pc : Nat} {L : List (Option ev_V)} {st : List ev_V} {m : ev_m} {Q : Option ev_V → ev_M → Prop} {i : Nat} (hc : k.2.1.cls = "HelmHandModel") (d : decode k.1 pc = .ok (.getfield 97, 3)) (kk : ev_E G k b u (pc + 3) L (vi (m.1 10 i 10) :: st) (ev_emb m) Q) : ev_E G k b u pc L (vr 10 i :: st) (ev_emb m) Q := ev_getI (ci := 10) (hc ▸ fl_X10_97) rfl rfl d kk
theorem wf_X2_13 : Cond.fieldLink "HelmHand$Mate" 13 "HelmHand$Mate" "t" "I" ∈ ev_GW := tm_2 (List.mem_of_getElem? (i := 65) rfl) rfl
theorem fl_X2_13 : ev_FL "HelmHand$Mate" 13 2 1 := ⟨by decide, wf_X2_13⟩
theorem gt_X2_13 {G : ev_G} {k : ev_K} {b : ev_B} {u : Nat × Nat} {pc : Nat} {L : List (Option ev_V)} {st : List ev_V} {m : ev_m} {Q : Option ev_V → ev_M → Prop} {i : Nat} (hc : k.2.1.cls = "HelmHand$Mate") (d : decode k.1 pc = .ok (.getfield 13, 3)) (kk : ev_E G k b u (pc + 3) L (vi (m.1 9 i 1) :: st) (ev_emb m) Q) : ev_E G k b u pc L (vr 9 i :: st) (ev_emb m) Q := ev_getI (ci := 2) (hc ▸ fl_X2_13) rfl rfl d kk
theorem wf_X2_17 : Cond.fieldLink "HelmHand$Mate" 17 "HelmHand$Mate" "sum" "I" ∈ ev_GW := tm_2 (List.mem_of_getElem? (i := 66) rfl) rfl
theorem fl_X2_17 : ev_FL "HelmHand$Mate" 17 2 2 := ⟨by decide, wf_X2_17⟩
theorem gt_X2_17 {G : ev_G} {k : ev_K} {b : ev_B} {u : Nat × Nat} {pc : Nat} {L : List (Option ev_V)} {st : List ev_V} {m : ev_m} {Q : Option ev_V → ev_M → Prop} {i : Nat} (hc : k.2.1.cls = "HelmHand$Mate") (d : decode k.1 pc = .ok (.getfield 17, 3)) (kk : ev_E G k b u (pc + 3) L (vi (m.1 9 i 2) :: st) (ev_emb m) Q) : ev_E G k b u pc L (vr 9 i :: st) (ev_emb m) Q := ev_getI (ci := 2) (hc ▸ fl_X2_17) rfl rfl d kk
theorem wf_X2_20 : Cond.fieldLink "HelmHand$Mate" 20 "HelmHand$Mate" "saw" "I" ∈ ev_GW := tm_2 (List.mem_of_getElem? (i := 67) rfl) rfl
theorem fl_X2_20 : ev_FL "HelmHand$Mate" 20 2 3 := ⟨by decide, wf_X2_20⟩
theorem gt_X2_20 {G : ev_G} {k : ev_K} {b : ev_B} {u : Nat × Nat} {pc : Nat} {L : List (Option ev_V)} {st : List ev_V} {m : ev_m} {Q : Option ev_V → ev_M → Prop} {i : Nat} (hc : k.2.1.cls = "HelmHand$Mate") (d : decode k.1 pc = .ok (.getfield 20, 3)) (kk : ev_E G k b u (pc + 3) L (vi (m.1 9 i 3) :: st) (ev_emb m) Q) : ev_E G k b u pc L (vr 9 i :: st) (ev_emb m) Q := ev_getI (ci := 2) (hc ▸ fl_X2_20) rfl rfl d kk
theorem wf_X2_23 : Cond.fieldLink "HelmHand$Mate" 23 "HelmHand$Wheel" "ship" "LHelmHand$Ship;" ∈ ev_GW := tm_2 (List.mem_of_getElem? (i := 79) rfl) rfl
theorem fl_X2_23 : ev_FL "HelmHand$Mate" 23 8 0 := ⟨by decide, wf_X2_23⟩
theorem gt_X2_23 {G : ev_G} {k : ev_K} {b : ev_B} {u : Nat × Nat} {pc : Nat} {L : List (Option ev_V)} {st : List ev_V} {m : ev_m} {Q : Option ev_V → ev_M → Prop} {i : Nat} (hc : k.2.1.cls = "HelmHand$Mate") (d : decode k.1 pc = .ok (.getfield 23, 3)) (kk : ev_E G k b u (pc + 3) L (vo 3 (m.2.2 8 i 0) :: st) (ev_emb m) Q) : ev_E G k b u pc L (vr 8 i :: st) (ev_emb m) Q := ev_getO (ci := 8) (hc ▸ fl_X2_23) rfl rfl rfl d kk
theorem wf_X2_35 : Cond.fieldLink "HelmHand$Mate" 35 "HelmHand$Ship" "lag" "I" ∈ ev_GW := tm_1 (List.mem_of_getElem? (i := 67) rfl) rfl
theorem fl_X2_35 : ev_FL "HelmHand$Mate" 35 5 2 := ⟨by decide, wf_X2_35⟩
theorem gt_X2_35 {G : ev_G} {k : ev_K} {b : ev_B} {u : Nat × Nat} {pc : Nat} {L : List (Option ev_V)} {st : List ev_V} {m : ev_m} {Q : Option ev_V → ev_M → Prop} {i : Nat} (hc : k.2.1.cls = "HelmHand$Mate") (d : decode k.1 pc = .ok (.getfield 35, 3)) (kk : ev_E G k b u (pc + 3) L (vi (m.1 3 i 2) :: st) (ev_emb m) Q) : ev_E G k b u pc L (vr 3 i :: st) (ev_emb m) Q := ev_getI (ci := 5) (hc ▸ fl_X2_35) rfl rfl d kk
theorem wf_X2_60 : Cond.fieldLink "HelmHand$Mate" 60 "HelmHand$Ship" "most" "I" ∈ ev_GW := tm_1 (List.mem_of_getElem? (i := 69) rfl) rfl
theorem fl_X2_60 : ev_FL "HelmHand$Mate" 60 5 3 := ⟨by decide, wf_X2_60⟩
theorem gt_X2_60 {G : ev_G} {k : ev_K} {b : ev_B} {u : Nat × Nat} {pc : Nat} {L : List (Option ev_V)} {st : List ev_V} {m : ev_m} {Q : Option ev_V → ev_M → Prop} {i : Nat} (hc : k.2.1.cls = "HelmHand$Mate") (d : decode k.1 pc = .ok (.getfield 60, 3)) (kk : ev_E G k b u (pc + 3) L (vi (m.1 3 i 3) :: st) (ev_emb m) Q) : ev_E G k b u pc L (vr 3 i :: st) (ev_emb m) Q := ev_getI (ci := 5) (hc ▸ fl_X2_60) rfl rfl d kk
theorem wf_X2_63 : Cond.fieldLink "HelmHand$Mate" 63 "HelmHand$Hand" "wrong" "I" ∈ ev_GW := tm_1 (List.mem_of_getElem? (i := 123) rfl) rfl
theorem fl_X2_63 : ev_FL "HelmHand$Mate" 63 1 5 := ⟨by decide, wf_X2_63⟩
theorem gt_X2_63 {G : ev_G} {k : ev_K} {b : ev_B} {u : Nat × Nat} {pc : Nat} {L : List (Option ev_V)} {st : List ev_V} {m : ev_m} {Q : Option ev_V → ev_M → Prop} {i : Nat} (hc : k.2.1.cls = "HelmHand$Mate") (d : decode k.1 pc = .ok (.getfield 63, 3)) (kk : ev_E G k b u (pc + 3) L (vi (m.1 4 i 5) :: st) (ev_emb m) Q) : ev_E G k b u pc L (vr 4 i :: st) (ev_emb m) Q := ev_getI (ci := 1) (hc ▸ fl_X2_63) rfl rfl d kk
theorem wf_X2_66 : Cond.fieldLink "HelmHand$Mate" 66 "HelmHand$Hand" "slips" "I" ∈ ev_GW := tm_1 (List.mem_of_getElem? (i := 126) rfl) rfl
theorem fl_X2_66 : ev_FL "HelmHand$Mate" 66 1 7 := ⟨by decide, wf_X2_66⟩
theorem gt_X2_66 {G : ev_G} {k : ev_K} {b : ev_B} {u : Nat × Nat} {pc : Nat} {L : List (Option ev_V)} {st : List ev_V} {m : ev_m} {Q : Option ev_V → ev_M → Prop} {i : Nat} (hc : k.2.1.cls = "HelmHand$Mate") (d : decode k.1 pc = .ok (.getfield 66, 3)) (kk : ev_E G k b u (pc + 3) L (vi (m.1 4 i 7) :: st) (ev_emb m) Q) : ev_E G k b u pc L (vr 4 i :: st) (ev_emb m) Q := ev_getI (ci := 1) (hc ▸ fl_X2_66) rfl rfl d kk
theorem wf_X2_7 : Cond.fieldLink "HelmHand$Mate" 7 "HelmHand$Mate" "hand" "LHelmHand$Hand;" ∈ ev_GW := tm_2 (List.mem_of_getElem? (i := 64) rfl) rfl
theorem fl_X2_7 : ev_FL "HelmHand$Mate" 7 2 0 := ⟨by decide, wf_X2_7⟩
theorem gt_X2_7 {G : ev_G} {k : ev_K} {b : ev_B} {u : Nat × Nat} {pc : Nat} {L : List (Option ev_V)} {st : List ev_V} {m : ev_m} {Q : Option ev_V → ev_M → Prop} {i : Nat} (hc : k.2.1.cls = "HelmHand$Mate") (d : decode k.1 pc = .ok (.getfield 7, 3)) (kk : ev_E G k b u (pc + 3) L (vo 4 (m.2.2 9 i 0) :: st) (ev_emb m) Q) : ev_E G k b u pc L (vr 9 i :: st) (ev_emb m) Q := ev_getO (ci := 2) (hc ▸ fl_X2_7) rfl rfl rfl d kk
theorem wf_X3_15 : Cond.fieldLink "HelmHand$Paper" 15 "HelmHand$Paper" "size" "I" ∈ ev_GW := tm_1 (List.mem_of_getElem? (i := 166) rfl) rfl
theorem fl_X3_15 : ev_FL "HelmHand$Paper" 15 3 1 := ⟨by decide, wf_X3_15⟩
theorem gt_X3_15 {G : ev_G} {k : ev_K} {b : ev_B} {u : Nat × Nat} {pc : Nat} {L : List (Option ev_V)} {st : List ev_V} {m : ev_m} {Q : Option ev_V → ev_M → Prop} {i : Nat} (hc : k.2.1.cls = "HelmHand$Paper") (d : decode k.1 pc = .ok (.getfield 15, 3)) (kk : ev_E G k b u (pc + 3) L (vi (m.1 5 i 1) :: st) (ev_emb m) Q) : ev_E G k b u pc L (vr 5 i :: st) (ev_emb m) Q := ev_getI (ci := 3) (hc ▸ fl_X3_15) rfl rfl d kk
theorem wf_X3_9 : Cond.fieldLink "HelmHand$Paper" 9 "HelmHand$Paper" "headings" "[I" ∈ ev_GW := tm_1 (List.mem_of_getElem? (i := 163) rfl) rfl
theorem fl_X3_9 : ev_FL "HelmHand$Paper" 9 3 0 := ⟨by decide, wf_X3_9⟩
theorem gt_X3_9 {G : ev_G} {k : ev_K} {b : ev_B} {u : Nat × Nat} {pc : Nat} {L : List (Option ev_V)} {st : List ev_V} {m : ev_m} {Q : Option ev_V → ev_M → Prop} {i : Nat} (hc : k.2.1.cls = "HelmHand$Paper") (d : decode k.1 pc = .ok (.getfield 9, 3)) (kk : ev_E G k b u (pc + 3) L (vr 15 i :: st) (ev_emb m) Q) : ev_E G k b u pc L (vr 5 i :: st) (ev_emb m) Q := ev_getR (ci := 3) (hc ▸ fl_X3_9) rfl rfl rfl d kk
theorem wf_X4_12 : Cond.fieldLink "HelmHand$Reader" 12 "HelmHand$Reader" "ship" "LHelmHand$Ship;" ∈ ev_GW := tm_2 (List.mem_of_getElem? (i := 8) rfl) rfl
theorem fl_X4_12 : ev_FL "HelmHand$Reader" 12 4 0 := ⟨by decide, wf_X4_12⟩
theorem gt_X4_12 {G : ev_G} {k : ev_K} {b : ev_B} {u : Nat × Nat} {pc : Nat} {L : List (Option ev_V)} {st : List ev_V} {m : ev_m} {Q : Option ev_V → ev_M → Prop} {i : Nat} (hc : k.2.1.cls = "HelmHand$Reader") (d : decode k.1 pc = .ok (.getfield 12, 3)) (kk : ev_E G k b u (pc + 3) L (vr 3 9 :: st) (ev_emb m) Q) : ev_E G k b u pc L (vr 7 i :: st) (ev_emb m) Q := ev_getR (ci := 4) (hc ▸ fl_X4_12) rfl rfl rfl d kk
theorem wf_X4_142 : Cond.fieldLink "HelmHand$Reader" 142 "HelmHand$Reader" "value" "I" ∈ ev_GW := tm_2 (List.mem_of_getElem? (i := 24) rfl) rfl
theorem fl_X4_142 : ev_FL "HelmHand$Reader" 142 4 10 := ⟨by decide, wf_X4_142⟩
theorem gt_X4_142 {G : ev_G} {k : ev_K} {b : ev_B} {u : Nat × Nat} {pc : Nat} {L : List (Option ev_V)} {st : List ev_V} {m : ev_m} {Q : Option ev_V → ev_M → Prop} {i : Nat} (hc : k.2.1.cls = "HelmHand$Reader") (d : decode k.1 pc = .ok (.getfield 142, 3)) (kk : ev_E G k b u (pc + 3) L (vi (m.1 7 i 10) :: st) (ev_emb m) Q) : ev_E G k b u pc L (vr 7 i :: st) (ev_emb m) Q := ev_getI (ci := 4) (hc ▸ fl_X4_142) rfl rfl d kk
theorem wf_X4_157 : Cond.fieldLink "HelmHand$Reader" 157 "HelmHand$Reader" "begun" "I" ∈ ev_GW := tm_2 (List.mem_of_getElem? (i := 25) rfl) rfl
theorem fl_X4_157 : ev_FL "HelmHand$Reader" 157 4 11 := ⟨by decide, wf_X4_157⟩
theorem gt_X4_157 {G : ev_G} {k : ev_K} {b : ev_B} {u : Nat × Nat} {pc : Nat} {L : List (Option ev_V)} {st : List ev_V} {m : ev_m} {Q : Option ev_V → ev_M → Prop} {i : Nat} (hc : k.2.1.cls = "HelmHand$Reader") (d : decode k.1 pc = .ok (.getfield 157, 3)) (kk : ev_E G k b u (pc + 3) L (vi (m.1 7 i 11) :: st) (ev_emb m) Q) : ev_E G k b u pc L (vr 7 i :: st) (ev_emb m) Q := ev_getI (ci := 4) (hc ▸ fl_X4_157) rfl rfl d kk
theorem wf_X4_21 : Cond.fieldLink "HelmHand$Reader" 21 "HelmHand$Reader" "hand" "LHelmHand$Hand;" ∈ ev_GW := tm_2 (List.mem_of_getElem? (i := 10) rfl) rfl
theorem fl_X4_21 : ev_FL "HelmHand$Reader" 21 4 1 := ⟨by decide, wf_X4_21⟩
theorem gt_X4_21 {G : ev_G} {k : ev_K} {b : ev_B} {u : Nat × Nat} {pc : Nat} {L : List (Option ev_V)} {st : List ev_V} {m : ev_m} {Q : Option ev_V → ev_M → Prop} {i : Nat} (hc : k.2.1.cls = "HelmHand$Reader") (d : decode k.1 pc = .ok (.getfield 21, 3)) (kk : ev_E G k b u (pc + 3) L (vr 4 17 :: st) (ev_emb m) Q) : ev_E G k b u pc L (vr 7 i :: st) (ev_emb m) Q := ev_getR (ci := 4) (hc ▸ fl_X4_21) rfl rfl rfl d kk
theorem wf_X4_229 : Cond.fieldLink "HelmHand$Reader" 229 "HelmHand$Tape" "length" "I" ∈ ev_GW := tm_1 (List.mem_of_getElem? (i := 42) rfl) rfl
theorem fl_X4_229 : ev_FL "HelmHand$Reader" 229 6 1 := ⟨by decide, wf_X4_229⟩
theorem gt_X4_229 {G : ev_G} {k : ev_K} {b : ev_B} {u : Nat × Nat} {pc : Nat} {L : List (Option ev_V)} {st : List ev_V} {m : ev_m} {Q : Option ev_V → ev_M → Prop} {i : Nat} (hc : k.2.1.cls = "HelmHand$Reader") (d : decode k.1 pc = .ok (.getfield 229, 3)) (kk : ev_E G k b u (pc + 3) L (vi (m.1 2 i 1) :: st) (ev_emb m) Q) : ev_E G k b u pc L (vr 2 i :: st) (ev_emb m) Q := ev_getI (ci := 6) (hc ▸ fl_X4_229) rfl rfl d kk
theorem wf_X4_28 : Cond.fieldLink "HelmHand$Reader" 28 "HelmHand$Reader" "paper" "LHelmHand$Paper;" ∈ ev_GW := tm_2 (List.mem_of_getElem? (i := 12) rfl) rfl
theorem fl_X4_28 : ev_FL "HelmHand$Reader" 28 4 2 := ⟨by decide, wf_X4_28⟩
theorem gt_X4_28 {G : ev_G} {k : ev_K} {b : ev_B} {u : Nat × Nat} {pc : Nat} {L : List (Option ev_V)} {st : List ev_V} {m : ev_m} {Q : Option ev_V → ev_M → Prop} {i : Nat} (hc : k.2.1.cls = "HelmHand$Reader") (d : decode k.1 pc = .ok (.getfield 28, 3)) (kk : ev_E G k b u (pc + 3) L (vr 5 8 :: st) (ev_emb m) Q) : ev_E G k b u pc L (vr 7 i :: st) (ev_emb m) Q := ev_getR (ci := 4) (hc ▸ fl_X4_28) rfl rfl rfl d kk
theorem wf_X4_35 : Cond.fieldLink "HelmHand$Reader" 35 "HelmHand$Reader" "watch" "LHelmHand$Watch;" ∈ ev_GW := tm_2 (List.mem_of_getElem? (i := 14) rfl) rfl
theorem fl_X4_35 : ev_FL "HelmHand$Reader" 35 4 3 := ⟨by decide, wf_X4_35⟩
theorem gt_X4_35 {G : ev_G} {k : ev_K} {b : ev_B} {u : Nat × Nat} {pc : Nat} {L : List (Option ev_V)} {st : List ev_V} {m : ev_m} {Q : Option ev_V → ev_M → Prop} {i : Nat} (hc : k.2.1.cls = "HelmHand$Reader") (d : decode k.1 pc = .ok (.getfield 35, 3)) (kk : ev_E G k b u (pc + 3) L (vr 6 8 :: st) (ev_emb m) Q) : ev_E G k b u pc L (vr 7 i :: st) (ev_emb m) Q := ev_getR (ci := 4) (hc ▸ fl_X4_35) rfl rfl rfl d kk
theorem wf_X4_42 : Cond.fieldLink "HelmHand$Reader" 42 "HelmHand$Reader" "tape" "LHelmHand$Tape;" ∈ ev_GW := tm_2 (List.mem_of_getElem? (i := 20) rfl) rfl
theorem fl_X4_42 : ev_FL "HelmHand$Reader" 42 4 6 := ⟨by decide, wf_X4_42⟩
theorem gt_X4_42 {G : ev_G} {k : ev_K} {b : ev_B} {u : Nat × Nat} {pc : Nat} {L : List (Option ev_V)} {st : List ev_V} {m : ev_m} {Q : Option ev_V → ev_M → Prop} {i : Nat} (hc : k.2.1.cls = "HelmHand$Reader") (d : decode k.1 pc = .ok (.getfield 42, 3)) (kk : ev_E G k b u (pc + 3) L (vr 2 4 :: st) (ev_emb m) Q) : ev_E G k b u pc L (vr 7 i :: st) (ev_emb m) Q := ev_getR (ci := 4) (hc ▸ fl_X4_42) rfl rfl rfl d kk
theorem wf_X4_50 : Cond.fieldLink "HelmHand$Reader" 50 "HelmHand$Reader" "fault" "I" ∈ ev_GW := tm_2 (List.mem_of_getElem? (i := 16) rfl) rfl
theorem fl_X4_50 : ev_FL "HelmHand$Reader" 50 4 4 := ⟨by decide, wf_X4_50⟩
theorem gt_X4_50 {G : ev_G} {k : ev_K} {b : ev_B} {u : Nat × Nat} {pc : Nat} {L : List (Option ev_V)} {st : List ev_V} {m : ev_m} {Q : Option ev_V → ev_M → Prop} {i : Nat} (hc : k.2.1.cls = "HelmHand$Reader") (d : decode k.1 pc = .ok (.getfield 50, 3)) (kk : ev_E G k b u (pc + 3) L (vi (m.1 7 i 4) :: st) (ev_emb m) Q) : ev_E G k b u pc L (vr 7 i :: st) (ev_emb m) Q := ev_getI (ci := 4) (hc ▸ fl_X4_50) rfl rfl d kk
theorem wf_X4_54 : Cond.fieldLink "HelmHand$Reader" 54 "HelmHand$Reader" "faultPlace" "I" ∈ ev_GW := tm_2 (List.mem_of_getElem? (i := 18) rfl) rfl
theorem fl_X4_54 : ev_FL "HelmHand$Reader" 54 4 5 := ⟨by decide, wf_X4_54⟩
theorem gt_X4_54 {G : ev_G} {k : ev_K} {b : ev_B} {u : Nat × Nat} {pc : Nat} {L : List (Option ev_V)} {st : List ev_V} {m : ev_m} {Q : Option ev_V → ev_M → Prop} {i : Nat} (hc : k.2.1.cls = "HelmHand$Reader") (d : decode k.1 pc = .ok (.getfield 54, 3)) (kk : ev_E G k b u (pc + 3) L (vi (m.1 7 i 5) :: st) (ev_emb m) Q) : ev_E G k b u pc L (vr 7 i :: st) (ev_emb m) Q := ev_getI (ci := 4) (hc ▸ fl_X4_54) rfl rfl d kk
theorem wf_X4_63 : Cond.fieldLink "HelmHand$Reader" 63 "HelmHand$Reader" "behind" "I" ∈ ev_GW := tm_2 (List.mem_of_getElem? (i := 23) rfl) rfl
theorem fl_X4_63 : ev_FL "HelmHand$Reader" 63 4 9 := ⟨by decide, wf_X4_63⟩
theorem gt_X4_63 {G : ev_G} {k : ev_K} {b : ev_B} {u : Nat × Nat} {pc : Nat} {L : List (Option ev_V)} {st : List ev_V} {m : ev_m} {Q : Option ev_V → ev_M → Prop} {i : Nat} (hc : k.2.1.cls = "HelmHand$Reader") (d : decode k.1 pc = .ok (.getfield 63, 3)) (kk : ev_E G k b u (pc + 3) L (vi (m.1 7 i 9) :: st) (ev_emb m) Q) : ev_E G k b u pc L (vr 7 i :: st) (ev_emb m) Q := ev_getI (ci := 4) (hc ▸ fl_X4_63) rfl rfl d kk
theorem wf_X4_69 : Cond.fieldLink "HelmHand$Reader" 69 "HelmHand$Reader" "kind" "I" ∈ ev_GW := tm_2 (List.mem_of_getElem? (i := 21) rfl) rfl
theorem fl_X4_69 : ev_FL "HelmHand$Reader" 69 4 7 := ⟨by decide, wf_X4_69⟩
theorem gt_X4_69 {G : ev_G} {k : ev_K} {b : ev_B} {u : Nat × Nat} {pc : Nat} {L : List (Option ev_V)} {st : List ev_V} {m : ev_m} {Q : Option ev_V → ev_M → Prop} {i : Nat} (hc : k.2.1.cls = "HelmHand$Reader") (d : decode k.1 pc = .ok (.getfield 69, 3)) (kk : ev_E G k b u (pc + 3) L (vi (m.1 7 i 7) :: st) (ev_emb m) Q) : ev_E G k b u pc L (vr 7 i :: st) (ev_emb m) Q := ev_getI (ci := 4) (hc ▸ fl_X4_69) rfl rfl d kk
theorem wf_X4_80 : Cond.fieldLink "HelmHand$Reader" 80 "HelmHand$Reader" "place" "I" ∈ ev_GW := tm_2 (List.mem_of_getElem? (i := 22) rfl) rfl
theorem fl_X4_80 : ev_FL "HelmHand$Reader" 80 4 8 := ⟨by decide, wf_X4_80⟩
theorem gt_X4_80 {G : ev_G} {k : ev_K} {b : ev_B} {u : Nat × Nat} {pc : Nat} {L : List (Option ev_V)} {st : List ev_V} {m : ev_m} {Q : Option ev_V → ev_M → Prop} {i : Nat} (hc : k.2.1.cls = "HelmHand$Reader") (d : decode k.1 pc = .ok (.getfield 80, 3)) (kk : ev_E G k b u (pc + 3) L (vi (m.1 7 i 8) :: st) (ev_emb m) Q) : ev_E G k b u pc L (vr 7 i :: st) (ev_emb m) Q := ev_getI (ci := 4) (hc ▸ fl_X4_80) rfl rfl d kk
theorem wf_X4_83 : Cond.fieldLink "HelmHand$Reader" 83 "HelmHand$Paper" "size" "I" ∈ ev_GW := tm_1 (List.mem_of_getElem? (i := 167) rfl) rfl
theorem fl_X4_83 : ev_FL "HelmHand$Reader" 83 3 1 := ⟨by decide, wf_X4_83⟩
theorem gt_X4_83 {G : ev_G} {k : ev_K} {b : ev_B} {u : Nat × Nat} {pc : Nat} {L : List (Option ev_V)} {st : List ev_V} {m : ev_m} {Q : Option ev_V → ev_M → Prop} {i : Nat} (hc : k.2.1.cls = "HelmHand$Reader") (d : decode k.1 pc = .ok (.getfield 83, 3)) (kk : ev_E G k b u (pc + 3) L (vi (m.1 5 i 1) :: st) (ev_emb m) Q) : ev_E G k b u pc L (vr 5 i :: st) (ev_emb m) Q := ev_getI (ci := 3) (hc ▸ fl_X4_83) rfl rfl d kk
theorem wf_X5_15 : Cond.fieldLink "HelmHand$Ship" 15 "HelmHand$Ship" "turn" "I" ∈ ev_GW := tm_1 (List.mem_of_getElem? (i := 62) rfl) rfl
theorem fl_X5_15 : ev_FL "HelmHand$Ship" 15 5 0 := ⟨by decide, wf_X5_15⟩
theorem gt_X5_15 {G : ev_G} {k : ev_K} {b : ev_B} {u : Nat × Nat} {pc : Nat} {L : List (Option ev_V)} {st : List ev_V} {m : ev_m} {Q : Option ev_V → ev_M → Prop} {i : Nat} (hc : k.2.1.cls = "HelmHand$Ship") (d : decode k.1 pc = .ok (.getfield 15, 3)) (kk : ev_E G k b u (pc + 3) L (vi (m.1 3 i 0) :: st) (ev_emb m) Q) : ev_E G k b u pc L (vr 3 i :: st) (ev_emb m) Q := ev_getI (ci := 5) (hc ▸ fl_X5_15) rfl rfl d kk
theorem wf_X5_19 : Cond.fieldLink "HelmHand$Ship" 19 "HelmHand$Ship" "calm" "I" ∈ ev_GW := tm_1 (List.mem_of_getElem? (i := 64) rfl) rfl
theorem fl_X5_19 : ev_FL "HelmHand$Ship" 19 5 1 := ⟨by decide, wf_X5_19⟩
theorem gt_X5_19 {G : ev_G} {k : ev_K} {b : ev_B} {u : Nat × Nat} {pc : Nat} {L : List (Option ev_V)} {st : List ev_V} {m : ev_m} {Q : Option ev_V → ev_M → Prop} {i : Nat} (hc : k.2.1.cls = "HelmHand$Ship") (d : decode k.1 pc = .ok (.getfield 19, 3)) (kk : ev_E G k b u (pc + 3) L (vi (m.1 3 i 1) :: st) (ev_emb m) Q) : ev_E G k b u pc L (vr 3 i :: st) (ev_emb m) Q := ev_getI (ci := 5) (hc ▸ fl_X5_19) rfl rfl d kk
theorem wf_X5_22 : Cond.fieldLink "HelmHand$Ship" 22 "HelmHand$Ship" "lag" "I" ∈ ev_GW := tm_1 (List.mem_of_getElem? (i := 66) rfl) rfl
theorem fl_X5_22 : ev_FL "HelmHand$Ship" 22 5 2 := ⟨by decide, wf_X5_22⟩
theorem gt_X5_22 {G : ev_G} {k : ev_K} {b : ev_B} {u : Nat × Nat} {pc : Nat} {L : List (Option ev_V)} {st : List ev_V} {m : ev_m} {Q : Option ev_V → ev_M → Prop} {i : Nat} (hc : k.2.1.cls = "HelmHand$Ship") (d : decode k.1 pc = .ok (.getfield 22, 3)) (kk : ev_E G k b u (pc + 3) L (vi (m.1 3 i 2) :: st) (ev_emb m) Q) : ev_E G k b u pc L (vr 3 i :: st) (ev_emb m) Q := ev_getI (ci := 5) (hc ▸ fl_X5_22) rfl rfl d kk
theorem wf_X5_25 : Cond.fieldLink "HelmHand$Ship" 25 "HelmHand$Ship" "most" "I" ∈ ev_GW := tm_1 (List.mem_of_getElem? (i := 68) rfl) rfl
theorem fl_X5_25 : ev_FL "HelmHand$Ship" 25 5 3 := ⟨by decide, wf_X5_25⟩
theorem gt_X5_25 {G : ev_G} {k : ev_K} {b : ev_B} {u : Nat × Nat} {pc : Nat} {L : List (Option ev_V)} {st : List ev_V} {m : ev_m} {Q : Option ev_V → ev_M → Prop} {i : Nat} (hc : k.2.1.cls = "HelmHand$Ship") (d : decode k.1 pc = .ok (.getfield 25, 3)) (kk : ev_E G k b u (pc + 3) L (vi (m.1 3 i 3) :: st) (ev_emb m) Q) : ev_E G k b u pc L (vr 3 i :: st) (ev_emb m) Q := ev_getI (ci := 5) (hc ▸ fl_X5_25) rfl rfl d kk
theorem wf_X5_28 : Cond.fieldLink "HelmHand$Ship" 28 "HelmHand$Ship" "gear" "I" ∈ ev_GW := tm_1 (List.mem_of_getElem? (i := 70) rfl) rfl
theorem fl_X5_28 : ev_FL "HelmHand$Ship" 28 5 4 := ⟨by decide, wf_X5_28⟩
theorem gt_X5_28 {G : ev_G} {k : ev_K} {b : ev_B} {u : Nat × Nat} {pc : Nat} {L : List (Option ev_V)} {st : List ev_V} {m : ev_m} {Q : Option ev_V → ev_M → Prop} {i : Nat} (hc : k.2.1.cls = "HelmHand$Ship") (d : decode k.1 pc = .ok (.getfield 28, 3)) (kk : ev_E G k b u (pc + 3) L (vi (m.1 3 i 4) :: st) (ev_emb m) Q) : ev_E G k b u pc L (vr 3 i :: st) (ev_emb m) Q := ev_getI (ci := 5) (hc ▸ fl_X5_28) rfl rfl d kk
theorem wf_X5_31 : Cond.fieldLink "HelmHand$Ship" 31 "HelmHand$Ship" "rub" "I" ∈ ev_GW := tm_1 (List.mem_of_getElem? (i := 72) rfl) rfl
theorem fl_X5_31 : ev_FL "HelmHand$Ship" 31 5 5 := ⟨by decide, wf_X5_31⟩
theorem gt_X5_31 {G : ev_G} {k : ev_K} {b : ev_B} {u : Nat × Nat} {pc : Nat} {L : List (Option ev_V)} {st : List ev_V} {m : ev_m} {Q : Option ev_V → ev_M → Prop} {i : Nat} (hc : k.2.1.cls = "HelmHand$Ship") (d : decode k.1 pc = .ok (.getfield 31, 3)) (kk : ev_E G k b u (pc + 3) L (vi (m.1 3 i 5) :: st) (ev_emb m) Q) : ev_E G k b u pc L (vr 3 i :: st) (ev_emb m) Q := ev_getI (ci := 5) (hc ▸ fl_X5_31) rfl rfl d kk
theorem wf_X5_34 : Cond.fieldLink "HelmHand$Ship" 34 "HelmHand$Ship" "wind" "I" ∈ ev_GW := tm_1 (List.mem_of_getElem? (i := 74) rfl) rfl
theorem fl_X5_34 : ev_FL "HelmHand$Ship" 34 5 6 := ⟨by decide, wf_X5_34⟩
theorem gt_X5_34 {G : ev_G} {k : ev_K} {b : ev_B} {u : Nat × Nat} {pc : Nat} {L : List (Option ev_V)} {st : List ev_V} {m : ev_m} {Q : Option ev_V → ev_M → Prop} {i : Nat} (hc : k.2.1.cls = "HelmHand$Ship") (d : decode k.1 pc = .ok (.getfield 34, 3)) (kk : ev_E G k b u (pc + 3) L (vi (m.1 3 i 6) :: st) (ev_emb m) Q) : ev_E G k b u pc L (vr 3 i :: st) (ev_emb m) Q := ev_getI (ci := 5) (hc ▸ fl_X5_34) rfl rfl d kk
theorem wf_X5_37 : Cond.fieldLink "HelmHand$Ship" 37 "HelmHand$Ship" "trim" "I" ∈ ev_GW := tm_1 (List.mem_of_getElem? (i := 77) rfl) rfl
theorem fl_X5_37 : ev_FL "HelmHand$Ship" 37 5 7 := ⟨by decide, wf_X5_37⟩
theorem gt_X5_37 {G : ev_G} {k : ev_K} {b : ev_B} {u : Nat × Nat} {pc : Nat} {L : List (Option ev_V)} {st : List ev_V} {m : ev_m} {Q : Option ev_V → ev_M → Prop} {i : Nat} (hc : k.2.1.cls = "HelmHand$Ship") (d : decode k.1 pc = .ok (.getfield 37, 3)) (kk : ev_E G k b u (pc + 3) L (vi (m.1 3 i 7) :: st) (ev_emb m) Q) : ev_E G k b u pc L (vr 3 i :: st) (ev_emb m) Q := ev_getI (ci := 5) (hc ▸ fl_X5_37) rfl rfl d kk
theorem wf_X5_40 : Cond.fieldLink "HelmHand$Ship" 40 "HelmHand$Ship" "heading" "I" ∈ ev_GW := tm_1 (List.mem_of_getElem? (i := 79) rfl) rfl
theorem fl_X5_40 : ev_FL "HelmHand$Ship" 40 5 8 := ⟨by decide, wf_X5_40⟩
theorem gt_X5_40 {G : ev_G} {k : ev_K} {b : ev_B} {u : Nat × Nat} {pc : Nat} {L : List (Option ev_V)} {st : List ev_V} {m : ev_m} {Q : Option ev_V → ev_M → Prop} {i : Nat} (hc : k.2.1.cls = "HelmHand$Ship") (d : decode k.1 pc = .ok (.getfield 40, 3)) (kk : ev_E G k b u (pc + 3) L (vi (m.1 3 i 8) :: st) (ev_emb m) Q) : ev_E G k b u pc L (vr 3 i :: st) (ev_emb m) Q := ev_getI (ci := 5) (hc ▸ fl_X5_40) rfl rfl d kk
theorem wf_X5_43 : Cond.fieldLink "HelmHand$Ship" 43 "HelmHand$Ship" "pace" "I" ∈ ev_GW := tm_1 (List.mem_of_getElem? (i := 81) rfl) rfl
theorem fl_X5_43 : ev_FL "HelmHand$Ship" 43 5 9 := ⟨by decide, wf_X5_43⟩
theorem gt_X5_43 {G : ev_G} {k : ev_K} {b : ev_B} {u : Nat × Nat} {pc : Nat} {L : List (Option ev_V)} {st : List ev_V} {m : ev_m} {Q : Option ev_V → ev_M → Prop} {i : Nat} (hc : k.2.1.cls = "HelmHand$Ship") (d : decode k.1 pc = .ok (.getfield 43, 3)) (kk : ev_E G k b u (pc + 3) L (vi (m.1 3 i 9) :: st) (ev_emb m) Q) : ev_E G k b u pc L (vr 3 i :: st) (ev_emb m) Q := ev_getI (ci := 5) (hc ▸ fl_X5_43) rfl rfl d kk
theorem wf_X5_46 : Cond.fieldLink "HelmHand$Ship" 46 "HelmHand$Ship" "seaCount" "I" ∈ ev_GW := tm_1 (List.mem_of_getElem? (i := 83) rfl) rfl
theorem fl_X5_46 : ev_FL "HelmHand$Ship" 46 5 10 := ⟨by decide, wf_X5_46⟩
theorem gt_X5_46 {G : ev_G} {k : ev_K} {b : ev_B} {u : Nat × Nat} {pc : Nat} {L : List (Option ev_V)} {st : List ev_V} {m : ev_m} {Q : Option ev_V → ev_M → Prop} {i : Nat} (hc : k.2.1.cls = "HelmHand$Ship") (d : decode k.1 pc = .ok (.getfield 46, 3)) (kk : ev_E G k b u (pc + 3) L (vi (m.1 3 i 10) :: st) (ev_emb m) Q) : ev_E G k b u pc L (vr 3 i :: st) (ev_emb m) Q := ev_getI (ci := 5) (hc ▸ fl_X5_46) rfl rfl d kk
theorem wf_X5_9 : Cond.fieldLink "HelmHand$Ship" 9 "HelmHand$Ship" "seas" "[I" ∈ ev_GW := tm_1 (List.mem_of_getElem? (i := 85) rfl) rfl
theorem fl_X5_9 : ev_FL "HelmHand$Ship" 9 5 11 := ⟨by decide, wf_X5_9⟩
theorem gt_X5_9 {G : ev_G} {k : ev_K} {b : ev_B} {u : Nat × Nat} {pc : Nat} {L : List (Option ev_V)} {st : List ev_V} {m : ev_m} {Q : Option ev_V → ev_M → Prop} {i : Nat} (hc : k.2.1.cls = "HelmHand$Ship") (d : decode k.1 pc = .ok (.getfield 9, 3)) (kk : ev_E G k b u (pc + 3) L (vr 12 i :: st) (ev_emb m) Q) : ev_E G k b u pc L (vr 3 i :: st) (ev_emb m) Q := ev_getR (ci := 5) (hc ▸ fl_X5_9) rfl rfl rfl d kk
theorem wf_X6_19 : Cond.fieldLink "HelmHand$Tape" 19 "HelmHand$Tape" "length" "I" ∈ ev_GW := tm_1 (List.mem_of_getElem? (i := 41) rfl) rfl
theorem fl_X6_19 : ev_FL "HelmHand$Tape" 19 6 1 := ⟨by decide, wf_X6_19⟩
theorem gt_X6_19 {G : ev_G} {k : ev_K} {b : ev_B} {u : Nat × Nat} {pc : Nat} {L : List (Option ev_V)} {st : List ev_V} {m : ev_m} {Q : Option ev_V → ev_M → Prop} {i : Nat} (hc : k.2.1.cls = "HelmHand$Tape") (d : decode k.1 pc = .ok (.getfield 19, 3)) (kk : ev_E G k b u (pc + 3) L (vi (m.1 2 i 1) :: st) (ev_emb m) Q) : ev_E G k b u pc L (vr 2 i :: st) (ev_emb m) Q := ev_getI (ci := 6) (hc ▸ fl_X6_19) rfl rfl d kk
theorem wf_X6_9 : Cond.fieldLink "HelmHand$Tape" 9 "HelmHand$Tape" "bytes" "[B" ∈ ev_GW := tm_1 (List.mem_of_getElem? (i := 39) rfl) rfl
theorem fl_X6_9 : ev_FL "HelmHand$Tape" 9 6 0 := ⟨by decide, wf_X6_9⟩
theorem gt_X6_9 {G : ev_G} {k : ev_K} {b : ev_B} {u : Nat × Nat} {pc : Nat} {L : List (Option ev_V)} {st : List ev_V} {m : ev_m} {Q : Option ev_V → ev_M → Prop} {i : Nat} (hc : k.2.1.cls = "HelmHand$Tape") (d : decode k.1 pc = .ok (.getfield 9, 3)) (kk : ev_E G k b u (pc + 3) L (vr 11 i :: st) (ev_emb m) Q) : ev_E G k b u pc L (vr 2 i :: st) (ev_emb m) Q := ev_getR (ci := 6) (hc ▸ fl_X6_9) rfl rfl rfl d kk
theorem wf_X7_15 : Cond.fieldLink "HelmHand$Watch" 15 "HelmHand$Watch" "seconds" "[I" ∈ ev_GW := tm_1 (List.mem_of_getElem? (i := 182) rfl) rfl
theorem fl_X7_15 : ev_FL "HelmHand$Watch" 15 7 1 := ⟨by decide, wf_X7_15⟩
theorem gt_X7_15 {G : ev_G} {k : ev_K} {b : ev_B} {u : Nat × Nat} {pc : Nat} {L : List (Option ev_V)} {st : List ev_V} {m : ev_m} {Q : Option ev_V → ev_M → Prop} {i : Nat} (hc : k.2.1.cls = "HelmHand$Watch") (d : decode k.1 pc = .ok (.getfield 15, 3)) (kk : ev_E G k b u (pc + 3) L (vr 17 i :: st) (ev_emb m) Q) : ev_E G k b u pc L (vr 6 i :: st) (ev_emb m) Q := ev_getR (ci := 7) (hc ▸ fl_X7_15) rfl rfl rfl d kk
theorem wf_X7_18 : Cond.fieldLink "HelmHand$Watch" 18 "HelmHand$Watch" "men" "I" ∈ ev_GW := tm_1 (List.mem_of_getElem? (i := 184) rfl) rfl
theorem fl_X7_18 : ev_FL "HelmHand$Watch" 18 7 2 := ⟨by decide, wf_X7_18⟩
theorem gt_X7_18 {G : ev_G} {k : ev_K} {b : ev_B} {u : Nat × Nat} {pc : Nat} {L : List (Option ev_V)} {st : List ev_V} {m : ev_m} {Q : Option ev_V → ev_M → Prop} {i : Nat} (hc : k.2.1.cls = "HelmHand$Watch") (d : decode k.1 pc = .ok (.getfield 18, 3)) (kk : ev_E G k b u (pc + 3) L (vi (m.1 6 i 2) :: st) (ev_emb m) Q) : ev_E G k b u pc L (vr 6 i :: st) (ev_emb m) Q := ev_getI (ci := 7) (hc ▸ fl_X7_18) rfl rfl d kk
theorem wf_X7_9 : Cond.fieldLink "HelmHand$Watch" 9 "HelmHand$Watch" "hands" "[I" ∈ ev_GW := tm_1 (List.mem_of_getElem? (i := 180) rfl) rfl
theorem fl_X7_9 : ev_FL "HelmHand$Watch" 9 7 0 := ⟨by decide, wf_X7_9⟩
theorem gt_X7_9 {G : ev_G} {k : ev_K} {b : ev_B} {u : Nat × Nat} {pc : Nat} {L : List (Option ev_V)} {st : List ev_V} {m : ev_m} {Q : Option ev_V → ev_M → Prop} {i : Nat} (hc : k.2.1.cls = "HelmHand$Watch") (d : decode k.1 pc = .ok (.getfield 9, 3)) (kk : ev_E G k b u (pc + 3) L (vr 16 i :: st) (ev_emb m) Q) : ev_E G k b u pc L (vr 6 i :: st) (ev_emb m) Q := ev_getR (ci := 7) (hc ▸ fl_X7_9) rfl rfl rfl d kk
theorem wf_X8_105 : Cond.fieldLink "HelmHand$Wheel" 105 "HelmHand$Ship" "trim" "I" ∈ ev_GW := tm_1 (List.mem_of_getElem? (i := 78) rfl) rfl
theorem fl_X8_105 : ev_FL "HelmHand$Wheel" 105 5 7 := ⟨by decide, wf_X8_105⟩
theorem gt_X8_105 {G : ev_G} {k : ev_K} {b : ev_B} {u : Nat × Nat} {pc : Nat} {L : List (Option ev_V)} {st : List ev_V} {m : ev_m} {Q : Option ev_V → ev_M → Prop} {i : Nat} (hc : k.2.1.cls = "HelmHand$Wheel") (d : decode k.1 pc = .ok (.getfield 105, 3)) (kk : ev_E G k b u (pc + 3) L (vi (m.1 3 i 7) :: st) (ev_emb m) Q) : ev_E G k b u pc L (vr 3 i :: st) (ev_emb m) Q := ev_getI (ci := 5) (hc ▸ fl_X8_105) rfl rfl d kk
theorem wf_X8_108 : Cond.fieldLink "HelmHand$Wheel" 108 "HelmHand$Mate" "saw" "I" ∈ ev_GW := tm_2 (List.mem_of_getElem? (i := 68) rfl) rfl
theorem fl_X8_108 : ev_FL "HelmHand$Wheel" 108 2 3 := ⟨by decide, wf_X8_108⟩
theorem gt_X8_108 {G : ev_G} {k : ev_K} {b : ev_B} {u : Nat × Nat} {pc : Nat} {L : List (Option ev_V)} {st : List ev_V} {m : ev_m} {Q : Option ev_V → ev_M → Prop} {i : Nat} (hc : k.2.1.cls = "HelmHand$Wheel") (d : decode k.1 pc = .ok (.getfield 108, 3)) (kk : ev_E G k b u (pc + 3) L (vi (m.1 9 i 3) :: st) (ev_emb m) Q) : ev_E G k b u pc L (vr 9 i :: st) (ev_emb m) Q := ev_getI (ci := 2) (hc ▸ fl_X8_108) rfl rfl d kk
theorem wf_X8_15 : Cond.fieldLink "HelmHand$Wheel" 15 "HelmHand$Wheel" "paces" "[I" ∈ ev_GW := tm_2 (List.mem_of_getElem? (i := 84) rfl) rfl
theorem fl_X8_15 : ev_FL "HelmHand$Wheel" 15 8 3 := ⟨by decide, wf_X8_15⟩
theorem gt_X8_15 {G : ev_G} {k : ev_K} {b : ev_B} {u : Nat × Nat} {pc : Nat} {L : List (Option ev_V)} {st : List ev_V} {m : ev_m} {Q : Option ev_V → ev_M → Prop} {i : Nat} (hc : k.2.1.cls = "HelmHand$Wheel") (d : decode k.1 pc = .ok (.getfield 15, 3)) (kk : ev_E G k b u (pc + 3) L (vr 19 0 :: st) (ev_emb m) Q) : ev_E G k b u pc L (vr 8 i :: st) (ev_emb m) Q := ev_getR (ci := 8) (hc ▸ fl_X8_15) rfl rfl rfl d kk
theorem wf_X8_157 : Cond.fieldLink "HelmHand$Wheel" 157 "HelmHand$Ship" "rub" "I" ∈ ev_GW := tm_1 (List.mem_of_getElem? (i := 73) rfl) rfl
theorem fl_X8_157 : ev_FL "HelmHand$Wheel" 157 5 5 := ⟨by decide, wf_X8_157⟩
theorem gt_X8_157 {G : ev_G} {k : ev_K} {b : ev_B} {u : Nat × Nat} {pc : Nat} {L : List (Option ev_V)} {st : List ev_V} {m : ev_m} {Q : Option ev_V → ev_M → Prop} {i : Nat} (hc : k.2.1.cls = "HelmHand$Wheel") (d : decode k.1 pc = .ok (.getfield 157, 3)) (kk : ev_E G k b u (pc + 3) L (vi (m.1 3 i 5) :: st) (ev_emb m) Q) : ev_E G k b u pc L (vr 3 i :: st) (ev_emb m) Q := ev_getI (ci := 5) (hc ▸ fl_X8_157) rfl rfl d kk
theorem wf_X8_18 : Cond.fieldLink "HelmHand$Wheel" 18 "HelmHand$Wheel" "rudders" "[I" ∈ ev_GW := tm_2 (List.mem_of_getElem? (i := 86) rfl) rfl
theorem fl_X8_18 : ev_FL "HelmHand$Wheel" 18 8 4 := ⟨by decide, wf_X8_18⟩
theorem gt_X8_18 {G : ev_G} {k : ev_K} {b : ev_B} {u : Nat × Nat} {pc : Nat} {L : List (Option ev_V)} {st : List ev_V} {m : ev_m} {Q : Option ev_V → ev_M → Prop} {i : Nat} (hc : k.2.1.cls = "HelmHand$Wheel") (d : decode k.1 pc = .ok (.getfield 18, 3)) (kk : ev_E G k b u (pc + 3) L (vr 20 0 :: st) (ev_emb m) Q) : ev_E G k b u pc L (vr 8 i :: st) (ev_emb m) Q := ev_getR (ci := 8) (hc ▸ fl_X8_18) rfl rfl rfl d kk
theorem wf_X8_180 : Cond.fieldLink "HelmHand$Wheel" 180 "HelmHand$Paper" "size" "I" ∈ ev_GW := tm_1 (List.mem_of_getElem? (i := 169) rfl) rfl
theorem fl_X8_180 : ev_FL "HelmHand$Wheel" 180 3 1 := ⟨by decide, wf_X8_180⟩
theorem gt_X8_180 {G : ev_G} {k : ev_K} {b : ev_B} {u : Nat × Nat} {pc : Nat} {L : List (Option ev_V)} {st : List ev_V} {m : ev_m} {Q : Option ev_V → ev_M → Prop} {i : Nat} (hc : k.2.1.cls = "HelmHand$Wheel") (d : decode k.1 pc = .ok (.getfield 180, 3)) (kk : ev_E G k b u (pc + 3) L (vi (m.1 5 i 1) :: st) (ev_emb m) Q) : ev_E G k b u pc L (vr 5 i :: st) (ev_emb m) Q := ev_getI (ci := 3) (hc ▸ fl_X8_180) rfl rfl d kk
theorem wf_X8_185 : Cond.fieldLink "HelmHand$Wheel" 185 "HelmHand$Paper" "headings" "[I" ∈ ev_GW := tm_1 (List.mem_of_getElem? (i := 165) rfl) rfl
theorem fl_X8_185 : ev_FL "HelmHand$Wheel" 185 3 0 := ⟨by decide, wf_X8_185⟩
theorem gt_X8_185 {G : ev_G} {k : ev_K} {b : ev_B} {u : Nat × Nat} {pc : Nat} {L : List (Option ev_V)} {st : List ev_V} {m : ev_m} {Q : Option ev_V → ev_M → Prop} {i : Nat} (hc : k.2.1.cls = "HelmHand$Wheel") (d : decode k.1 pc = .ok (.getfield 185, 3)) (kk : ev_E G k b u (pc + 3) L (vr 15 i :: st) (ev_emb m) Q) : ev_E G k b u pc L (vr 5 i :: st) (ev_emb m) Q := ev_getR (ci := 3) (hc ▸ fl_X8_185) rfl rfl rfl d kk
theorem wf_X8_21 : Cond.fieldLink "HelmHand$Wheel" 21 "HelmHand$Wheel" "saws" "[I" ∈ ev_GW := tm_2 (List.mem_of_getElem? (i := 88) rfl) rfl
theorem fl_X8_21 : ev_FL "HelmHand$Wheel" 21 8 5 := ⟨by decide, wf_X8_21⟩
theorem gt_X8_21 {G : ev_G} {k : ev_K} {b : ev_B} {u : Nat × Nat} {pc : Nat} {L : List (Option ev_V)} {st : List ev_V} {m : ev_m} {Q : Option ev_V → ev_M → Prop} {i : Nat} (hc : k.2.1.cls = "HelmHand$Wheel") (d : decode k.1 pc = .ok (.getfield 21, 3)) (kk : ev_E G k b u (pc + 3) L (vr 21 0 :: st) (ev_emb m) Q) : ev_E G k b u pc L (vr 8 i :: st) (ev_emb m) Q := ev_getR (ci := 8) (hc ▸ fl_X8_21) rfl rfl rfl d kk
theorem wf_X8_27 : Cond.fieldLink "HelmHand$Wheel" 27 "HelmHand$Wheel" "mate" "LHelmHand$Mate;" ∈ ev_GW := tm_2 (List.mem_of_getElem? (i := 91) rfl) rfl
theorem fl_X8_27 : ev_FL "HelmHand$Wheel" 27 8 7 := ⟨by decide, wf_X8_27⟩
theorem gt_X8_27 {G : ev_G} {k : ev_K} {b : ev_B} {u : Nat × Nat} {pc : Nat} {L : List (Option ev_V)} {st : List ev_V} {m : ev_m} {Q : Option ev_V → ev_M → Prop} {i : Nat} (hc : k.2.1.cls = "HelmHand$Wheel") (d : decode k.1 pc = .ok (.getfield 27, 3)) (kk : ev_E G k b u (pc + 3) L (vr 9 0 :: st) (ev_emb m) Q) : ev_E G k b u pc L (vr 8 i :: st) (ev_emb m) Q := ev_getR (ci := 8) (hc ▸ fl_X8_27) rfl rfl rfl d kk
theorem wf_X8_31 : Cond.fieldLink "HelmHand$Wheel" 31 "HelmHand$Wheel" "helper" "LHelmHand$Mate;" ∈ ev_GW := tm_2 (List.mem_of_getElem? (i := 92) rfl) rfl
theorem fl_X8_31 : ev_FL "HelmHand$Wheel" 31 8 8 := ⟨by decide, wf_X8_31⟩
theorem gt_X8_31 {G : ev_G} {k : ev_K} {b : ev_B} {u : Nat × Nat} {pc : Nat} {L : List (Option ev_V)} {st : List ev_V} {m : ev_m} {Q : Option ev_V → ev_M → Prop} {i : Nat} (hc : k.2.1.cls = "HelmHand$Wheel") (d : decode k.1 pc = .ok (.getfield 31, 3)) (kk : ev_E G k b u (pc + 3) L (vr 9 1 :: st) (ev_emb m) Q) : ev_E G k b u pc L (vr 8 i :: st) (ev_emb m) Q := ev_getR (ci := 8) (hc ▸ fl_X8_31) rfl rfl rfl d kk
theorem wf_X8_42 : Cond.fieldLink "HelmHand$Wheel" 42 "HelmHand$Wheel" "ship" "LHelmHand$Ship;" ∈ ev_GW := tm_2 (List.mem_of_getElem? (i := 78) rfl) rfl
theorem fl_X8_42 : ev_FL "HelmHand$Wheel" 42 8 0 := ⟨by decide, wf_X8_42⟩
theorem gt_X8_42 {G : ev_G} {k : ev_K} {b : ev_B} {u : Nat × Nat} {pc : Nat} {L : List (Option ev_V)} {st : List ev_V} {m : ev_m} {Q : Option ev_V → ev_M → Prop} {i : Nat} (hc : k.2.1.cls = "HelmHand$Wheel") (d : decode k.1 pc = .ok (.getfield 42, 3)) (kk : ev_E G k b u (pc + 3) L (vo 3 (m.2.2 8 i 0) :: st) (ev_emb m) Q) : ev_E G k b u pc L (vr 8 i :: st) (ev_emb m) Q := ev_getO (ci := 8) (hc ▸ fl_X8_42) rfl rfl rfl d kk
theorem wf_X8_46 : Cond.fieldLink "HelmHand$Wheel" 46 "HelmHand$Wheel" "seed" "I" ∈ ev_GW := tm_2 (List.mem_of_getElem? (i := 90) rfl) rfl
theorem fl_X8_46 : ev_FL "HelmHand$Wheel" 46 8 6 := ⟨by decide, wf_X8_46⟩
theorem gt_X8_46 {G : ev_G} {k : ev_K} {b : ev_B} {u : Nat × Nat} {pc : Nat} {L : List (Option ev_V)} {st : List ev_V} {m : ev_m} {Q : Option ev_V → ev_M → Prop} {i : Nat} (hc : k.2.1.cls = "HelmHand$Wheel") (d : decode k.1 pc = .ok (.getfield 46, 3)) (kk : ev_E G k b u (pc + 3) L (vi (m.1 8 i 6) :: st) (ev_emb m) Q) : ev_E G k b u pc L (vr 8 i :: st) (ev_emb m) Q := ev_getI (ci := 8) (hc ▸ fl_X8_46) rfl rfl d kk
theorem wf_X8_50 : Cond.fieldLink "HelmHand$Wheel" 50 "HelmHand$Wheel" "last" "I" ∈ ev_GW := tm_2 (List.mem_of_getElem? (i := 80) rfl) rfl
theorem fl_X8_50 : ev_FL "HelmHand$Wheel" 50 8 1 := ⟨by decide, wf_X8_50⟩
theorem gt_X8_50 {G : ev_G} {k : ev_K} {b : ev_B} {u : Nat × Nat} {pc : Nat} {L : List (Option ev_V)} {st : List ev_V} {m : ev_m} {Q : Option ev_V → ev_M → Prop} {i : Nat} (hc : k.2.1.cls = "HelmHand$Wheel") (d : decode k.1 pc = .ok (.getfield 50, 3)) (kk : ev_E G k b u (pc + 3) L (vi (m.1 8 i 1) :: st) (ev_emb m) Q) : ev_E G k b u pc L (vr 8 i :: st) (ev_emb m) Q := ev_getI (ci := 8) (hc ▸ fl_X8_50) rfl rfl d kk
theorem wf_X8_53 : Cond.fieldLink "HelmHand$Wheel" 53 "HelmHand$Ship" "heading" "I" ∈ ev_GW := tm_1 (List.mem_of_getElem? (i := 80) rfl) rfl
theorem fl_X8_53 : ev_FL "HelmHand$Wheel" 53 5 8 := ⟨by decide, wf_X8_53⟩
theorem gt_X8_53 {G : ev_G} {k : ev_K} {b : ev_B} {u : Nat × Nat} {pc : Nat} {L : List (Option ev_V)} {st : List ev_V} {m : ev_m} {Q : Option ev_V → ev_M → Prop} {i : Nat} (hc : k.2.1.cls = "HelmHand$Wheel") (d : decode k.1 pc = .ok (.getfield 53, 3)) (kk : ev_E G k b u (pc + 3) L (vi (m.1 3 i 8) :: st) (ev_emb m) Q) : ev_E G k b u pc L (vr 3 i :: st) (ev_emb m) Q := ev_getI (ci := 5) (hc ▸ fl_X8_53) rfl rfl d kk
theorem wf_X8_62 : Cond.fieldLink "HelmHand$Wheel" 62 "HelmHand$Ship" "pace" "I" ∈ ev_GW := tm_1 (List.mem_of_getElem? (i := 82) rfl) rfl
theorem fl_X8_62 : ev_FL "HelmHand$Wheel" 62 5 9 := ⟨by decide, wf_X8_62⟩
theorem gt_X8_62 {G : ev_G} {k : ev_K} {b : ev_B} {u : Nat × Nat} {pc : Nat} {L : List (Option ev_V)} {st : List ev_V} {m : ev_m} {Q : Option ev_V → ev_M → Prop} {i : Nat} (hc : k.2.1.cls = "HelmHand$Wheel") (d : decode k.1 pc = .ok (.getfield 62, 3)) (kk : ev_E G k b u (pc + 3) L (vi (m.1 3 i 9) :: st) (ev_emb m) Q) : ev_E G k b u pc L (vr 3 i :: st) (ev_emb m) Q := ev_getI (ci := 5) (hc ▸ fl_X8_62) rfl rfl d kk
theorem wf_X8_85 : Cond.fieldLink "HelmHand$Wheel" 85 "HelmHand$Ship" "gear" "I" ∈ ev_GW := tm_1 (List.mem_of_getElem? (i := 71) rfl) rfl
theorem fl_X8_85 : ev_FL "HelmHand$Wheel" 85 5 4 := ⟨by decide, wf_X8_85⟩
theorem gt_X8_85 {G : ev_G} {k : ev_K} {b : ev_B} {u : Nat × Nat} {pc : Nat} {L : List (Option ev_V)} {st : List ev_V} {m : ev_m} {Q : Option ev_V → ev_M → Prop} {i : Nat} (hc : k.2.1.cls = "HelmHand$Wheel") (d : decode k.1 pc = .ok (.getfield 85, 3)) (kk : ev_E G k b u (pc + 3) L (vi (m.1 3 i 4) :: st) (ev_emb m) Q) : ev_E G k b u pc L (vr 3 i :: st) (ev_emb m) Q := ev_getI (ci := 5) (hc ▸ fl_X8_85) rfl rfl d kk
theorem wf_X8_9 : Cond.fieldLink "HelmHand$Wheel" 9 "HelmHand$Wheel" "headings" "[I" ∈ ev_GW := tm_2 (List.mem_of_getElem? (i := 82) rfl) rfl
theorem fl_X8_9 : ev_FL "HelmHand$Wheel" 9 8 2 := ⟨by decide, wf_X8_9⟩
theorem gt_X8_9 {G : ev_G} {k : ev_K} {b : ev_B} {u : Nat × Nat} {pc : Nat} {L : List (Option ev_V)} {st : List ev_V} {m : ev_m} {Q : Option ev_V → ev_M → Prop} {i : Nat} (hc : k.2.1.cls = "HelmHand$Wheel") (d : decode k.1 pc = .ok (.getfield 9, 3)) (kk : ev_E G k b u (pc + 3) L (vr 18 0 :: st) (ev_emb m) Q) : ev_E G k b u pc L (vr 8 i :: st) (ev_emb m) Q := ev_getR (ci := 8) (hc ▸ fl_X8_9) rfl rfl rfl d kk
theorem wf_X8_92 : Cond.fieldLink "HelmHand$Wheel" 92 "HelmHand$Ship" "calm" "I" ∈ ev_GW := tm_1 (List.mem_of_getElem? (i := 65) rfl) rfl
theorem fl_X8_92 : ev_FL "HelmHand$Wheel" 92 5 1 := ⟨by decide, wf_X8_92⟩
theorem gt_X8_92 {G : ev_G} {k : ev_K} {b : ev_B} {u : Nat × Nat} {pc : Nat} {L : List (Option ev_V)} {st : List ev_V} {m : ev_m} {Q : Option ev_V → ev_M → Prop} {i : Nat} (hc : k.2.1.cls = "HelmHand$Wheel") (d : decode k.1 pc = .ok (.getfield 92, 3)) (kk : ev_E G k b u (pc + 3) L (vi (m.1 3 i 1) :: st) (ev_emb m) Q) : ev_E G k b u pc L (vr 3 i :: st) (ev_emb m) Q := ev_getI (ci := 5) (hc ▸ fl_X8_92) rfl rfl d kk
theorem wf_X8_95 : Cond.fieldLink "HelmHand$Wheel" 95 "HelmHand$Ship" "turn" "I" ∈ ev_GW := tm_1 (List.mem_of_getElem? (i := 63) rfl) rfl
theorem fl_X8_95 : ev_FL "HelmHand$Wheel" 95 5 0 := ⟨by decide, wf_X8_95⟩
theorem gt_X8_95 {G : ev_G} {k : ev_K} {b : ev_B} {u : Nat × Nat} {pc : Nat} {L : List (Option ev_V)} {st : List ev_V} {m : ev_m} {Q : Option ev_V → ev_M → Prop} {i : Nat} (hc : k.2.1.cls = "HelmHand$Wheel") (d : decode k.1 pc = .ok (.getfield 95, 3)) (kk : ev_E G k b u (pc + 3) L (vi (m.1 3 i 0) :: st) (ev_emb m) Q) : ev_E G k b u pc L (vr 3 i :: st) (ev_emb m) Q := ev_getI (ci := 5) (hc ▸ fl_X8_95) rfl rfl d kk
theorem wf_X8_98 : Cond.fieldLink "HelmHand$Wheel" 98 "HelmHand$Ship" "wind" "I" ∈ ev_GW := tm_1 (List.mem_of_getElem? (i := 75) rfl) rfl
theorem fl_X8_98 : ev_FL "HelmHand$Wheel" 98 5 6 := ⟨by decide, wf_X8_98⟩
theorem gt_X8_98 {G : ev_G} {k : ev_K} {b : ev_B} {u : Nat × Nat} {pc : Nat} {L : List (Option ev_V)} {st : List ev_V} {m : ev_m} {Q : Option ev_V → ev_M → Prop} {i : Nat} (hc : k.2.1.cls = "HelmHand$Wheel") (d : decode k.1 pc = .ok (.getfield 98, 3)) (kk : ev_E G k b u (pc + 3) L (vi (m.1 3 i 6) :: st) (ev_emb m) Q) : ev_E G k b u pc L (vr 3 i :: st) (ev_emb m) Q := ev_getI (ci := 5) (hc ▸ fl_X8_98) rfl rfl d kk
theorem wf_X9_10 : Cond.fieldLink "HelmHand" 10 "HelmHand" "book" "LHelmHand$Book;" ∈ ev_GW := tm_2 (List.mem_of_getElem? (i := 116) rfl) rfl
theorem fl_X9_10 : ev_FL "HelmHand" 10 9 0 := ⟨by decide, wf_X9_10⟩
theorem gt_X9_10 {G : ev_G} {k : ev_K} {b : ev_B} {u : Nat × Nat} {pc : Nat} {L : List (Option ev_V)} {st : List ev_V} {m : ev_m} {Q : Option ev_V → ev_M → Prop} {i : Nat} (hc : k.2.1.cls = "HelmHand") (d : decode k.1 pc = .ok (.getfield 10, 3)) (kk : ev_E G k b u (pc + 3) L (vr 1 0 :: st) (ev_emb m) Q) : ev_E G k b u pc L (vr 0 i :: st) (ev_emb m) Q := ev_getR (ci := 9) (hc ▸ fl_X9_10) rfl rfl rfl d kk
theorem wf_X9_104 : Cond.fieldLink "HelmHand" 104 "HelmHand$Paper" "size" "I" ∈ ev_GW := tm_1 (List.mem_of_getElem? (i := 168) rfl) rfl
theorem fl_X9_104 : ev_FL "HelmHand" 104 3 1 := ⟨by decide, wf_X9_104⟩
theorem gt_X9_104 {G : ev_G} {k : ev_K} {b : ev_B} {u : Nat × Nat} {pc : Nat} {L : List (Option ev_V)} {st : List ev_V} {m : ev_m} {Q : Option ev_V → ev_M → Prop} {i : Nat} (hc : k.2.1.cls = "HelmHand") (d : decode k.1 pc = .ok (.getfield 104, 3)) (kk : ev_E G k b u (pc + 3) L (vi (m.1 5 i 1) :: st) (ev_emb m) Q) : ev_E G k b u pc L (vr 5 i :: st) (ev_emb m) Q := ev_getI (ci := 3) (hc ▸ fl_X9_104) rfl rfl d kk
theorem wf_X9_109 : Cond.fieldLink "HelmHand" 109 "HelmHand$Paper" "headings" "[I" ∈ ev_GW := tm_1 (List.mem_of_getElem? (i := 164) rfl) rfl
theorem fl_X9_109 : ev_FL "HelmHand" 109 3 0 := ⟨by decide, wf_X9_109⟩
theorem gt_X9_109 {G : ev_G} {k : ev_K} {b : ev_B} {u : Nat × Nat} {pc : Nat} {L : List (Option ev_V)} {st : List ev_V} {m : ev_m} {Q : Option ev_V → ev_M → Prop} {i : Nat} (hc : k.2.1.cls = "HelmHand") (d : decode k.1 pc = .ok (.getfield 109, 3)) (kk : ev_E G k b u (pc + 3) L (vr 15 i :: st) (ev_emb m) Q) : ev_E G k b u pc L (vr 5 i :: st) (ev_emb m) Q := ev_getR (ci := 3) (hc ▸ fl_X9_109) rfl rfl rfl d kk
theorem wf_X9_121 : Cond.fieldLink "HelmHand" 121 "HelmHand$Watch" "men" "I" ∈ ev_GW := tm_1 (List.mem_of_getElem? (i := 185) rfl) rfl
theorem fl_X9_121 : ev_FL "HelmHand" 121 7 2 := ⟨by decide, wf_X9_121⟩
theorem gt_X9_121 {G : ev_G} {k : ev_K} {b : ev_B} {u : Nat × Nat} {pc : Nat} {L : List (Option ev_V)} {st : List ev_V} {m : ev_m} {Q : Option ev_V → ev_M → Prop} {i : Nat} (hc : k.2.1.cls = "HelmHand") (d : decode k.1 pc = .ok (.getfield 121, 3)) (kk : ev_E G k b u (pc + 3) L (vi (m.1 6 i 2) :: st) (ev_emb m) Q) : ev_E G k b u pc L (vr 6 i :: st) (ev_emb m) Q := ev_getI (ci := 7) (hc ▸ fl_X9_121) rfl rfl d kk
theorem wf_X9_126 : Cond.fieldLink "HelmHand" 126 "HelmHand$Watch" "hands" "[I" ∈ ev_GW := tm_1 (List.mem_of_getElem? (i := 181) rfl) rfl
theorem fl_X9_126 : ev_FL "HelmHand" 126 7 0 := ⟨by decide, wf_X9_126⟩
theorem gt_X9_126 {G : ev_G} {k : ev_K} {b : ev_B} {u : Nat × Nat} {pc : Nat} {L : List (Option ev_V)} {st : List ev_V} {m : ev_m} {Q : Option ev_V → ev_M → Prop} {i : Nat} (hc : k.2.1.cls = "HelmHand") (d : decode k.1 pc = .ok (.getfield 126, 3)) (kk : ev_E G k b u (pc + 3) L (vr 16 i :: st) (ev_emb m) Q) : ev_E G k b u pc L (vr 6 i :: st) (ev_emb m) Q := ev_getR (ci := 7) (hc ▸ fl_X9_126) rfl rfl rfl d kk
theorem wf_X9_129 : Cond.fieldLink "HelmHand" 129 "HelmHand$Watch" "seconds" "[I" ∈ ev_GW := tm_1 (List.mem_of_getElem? (i := 183) rfl) rfl
theorem fl_X9_129 : ev_FL "HelmHand" 129 7 1 := ⟨by decide, wf_X9_129⟩
theorem gt_X9_129 {G : ev_G} {k : ev_K} {b : ev_B} {u : Nat × Nat} {pc : Nat} {L : List (Option ev_V)} {st : List ev_V} {m : ev_m} {Q : Option ev_V → ev_M → Prop} {i : Nat} (hc : k.2.1.cls = "HelmHand") (d : decode k.1 pc = .ok (.getfield 129, 3)) (kk : ev_E G k b u (pc + 3) L (vr 17 i :: st) (ev_emb m) Q) : ev_E G k b u pc L (vr 6 i :: st) (ev_emb m) Q := ev_getR (ci := 7) (hc ▸ fl_X9_129) rfl rfl rfl d kk
theorem wf_X9_136 : Cond.fieldLink "HelmHand" 136 "HelmHand$Wheel" "headings" "[I" ∈ ev_GW := tm_2 (List.mem_of_getElem? (i := 83) rfl) rfl
theorem fl_X9_136 : ev_FL "HelmHand" 136 8 2 := ⟨by decide, wf_X9_136⟩
theorem gt_X9_136 {G : ev_G} {k : ev_K} {b : ev_B} {u : Nat × Nat} {pc : Nat} {L : List (Option ev_V)} {st : List ev_V} {m : ev_m} {Q : Option ev_V → ev_M → Prop} {i : Nat} (hc : k.2.1.cls = "HelmHand") (d : decode k.1 pc = .ok (.getfield 136, 3)) (kk : ev_E G k b u (pc + 3) L (vr 18 0 :: st) (ev_emb m) Q) : ev_E G k b u pc L (vr 8 i :: st) (ev_emb m) Q := ev_getR (ci := 8) (hc ▸ fl_X9_136) rfl rfl rfl d kk
theorem wf_X9_137 : Cond.fieldLink "HelmHand" 137 "HelmHand$Wheel" "paces" "[I" ∈ ev_GW := tm_2 (List.mem_of_getElem? (i := 85) rfl) rfl
theorem fl_X9_137 : ev_FL "HelmHand" 137 8 3 := ⟨by decide, wf_X9_137⟩
theorem gt_X9_137 {G : ev_G} {k : ev_K} {b : ev_B} {u : Nat × Nat} {pc : Nat} {L : List (Option ev_V)} {st : List ev_V} {m : ev_m} {Q : Option ev_V → ev_M → Prop} {i : Nat} (hc : k.2.1.cls = "HelmHand") (d : decode k.1 pc = .ok (.getfield 137, 3)) (kk : ev_E G k b u (pc + 3) L (vr 19 0 :: st) (ev_emb m) Q) : ev_E G k b u pc L (vr 8 i :: st) (ev_emb m) Q := ev_getR (ci := 8) (hc ▸ fl_X9_137) rfl rfl rfl d kk
theorem wf_X9_140 : Cond.fieldLink "HelmHand" 140 "HelmHand$Wheel" "rudders" "[I" ∈ ev_GW := tm_2 (List.mem_of_getElem? (i := 87) rfl) rfl
theorem fl_X9_140 : ev_FL "HelmHand" 140 8 4 := ⟨by decide, wf_X9_140⟩
theorem gt_X9_140 {G : ev_G} {k : ev_K} {b : ev_B} {u : Nat × Nat} {pc : Nat} {L : List (Option ev_V)} {st : List ev_V} {m : ev_m} {Q : Option ev_V → ev_M → Prop} {i : Nat} (hc : k.2.1.cls = "HelmHand") (d : decode k.1 pc = .ok (.getfield 140, 3)) (kk : ev_E G k b u (pc + 3) L (vr 20 0 :: st) (ev_emb m) Q) : ev_E G k b u pc L (vr 8 i :: st) (ev_emb m) Q := ev_getR (ci := 8) (hc ▸ fl_X9_140) rfl rfl rfl d kk
theorem wf_X9_143 : Cond.fieldLink "HelmHand" 143 "HelmHand$Wheel" "saws" "[I" ∈ ev_GW := tm_2 (List.mem_of_getElem? (i := 89) rfl) rfl
theorem fl_X9_143 : ev_FL "HelmHand" 143 8 5 := ⟨by decide, wf_X9_143⟩
theorem gt_X9_143 {G : ev_G} {k : ev_K} {b : ev_B} {u : Nat × Nat} {pc : Nat} {L : List (Option ev_V)} {st : List ev_V} {m : ev_m} {Q : Option ev_V → ev_M → Prop} {i : Nat} (hc : k.2.1.cls = "HelmHand") (d : decode k.1 pc = .ok (.getfield 143, 3)) (kk : ev_E G k b u (pc + 3) L (vr 21 0 :: st) (ev_emb m) Q) : ev_E G k b u pc L (vr 8 i :: st) (ev_emb m) Q := ev_getR (ci := 8) (hc ▸ fl_X9_143) rfl rfl rfl d kk
theorem wf_X9_16 : Cond.fieldLink "HelmHand" 16 "HelmHand" "images" "[LHelmHand$Book;" ∈ ev_GW := tm_2 (List.mem_of_getElem? (i := 117) rfl) rfl
theorem fl_X9_16 : ev_FL "HelmHand" 16 9 1 := ⟨by decide, wf_X9_16⟩
theorem gt_X9_16 {G : ev_G} {k : ev_K} {b : ev_B} {u : Nat × Nat} {pc : Nat} {L : List (Option ev_V)} {st : List ev_V} {m : ev_m} {Q : Option ev_V → ev_M → Prop} {i : Nat} (hc : k.2.1.cls = "HelmHand") (d : decode k.1 pc = .ok (.getfield 16, 3)) (kk : ev_E G k b u (pc + 3) L (vr 23 0 :: st) (ev_emb m) Q) : ev_E G k b u pc L (vr 0 i :: st) (ev_emb m) Q := ev_getR (ci := 9) (hc ▸ fl_X9_16) rfl rfl rfl d kk
theorem wf_X9_20 : Cond.fieldLink "HelmHand" 20 "HelmHand" "imaged" "[Z" ∈ ev_GW := tm_2 (List.mem_of_getElem? (i := 118) rfl) rfl
theorem fl_X9_20 : ev_FL "HelmHand" 20 9 2 := ⟨by decide, wf_X9_20⟩
theorem gt_X9_20 {G : ev_G} {k : ev_K} {b : ev_B} {u : Nat × Nat} {pc : Nat} {L : List (Option ev_V)} {st : List ev_V} {m : ev_m} {Q : Option ev_V → ev_M → Prop} {i : Nat} (hc : k.2.1.cls = "HelmHand") (d : decode k.1 pc = .ok (.getfield 20, 3)) (kk : ev_E G k b u (pc + 3) L (vr 22 0 :: st) (ev_emb m) Q) : ev_E G k b u pc L (vr 0 i :: st) (ev_emb m) Q := ev_getR (ci := 9) (hc ▸ fl_X9_20) rfl rfl rfl d kk
theorem wf_X9_204 : Cond.fieldLink "HelmHand" 204 "HelmHand$Ship" "wind" "I" ∈ ev_GW := tm_1 (List.mem_of_getElem? (i := 76) rfl) rfl
theorem fl_X9_204 : ev_FL "HelmHand" 204 5 6 := ⟨by decide, wf_X9_204⟩
theorem gt_X9_204 {G : ev_G} {k : ev_K} {b : ev_B} {u : Nat × Nat} {pc : Nat} {L : List (Option ev_V)} {st : List ev_V} {m : ev_m} {Q : Option ev_V → ev_M → Prop} {i : Nat} (hc : k.2.1.cls = "HelmHand") (d : decode k.1 pc = .ok (.getfield 204, 3)) (kk : ev_E G k b u (pc + 3) L (vi (m.1 3 i 6) :: st) (ev_emb m) Q) : ev_E G k b u pc L (vr 3 i :: st) (ev_emb m) Q := ev_getI (ci := 5) (hc ▸ fl_X9_204) rfl rfl d kk
theorem wf_X9_240 : Cond.fieldLink "HelmHand" 240 "HelmHand$Hand" "far" "I" ∈ ev_GW := tm_1 (List.mem_of_getElem? (i := 118) rfl) rfl
theorem fl_X9_240 : ev_FL "HelmHand" 240 1 0 := ⟨by decide, wf_X9_240⟩
theorem gt_X9_240 {G : ev_G} {k : ev_K} {b : ev_B} {u : Nat × Nat} {pc : Nat} {L : List (Option ev_V)} {st : List ev_V} {m : ev_m} {Q : Option ev_V → ev_M → Prop} {i : Nat} (hc : k.2.1.cls = "HelmHand") (d : decode k.1 pc = .ok (.getfield 240, 3)) (kk : ev_E G k b u (pc + 3) L (vi (m.1 4 i 0) :: st) (ev_emb m) Q) : ev_E G k b u pc L (vr 4 i :: st) (ev_emb m) Q := ev_getI (ci := 1) (hc ▸ fl_X9_240) rfl rfl d kk
theorem wf_X9_268 : Cond.fieldLink "HelmHand" 268 "HelmHand$Wheel" "last" "I" ∈ ev_GW := tm_2 (List.mem_of_getElem? (i := 81) rfl) rfl
theorem fl_X9_268 : ev_FL "HelmHand" 268 8 1 := ⟨by decide, wf_X9_268⟩
theorem gt_X9_268 {G : ev_G} {k : ev_K} {b : ev_B} {u : Nat × Nat} {pc : Nat} {L : List (Option ev_V)} {st : List ev_V} {m : ev_m} {Q : Option ev_V → ev_M → Prop} {i : Nat} (hc : k.2.1.cls = "HelmHand") (d : decode k.1 pc = .ok (.getfield 268, 3)) (kk : ev_E G k b u (pc + 3) L (vi (m.1 8 i 1) :: st) (ev_emb m) Q) : ev_E G k b u pc L (vr 8 i :: st) (ev_emb m) Q := ev_getI (ci := 8) (hc ▸ fl_X9_268) rfl rfl d kk
theorem wf_X9_27 : Cond.fieldLink "HelmHand" 27 "HelmHand" "reader" "LHelmHand$Reader;" ∈ ev_GW := tm_2 (List.mem_of_getElem? (i := 119) rfl) rfl
theorem fl_X9_27 : ev_FL "HelmHand" 27 9 3 := ⟨by decide, wf_X9_27⟩
theorem gt_X9_27 {G : ev_G} {k : ev_K} {b : ev_B} {u : Nat × Nat} {pc : Nat} {L : List (Option ev_V)} {st : List ev_V} {m : ev_m} {Q : Option ev_V → ev_M → Prop} {i : Nat} (hc : k.2.1.cls = "HelmHand") (d : decode k.1 pc = .ok (.getfield 27, 3)) (kk : ev_E G k b u (pc + 3) L (vr 7 0 :: st) (ev_emb m) Q) : ev_E G k b u pc L (vr 0 i :: st) (ev_emb m) Q := ev_getR (ci := 9) (hc ▸ fl_X9_27) rfl rfl rfl d kk
theorem wf_X9_280 : Cond.fieldLink "HelmHand" 280 "HelmHand$Book" "hands" "I" ∈ ev_GW := tm_1 (List.mem_of_getElem? (i := 201) rfl) rfl
theorem fl_X9_280 : ev_FL "HelmHand" 280 0 4 := ⟨by decide, wf_X9_280⟩
theorem gt_X9_280 {G : ev_G} {k : ev_K} {b : ev_B} {u : Nat × Nat} {pc : Nat} {L : List (Option ev_V)} {st : List ev_V} {m : ev_m} {Q : Option ev_V → ev_M → Prop} {i : Nat} (hc : k.2.1.cls = "HelmHand") (d : decode k.1 pc = .ok (.getfield 280, 3)) (kk : ev_E G k b u (pc + 3) L (vi (m.1 1 i 4) :: st) (ev_emb m) Q) : ev_E G k b u pc L (vr 1 i :: st) (ev_emb m) Q := ev_getI (ci := 0) (hc ▸ fl_X9_280) rfl rfl d kk
theorem wf_X9_34 : Cond.fieldLink "HelmHand" 34 "HelmHand" "wheel" "LHelmHand$Wheel;" ∈ ev_GW := tm_2 (List.mem_of_getElem? (i := 120) rfl) rfl
theorem fl_X9_34 : ev_FL "HelmHand" 34 9 4 := ⟨by decide, wf_X9_34⟩
theorem gt_X9_34 {G : ev_G} {k : ev_K} {b : ev_B} {u : Nat × Nat} {pc : Nat} {L : List (Option ev_V)} {st : List ev_V} {m : ev_m} {Q : Option ev_V → ev_M → Prop} {i : Nat} (hc : k.2.1.cls = "HelmHand") (d : decode k.1 pc = .ok (.getfield 34, 3)) (kk : ev_E G k b u (pc + 3) L (vr 8 0 :: st) (ev_emb m) Q) : ev_E G k b u pc L (vr 0 i :: st) (ev_emb m) Q := ev_getR (ci := 9) (hc ▸ fl_X9_34) rfl rfl rfl d kk
theorem wf_X9_41 : Cond.fieldLink "HelmHand" 41 "HelmHand" "trialShip" "LHelmHand$Ship;" ∈ ev_GW := tm_2 (List.mem_of_getElem? (i := 121) rfl) rfl
theorem fl_X9_41 : ev_FL "HelmHand" 41 9 5 := ⟨by decide, wf_X9_41⟩
theorem gt_X9_41 {G : ev_G} {k : ev_K} {b : ev_B} {u : Nat × Nat} {pc : Nat} {L : List (Option ev_V)} {st : List ev_V} {m : ev_m} {Q : Option ev_V → ev_M → Prop} {i : Nat} (hc : k.2.1.cls = "HelmHand") (d : decode k.1 pc = .ok (.getfield 41, 3)) (kk : ev_E G k b u (pc + 3) L (vr 3 8 :: st) (ev_emb m) Q) : ev_E G k b u pc L (vr 0 i :: st) (ev_emb m) Q := ev_getR (ci := 9) (hc ▸ fl_X9_41) rfl rfl rfl d kk
theorem wf_X9_48 : Cond.fieldLink "HelmHand" 48 "HelmHand" "trialHand" "LHelmHand$Hand;" ∈ ev_GW := tm_2 (List.mem_of_getElem? (i := 122) rfl) rfl
theorem fl_X9_48 : ev_FL "HelmHand" 48 9 6 := ⟨by decide, wf_X9_48⟩
theorem gt_X9_48 {G : ev_G} {k : ev_K} {b : ev_B} {u : Nat × Nat} {pc : Nat} {L : List (Option ev_V)} {st : List ev_V} {m : ev_m} {Q : Option ev_V → ev_M → Prop} {i : Nat} (hc : k.2.1.cls = "HelmHand") (d : decode k.1 pc = .ok (.getfield 48, 3)) (kk : ev_E G k b u (pc + 3) L (vr 4 16 :: st) (ev_emb m) Q) : ev_E G k b u pc L (vr 0 i :: st) (ev_emb m) Q := ev_getR (ci := 9) (hc ▸ fl_X9_48) rfl rfl rfl d kk
theorem wf_X9_52 : Cond.fieldLink "HelmHand" 52 "HelmHand$Book" "tape" "LHelmHand$Tape;" ∈ ev_GW := tm_1 (List.mem_of_getElem? (i := 194) rfl) rfl
theorem fl_X9_52 : ev_FL "HelmHand" 52 0 0 := ⟨by decide, wf_X9_52⟩
theorem gt_X9_52 {G : ev_G} {k : ev_K} {b : ev_B} {u : Nat × Nat} {pc : Nat} {L : List (Option ev_V)} {st : List ev_V} {m : ev_m} {Q : Option ev_V → ev_M → Prop} {i : Nat} (hc : k.2.1.cls = "HelmHand") (d : decode k.1 pc = .ok (.getfield 52, 3)) (kk : ev_E G k b u (pc + 3) L (vr 2 i :: st) (ev_emb m) Q) : ev_E G k b u pc L (vr 1 i :: st) (ev_emb m) Q := ev_getR (ci := 0) (hc ▸ fl_X9_52) rfl rfl rfl d kk
theorem wf_X9_56 : Cond.fieldLink "HelmHand" 56 "HelmHand$Tape" "length" "I" ∈ ev_GW := tm_1 (List.mem_of_getElem? (i := 40) rfl) rfl
theorem fl_X9_56 : ev_FL "HelmHand" 56 6 1 := ⟨by decide, wf_X9_56⟩
theorem gt_X9_56 {G : ev_G} {k : ev_K} {b : ev_B} {u : Nat × Nat} {pc : Nat} {L : List (Option ev_V)} {st : List ev_V} {m : ev_m} {Q : Option ev_V → ev_M → Prop} {i : Nat} (hc : k.2.1.cls = "HelmHand") (d : decode k.1 pc = .ok (.getfield 56, 3)) (kk : ev_E G k b u (pc + 3) L (vi (m.1 2 i 1) :: st) (ev_emb m) Q) : ev_E G k b u pc L (vr 2 i :: st) (ev_emb m) Q := ev_getI (ci := 6) (hc ▸ fl_X9_56) rfl rfl d kk
theorem wf_X9_70 : Cond.fieldLink "HelmHand" 70 "HelmHand$Book" "fault" "I" ∈ ev_GW := tm_1 (List.mem_of_getElem? (i := 195) rfl) rfl
theorem fl_X9_70 : ev_FL "HelmHand" 70 0 1 := ⟨by decide, wf_X9_70⟩
theorem gt_X9_70 {G : ev_G} {k : ev_K} {b : ev_B} {u : Nat × Nat} {pc : Nat} {L : List (Option ev_V)} {st : List ev_V} {m : ev_m} {Q : Option ev_V → ev_M → Prop} {i : Nat} (hc : k.2.1.cls = "HelmHand") (d : decode k.1 pc = .ok (.getfield 70, 3)) (kk : ev_E G k b u (pc + 3) L (vi (m.1 1 i 1) :: st) (ev_emb m) Q) : ev_E G k b u pc L (vr 1 i :: st) (ev_emb m) Q := ev_getI (ci := 0) (hc ▸ fl_X9_70) rfl rfl d kk
theorem wf_X9_73 : Cond.fieldLink "HelmHand" 73 "HelmHand$Book" "faultPlace" "I" ∈ ev_GW := tm_1 (List.mem_of_getElem? (i := 198) rfl) rfl
theorem fl_X9_73 : ev_FL "HelmHand" 73 0 2 := ⟨by decide, wf_X9_73⟩
theorem gt_X9_73 {G : ev_G} {k : ev_K} {b : ev_B} {u : Nat × Nat} {pc : Nat} {L : List (Option ev_V)} {st : List ev_V} {m : ev_m} {Q : Option ev_V → ev_M → Prop} {i : Nat} (hc : k.2.1.cls = "HelmHand") (d : decode k.1 pc = .ok (.getfield 73, 3)) (kk : ev_E G k b u (pc + 3) L (vi (m.1 1 i 2) :: st) (ev_emb m) Q) : ev_E G k b u pc L (vr 1 i :: st) (ev_emb m) Q := ev_getI (ci := 0) (hc ▸ fl_X9_73) rfl rfl d kk
theorem wf_X9_80 : Cond.fieldLink "HelmHand" 80 "HelmHand$Reader" "fault" "I" ∈ ev_GW := tm_2 (List.mem_of_getElem? (i := 17) rfl) rfl
theorem fl_X9_80 : ev_FL "HelmHand" 80 4 4 := ⟨by decide, wf_X9_80⟩
theorem gt_X9_80 {G : ev_G} {k : ev_K} {b : ev_B} {u : Nat × Nat} {pc : Nat} {L : List (Option ev_V)} {st : List ev_V} {m : ev_m} {Q : Option ev_V → ev_M → Prop} {i : Nat} (hc : k.2.1.cls = "HelmHand") (d : decode k.1 pc = .ok (.getfield 80, 3)) (kk : ev_E G k b u (pc + 3) L (vi (m.1 7 i 4) :: st) (ev_emb m) Q) : ev_E G k b u pc L (vr 7 i :: st) (ev_emb m) Q := ev_getI (ci := 4) (hc ▸ fl_X9_80) rfl rfl d kk
theorem wf_X9_81 : Cond.fieldLink "HelmHand" 81 "HelmHand$Reader" "faultPlace" "I" ∈ ev_GW := tm_2 (List.mem_of_getElem? (i := 19) rfl) rfl
theorem fl_X9_81 : ev_FL "HelmHand" 81 4 5 := ⟨by decide, wf_X9_81⟩
theorem gt_X9_81 {G : ev_G} {k : ev_K} {b : ev_B} {u : Nat × Nat} {pc : Nat} {L : List (Option ev_V)} {st : List ev_V} {m : ev_m} {Q : Option ev_V → ev_M → Prop} {i : Nat} (hc : k.2.1.cls = "HelmHand") (d : decode k.1 pc = .ok (.getfield 81, 3)) (kk : ev_E G k b u (pc + 3) L (vi (m.1 7 i 5) :: st) (ev_emb m) Q) : ev_E G k b u pc L (vr 7 i :: st) (ev_emb m) Q := ev_getI (ci := 4) (hc ▸ fl_X9_81) rfl rfl d kk
theorem kc_J6_265 : Cond.constant "java/lang/Integer" 265 (1431655765 : Int32) ∈ ev_GW := tm_5 (List.mem_of_getElem? (i := 78) rfl) rfl
theorem kc_J6_266 : Cond.constant "java/lang/Integer" 266 (858993459 : Int32) ∈ ev_GW := tm_5 (List.mem_of_getElem? (i := 79) rfl) rfl
theorem kc_J6_267 : Cond.constant "java/lang/Integer" 267 (252645135 : Int32) ∈ ev_GW := tm_5 (List.mem_of_getElem? (i := 80) rfl) rfl
theorem kc_X10_235 : Cond.constant "HelmHandModel" 235 (-100000 : Int32) ∈ ev_GW := tm_6 (List.mem_of_getElem? (i := 204) rfl) rfl
theorem kc_X10_239 : Cond.constant "HelmHandModel" 239 (1103515245 : Int32) ∈ ev_GW := tm_7 (List.mem_of_getElem? (i := 38) rfl) rfl
theorem kc_X5_69 : Cond.constant "HelmHand$Ship" 69 (-100000 : Int32) ∈ ev_GW := tm_3 (List.mem_of_getElem? (i := 163) rfl) rfl
theorem kc_X8_116 : Cond.constant "HelmHand$Wheel" 116 (1103515245 : Int32) ∈ ev_GW := tm_4 (List.mem_of_getElem? (i := 66) rfl) rfl
theorem kc_X9_303 : Cond.constant "HelmHand" 303 (2147483647 : Int32) ∈ ev_GW := tm_5 (List.mem_of_getElem? (i := 111) rfl) rfl
theorem kc_X9_90 : Cond.constant "HelmHand" 90 (-100000 : Int32) ∈ ev_GW := tm_3 (List.mem_of_getElem? (i := 227) rfl) rfl
theorem kl_X10_151 : Cond.constantLong "HelmHandModel" 151 (1953854062 : Int64) ∈ ev_GW := tm_6 (List.mem_of_getElem? (i := 130) rfl) rfl
theorem kl_X10_153 : Cond.constantLong "HelmHandModel" 153 (1667329133 : Int64) ∈ ev_GW := tm_6 (List.mem_of_getElem? (i := 131) rfl) rfl
theorem kl_X10_155 : Cond.constantLong "HelmHandModel" 155 (7102823 : Int64) ∈ ev_GW := tm_6 (List.mem_of_getElem? (i := 132) rfl) rfl
theorem kl_X10_157 : Cond.constantLong "HelmHandModel" 157 (1836020596 : Int64) ∈ ev_GW := tm_6 (List.mem_of_getElem? (i := 133) rfl) rfl
theorem kl_X10_159 : Cond.constantLong "HelmHandModel" 159 (1734697330 : Int64) ∈ ev_GW := tm_6 (List.mem_of_getElem? (i := 134) rfl) rfl
theorem kl_X10_161 : Cond.constantLong "HelmHandModel" 161 (7501154 : Int64) ∈ ev_GW := tm_6 (List.mem_of_getElem? (i := 135) rfl) rfl
theorem kl_X10_163 : Cond.constantLong "HelmHandModel" 163 (2003398244 : Int64) ∈ ev_GW := tm_6 (List.mem_of_getElem? (i := 136) rfl) rfl
theorem kl_X10_165 : Cond.constantLong "HelmHandModel" 165 (1953655149 : Int64) ∈ ev_GW := tm_6 (List.mem_of_getElem? (i := 137) rfl) rfl
theorem kl_X10_167 : Cond.constantLong "HelmHandModel" 167 (495873782388 : Int64) ∈ ev_GW := tm_6 (List.mem_of_getElem? (i := 138) rfl) rfl
theorem kl_X10_169 : Cond.constantLong "HelmHandModel" 169 (7562593 : Int64) ∈ ev_GW := tm_6 (List.mem_of_getElem? (i := 139) rfl) rfl
theorem kl_X10_181 : Cond.constantLong "HelmHandModel" 181 (6709618 : Int64) ∈ ev_GW := tm_6 (List.mem_of_getElem? (i := 172) rfl) rfl
theorem kl_X10_183 : Cond.constantLong "HelmHandModel" 183 (487301145451 : Int64) ∈ ev_GW := tm_6 (List.mem_of_getElem? (i := 173) rfl) rfl
theorem kl_X10_185 : Cond.constantLong "HelmHandModel" 185 (1650812270 : Int64) ∈ ev_GW := tm_6 (List.mem_of_getElem? (i := 174) rfl) rfl
theorem kl_X10_187 : Cond.constantLong "HelmHandModel" 187 (1684365668 : Int64) ∈ ev_GW := tm_6 (List.mem_of_getElem? (i := 175) rfl) rfl
theorem kl_X10_189 : Cond.constantLong "HelmHandModel" 189 (482905517684 : Int64) ∈ ev_GW := tm_6 (List.mem_of_getElem? (i := 176) rfl) rfl
theorem kl_X10_191 : Cond.constantLong "HelmHandModel" 191 (513021013607 : Int64) ∈ ev_GW := tm_6 (List.mem_of_getElem? (i := 177) rfl) rfl
theorem kl_X10_193 : Cond.constantLong "HelmHandModel" 193 (499985311076 : Int64) ∈ ev_GW := tm_6 (List.mem_of_getElem? (i := 178) rfl) rfl
theorem kl_X10_195 : Cond.constantLong "HelmHandModel" 195 (495740088435 : Int64) ∈ ev_GW := tm_6 (List.mem_of_getElem? (i := 179) rfl) rfl
theorem kl_X10_197 : Cond.constantLong "HelmHandModel" 197 (1700885369 : Int64) ∈ ev_GW := tm_6 (List.mem_of_getElem? (i := 180) rfl) rfl
theorem kl_X10_199 : Cond.constantLong "HelmHandModel" 199 (1937006962 : Int64) ∈ ev_GW := tm_6 (List.mem_of_getElem? (i := 181) rfl) rfl
theorem kl_X10_201 : Cond.constantLong "HelmHandModel" 201 (7499639 : Int64) ∈ ev_GW := tm_6 (List.mem_of_getElem? (i := 186) rfl) rfl
theorem kl_X10_203 : Cond.constantLong "HelmHandModel" 203 (7168366 : Int64) ∈ ev_GW := tm_6 (List.mem_of_getElem? (i := 191) rfl) rfl
theorem kl_X10_298 : Cond.constantLong "HelmHandModel" 298 (1000 : Int64) ∈ ev_GW := tm_7 (List.mem_of_getElem? (i := 47) rfl) rfl
theorem kl_X10_333 : Cond.constantLong "HelmHandModel" 333 (-9223372036854775808 : Int64) ∈ ev_GW := tm_7 (List.mem_of_getElem? (i := 52) rfl) rfl
theorem kl_X10_341 : Cond.constantLong "HelmHandModel" 341 (-1 : Int64) ∈ ev_GW := tm_7 (List.mem_of_getElem? (i := 73) rfl) rfl
theorem kl_X10_358 : Cond.constantLong "HelmHandModel" 358 (-100000 : Int64) ∈ ev_GW := tm_7 (List.mem_of_getElem? (i := 142) rfl) rfl
theorem kl_X10_372 : Cond.constantLong "HelmHandModel" 372 (2 : Int64) ∈ ev_GW := tm_7 (List.mem_of_getElem? (i := 198) rfl) rfl
theorem kl_X8_149 : Cond.constantLong "HelmHand$Wheel" 149 (-9223372036854775808 : Int64) ∈ ev_GW := tm_4 (List.mem_of_getElem? (i := 156) rfl) rfl
theorem kl_X8_178 : Cond.constantLong "HelmHand$Wheel" 178 (2 : Int64) ∈ ev_GW := tm_5 (List.mem_of_getElem? (i := 148) rfl) rfl
theorem kl_X9_146 : Cond.constantLong "HelmHand" 146 (-9223372036854775808 : Int64) ∈ ev_GW := tm_4 (List.mem_of_getElem? (i := 85) rfl) rfl
theorem kl_X9_159 : Cond.constantLong "HelmHand" 159 (-1 : Int64) ∈ ev_GW := tm_4 (List.mem_of_getElem? (i := 175) rfl) rfl
theorem kl_X9_165 : Cond.constantLong "HelmHand" 165 (9223372036854775807 : Int64) ∈ ev_GW := tm_4 (List.mem_of_getElem? (i := 180) rfl) rfl
theorem kl_X9_250 : Cond.constantLong "HelmHand" 250 (-100000 : Int64) ∈ ev_GW := tm_5 (List.mem_of_getElem? (i := 58) rfl) rfl
theorem mmax_X0_66 : Cond.methodLink "HelmHand$Book" 66 Lib.Math.max.name ∈ ev_GW := tm_3 (List.mem_of_getElem? (i := 143) rfl) rfl
theorem mmax_w : Cond.static Lib.Math.max.name ∈ ev_GW ∧ Cond.initialized "java/lang/Math" ∈ ev_GW ∧ Cond.code Lib.Math.max.name Lib.Math.max.code 2 (some .int) ∈ ev_GW := ⟨tm_3 (List.mem_of_getElem? (i := 144) rfl) rfl, tm_1 (List.mem_of_getElem? (i := 12) rfl) rfl, tm_3 (List.mem_of_getElem? (i := 145) rfl) rfl⟩
theorem mmin_X1_73 : Cond.methodLink "HelmHand$Hand" 73 Lib.Math.min.name ∈ ev_GW := tm_4 (List.mem_of_getElem? (i := 43) rfl) rfl
theorem mmin_w : Cond.static Lib.Math.min.name ∈ ev_GW ∧ Cond.initialized "java/lang/Math" ∈ ev_GW ∧ Cond.code Lib.Math.min.name Lib.Math.min.code 2 (some .int) ∈ ev_GW := ⟨tm_2 (List.mem_of_getElem? (i := 175) rfl) rfl, tm_1 (List.mem_of_getElem? (i := 12) rfl) rfl, tm_2 (List.mem_of_getElem? (i := 176) rfl) rfl⟩
theorem mmin_X6_23 : Cond.methodLink "HelmHand$Tape" 23 Lib.Math.min.name ∈ ev_GW := tm_2 (List.mem_of_getElem? (i := 174) rfl) rfl
theorem mmax_X8_111 : Cond.methodLink "HelmHand$Wheel" 111 Lib.Math.max.name ∈ ev_GW := tm_4 (List.mem_of_getElem? (i := 48) rfl) rfl
theorem mabs_X8_151 : Cond.methodLink "HelmHand$Wheel" 151 Lib.Math.abs.name ∈ ev_GW := tm_4 (List.mem_of_getElem? (i := 102) rfl) rfl
theorem mabs_w : Cond.static Lib.Math.abs.name ∈ ev_GW ∧ Cond.initialized "java/lang/Math" ∈ ev_GW ∧ Cond.code Lib.Math.abs.name Lib.Math.abs.code 1 (some .int) ∈ ev_GW := ⟨tm_4 (List.mem_of_getElem? (i := 103) rfl) rfl, tm_1 (List.mem_of_getElem? (i := 12) rfl) rfl, tm_4 (List.mem_of_getElem? (i := 104) rfl) rfl⟩
theorem mabsl_X9_210 : Cond.methodLink "HelmHand" 210 Lib.MathLoose.abs_long.x ∈ ev_GW := tm_4 (List.mem_of_getElem? (i := 239) rfl) rfl
theorem mabsl_w : Cond.static Lib.MathLoose.abs_long.x ∈ ev_GW ∧ Cond.initialized "java/lang/Math" ∈ ev_GW ∧ Cond.code Lib.MathLoose.abs_long.x Lib.MathLoose.abs_long.code 2 (some .long) ∈ ev_GW := ⟨tm_5 (List.mem_of_getElem? (i := 0) rfl) rfl, tm_1 (List.mem_of_getElem? (i := 12) rfl) rfl, tm_5 (List.mem_of_getElem? (i := 1) rfl) rfl⟩
theorem mminl_X9_236 : Cond.methodLink "HelmHand" 236 Lib.MathLoose.min_long.x ∈ ev_GW := tm_5 (List.mem_of_getElem? (i := 39) rfl) rfl
theorem mminl_w : Cond.static Lib.MathLoose.min_long.x ∈ ev_GW ∧ Cond.initialized "java/lang/Math" ∈ ev_GW ∧ Cond.code Lib.MathLoose.min_long.x Lib.MathLoose.min_long.code 4 (some .long) ∈ ev_GW := ⟨tm_5 (List.mem_of_getElem? (i := 40) rfl) rfl, tm_1 (List.mem_of_getElem? (i := 12) rfl) rfl, tm_5 (List.mem_of_getElem? (i := 41) rfl) rfl⟩
theorem mmin_X9_334 : Cond.methodLink "HelmHand" 334 Lib.Math.min.name ∈ ev_GW := tm_3 (List.mem_of_getElem? (i := 168) rfl) rfl
theorem mmax_X9_342 : Cond.methodLink "HelmHand" 342 Lib.Math.max.name ∈ ev_GW := tm_4 (List.mem_of_getElem? (i := 57) rfl) rfl
theorem pt_X0_110 {G : ev_G} {k : ev_K} {b : ev_B} {u : Nat × Nat} {pc : Nat} {L : List (Option ev_V)} {st : List ev_V} {m : ev_m} {Q : Option ev_V → ev_M → Prop} {i : Nat} {x : Int32} (hc : k.2.1.cls = "HelmHand$Book") (d : decode k.1 pc = .ok (.putfield 110, 3)) (kk : ev_E G k b u (pc + 3) L st (ev_emb (ev_pim m 1 i 1 x)) Q) : ev_E G k b u pc L (vi x :: vr 1 i :: st) (ev_emb m) Q := ev_putI (ci := 0) (hc ▸ fl_X0_110) rfl rfl rfl rfl rfl d kk
theorem pt_X0_18 {G : ev_G} {k : ev_K} {b : ev_B} {u : Nat × Nat} {pc : Nat} {L : List (Option ev_V)} {st : List ev_V} {m : ev_m} {Q : Option ev_V → ev_M → Prop} {i : Nat} {x : Int32} (hc : k.2.1.cls = "HelmHand$Book") (d : decode k.1 pc = .ok (.putfield 18, 3)) (kk : ev_E G k b u (pc + 3) L st (ev_emb (ev_pim m 1 i 2 x)) Q) : ev_E G k b u pc L (vi x :: vr 1 i :: st) (ev_emb m) Q := ev_putI (ci := 0) (hc ▸ fl_X0_18) rfl rfl rfl rfl rfl d kk
theorem pt_X0_50 {G : ev_G} {k : ev_K} {b : ev_B} {u : Nat × Nat} {pc : Nat} {L : List (Option ev_V)} {st : List ev_V} {m : ev_m} {Q : Option ev_V → ev_M → Prop} {i : Nat} {x : Int32} (hc : k.2.1.cls = "HelmHand$Book") (d : decode k.1 pc = .ok (.putfield 50, 3)) (kk : ev_E G k b u (pc + 3) L st (ev_emb (ev_pim m 1 i 3 x)) Q) : ev_E G k b u pc L (vi x :: vr 1 i :: st) (ev_emb m) Q := ev_putI (ci := 0) (hc ▸ fl_X0_50) rfl rfl rfl rfl rfl d kk
theorem pt_X0_53 {G : ev_G} {k : ev_K} {b : ev_B} {u : Nat × Nat} {pc : Nat} {L : List (Option ev_V)} {st : List ev_V} {m : ev_m} {Q : Option ev_V → ev_M → Prop} {i : Nat} {x : Int32} (hc : k.2.1.cls = "HelmHand$Book") (d : decode k.1 pc = .ok (.putfield 53, 3)) (kk : ev_E G k b u (pc + 3) L st (ev_emb (ev_pim m 1 i 4 x)) Q) : ev_E G k b u pc L (vi x :: vr 1 i :: st) (ev_emb m) Q := ev_putI (ci := 0) (hc ▸ fl_X0_53) rfl rfl rfl rfl rfl d kk
theorem pt_X0_56 {G : ev_G} {k : ev_K} {b : ev_B} {u : Nat × Nat} {pc : Nat} {L : List (Option ev_V)} {st : List ev_V} {m : ev_m} {Q : Option ev_V → ev_M → Prop} {i : Nat} {x : Int32} (hc : k.2.1.cls = "HelmHand$Book") (d : decode k.1 pc = .ok (.putfield 56, 3)) (kk : ev_E G k b u (pc + 3) L st (ev_emb (ev_pim m 1 i 5 x)) Q) : ev_E G k b u pc L (vi x :: vr 1 i :: st) (ev_emb m) Q := ev_putI (ci := 0) (hc ▸ fl_X0_56) rfl rfl rfl rfl rfl d kk
theorem pt_X0_59 {G : ev_G} {k : ev_K} {b : ev_B} {u : Nat × Nat} {pc : Nat} {L : List (Option ev_V)} {st : List ev_V} {m : ev_m} {Q : Option ev_V → ev_M → Prop} {i : Nat} {x : Int32} (hc : k.2.1.cls = "HelmHand$Book") (d : decode k.1 pc = .ok (.putfield 59, 3)) (kk : ev_E G k b u (pc + 3) L st (ev_emb (ev_pim m 1 i 6 x)) Q) : ev_E G k b u pc L (vi x :: vr 1 i :: st) (ev_emb m) Q := ev_putI (ci := 0) (hc ▸ fl_X0_59) rfl rfl rfl rfl rfl d kk
theorem pt_X1_22 {G : ev_G} {k : ev_K} {b : ev_B} {u : Nat × Nat} {pc : Nat} {L : List (Option ev_V)} {st : List ev_V} {m : ev_m} {Q : Option ev_V → ev_M → Prop} {i : Nat} {x : Int32} (hc : k.2.1.cls = "HelmHand$Hand") (d : decode k.1 pc = .ok (.putfield 22, 3)) (kk : ev_E G k b u (pc + 3) L st (ev_emb (ev_pim m 4 i 4 x)) Q) : ev_E G k b u pc L (vi x :: vr 4 i :: st) (ev_emb m) Q := ev_putI (ci := 1) (hc ▸ fl_X1_22) rfl rfl rfl rfl rfl d kk
theorem pt_X1_26 {G : ev_G} {k : ev_K} {b : ev_B} {u : Nat × Nat} {pc : Nat} {L : List (Option ev_V)} {st : List ev_V} {m : ev_m} {Q : Option ev_V → ev_M → Prop} {i : Nat} {x : Int32} (hc : k.2.1.cls = "HelmHand$Hand") (d : decode k.1 pc = .ok (.putfield 26, 3)) (kk : ev_E G k b u (pc + 3) L st (ev_emb (ev_pim m 4 i 9 x)) Q) : ev_E G k b u pc L (vi x :: vr 4 i :: st) (ev_emb m) Q := ev_putI (ci := 1) (hc ▸ fl_X1_26) rfl rfl rfl rfl rfl d kk
theorem pt_X1_37 {G : ev_G} {k : ev_K} {b : ev_B} {u : Nat × Nat} {pc : Nat} {L : List (Option ev_V)} {st : List ev_V} {m : ev_m} {Q : Option ev_V → ev_M → Prop} {i : Nat} {x : Int32} (hc : k.2.1.cls = "HelmHand$Hand") (d : decode k.1 pc = .ok (.putfield 37, 3)) (kk : ev_E G k b u (pc + 3) L st (ev_emb (ev_pim m 4 i 0 x)) Q) : ev_E G k b u pc L (vi x :: vr 4 i :: st) (ev_emb m) Q := ev_putI (ci := 1) (hc ▸ fl_X1_37) rfl rfl rfl rfl rfl d kk
theorem pt_X1_40 {G : ev_G} {k : ev_K} {b : ev_B} {u : Nat × Nat} {pc : Nat} {L : List (Option ev_V)} {st : List ev_V} {m : ev_m} {Q : Option ev_V → ev_M → Prop} {i : Nat} {x : Int32} (hc : k.2.1.cls = "HelmHand$Hand") (d : decode k.1 pc = .ok (.putfield 40, 3)) (kk : ev_E G k b u (pc + 3) L st (ev_emb (ev_pim m 4 i 1 x)) Q) : ev_E G k b u pc L (vi x :: vr 4 i :: st) (ev_emb m) Q := ev_putI (ci := 1) (hc ▸ fl_X1_40) rfl rfl rfl rfl rfl d kk
theorem pt_X1_43 {G : ev_G} {k : ev_K} {b : ev_B} {u : Nat × Nat} {pc : Nat} {L : List (Option ev_V)} {st : List ev_V} {m : ev_m} {Q : Option ev_V → ev_M → Prop} {i : Nat} {x : Int32} (hc : k.2.1.cls = "HelmHand$Hand") (d : decode k.1 pc = .ok (.putfield 43, 3)) (kk : ev_E G k b u (pc + 3) L st (ev_emb (ev_pim m 4 i 2 x)) Q) : ev_E G k b u pc L (vi x :: vr 4 i :: st) (ev_emb m) Q := ev_putI (ci := 1) (hc ▸ fl_X1_43) rfl rfl rfl rfl rfl d kk
theorem pt_X1_46 {G : ev_G} {k : ev_K} {b : ev_B} {u : Nat × Nat} {pc : Nat} {L : List (Option ev_V)} {st : List ev_V} {m : ev_m} {Q : Option ev_V → ev_M → Prop} {i : Nat} {x : Int32} (hc : k.2.1.cls = "HelmHand$Hand") (d : decode k.1 pc = .ok (.putfield 46, 3)) (kk : ev_E G k b u (pc + 3) L st (ev_emb (ev_pim m 4 i 3 x)) Q) : ev_E G k b u pc L (vi x :: vr 4 i :: st) (ev_emb m) Q := ev_putI (ci := 1) (hc ▸ fl_X1_46) rfl rfl rfl rfl rfl d kk
theorem pt_X1_49 {G : ev_G} {k : ev_K} {b : ev_B} {u : Nat × Nat} {pc : Nat} {L : List (Option ev_V)} {st : List ev_V} {m : ev_m} {Q : Option ev_V → ev_M → Prop} {i : Nat} {x : Int32} (hc : k.2.1.cls = "HelmHand$Hand") (d : decode k.1 pc = .ok (.putfield 49, 3)) (kk : ev_E G k b u (pc + 3) L st (ev_emb (ev_pim m 4 i 5 x)) Q) : ev_E G k b u pc L (vi x :: vr 4 i :: st) (ev_emb m) Q := ev_putI (ci := 1) (hc ▸ fl_X1_49) rfl rfl rfl rfl rfl d kk
theorem pt_X1_52 {G : ev_G} {k : ev_K} {b : ev_B} {u : Nat × Nat} {pc : Nat} {L : List (Option ev_V)} {st : List ev_V} {m : ev_m} {Q : Option ev_V → ev_M → Prop} {i : Nat} {x : Int32} (hc : k.2.1.cls = "HelmHand$Hand") (d : decode k.1 pc = .ok (.putfield 52, 3)) (kk : ev_E G k b u (pc + 3) L st (ev_emb (ev_pim m 4 i 6 x)) Q) : ev_E G k b u pc L (vi x :: vr 4 i :: st) (ev_emb m) Q := ev_putI (ci := 1) (hc ▸ fl_X1_52) rfl rfl rfl rfl rfl d kk
theorem pt_X1_55 {G : ev_G} {k : ev_K} {b : ev_B} {u : Nat × Nat} {pc : Nat} {L : List (Option ev_V)} {st : List ev_V} {m : ev_m} {Q : Option ev_V → ev_M → Prop} {i : Nat} {x : Int32} (hc : k.2.1.cls = "HelmHand$Hand") (d : decode k.1 pc = .ok (.putfield 55, 3)) (kk : ev_E G k b u (pc + 3) L st (ev_emb (ev_pim m 4 i 7 x)) Q) : ev_E G k b u pc L (vi x :: vr 4 i :: st) (ev_emb m) Q := ev_putI (ci := 1) (hc ▸ fl_X1_55) rfl rfl rfl rfl rfl d kk
theorem pt_X1_58 {G : ev_G} {k : ev_K} {b : ev_B} {u : Nat × Nat} {pc : Nat} {L : List (Option ev_V)} {st : List ev_V} {m : ev_m} {Q : Option ev_V → ev_M → Prop} {i : Nat} {x : Int32} (hc : k.2.1.cls = "HelmHand$Hand") (hz : fits .boolean (.int x) = true) (hz2 : narrow .boolean (.int x) = .int x) (d : decode k.1 pc = .ok (.putfield 58, 3)) (kk : ev_E G k b u (pc + 3) L st (ev_emb (ev_pim m 4 i 8 x)) Q) : ev_E G k b u pc L (vi x :: vr 4 i :: st) (ev_emb m) Q := ev_putI (ci := 1) (j := 8) (hc ▸ fl_X1_58) rfl rfl rfl hz hz2 d kk
theorem pt_X10_100 {G : ev_G} {k : ev_K} {b : ev_B} {u : Nat × Nat} {pc : Nat} {L : List (Option ev_V)} {st : List ev_V} {m : ev_m} {Q : Option ev_V → ev_M → Prop} {i : Nat} {x : Int32} (hc : k.2.1.cls = "HelmHandModel") (d : decode k.1 pc = .ok (.putfield 100, 3)) (kk : ev_E G k b u (pc + 3) L st (ev_emb (ev_pim m 10 i 11 x)) Q) : ev_E G k b u pc L (vi x :: vr 10 i :: st) (ev_emb m) Q := ev_putI (ci := 10) (hc ▸ fl_X10_100) rfl rfl rfl rfl rfl d kk
theorem pt_X10_107 {G : ev_G} {k : ev_K} {b : ev_B} {u : Nat × Nat} {pc : Nat} {L : List (Option ev_V)} {st : List ev_V} {m : ev_m} {Q : Option ev_V → ev_M → Prop} {i : Nat} {x : Int32} (hc : k.2.1.cls = "HelmHandModel") (d : decode k.1 pc = .ok (.putfield 107, 3)) (kk : ev_E G k b u (pc + 3) L st (ev_emb (ev_pim m 10 i 12 x)) Q) : ev_E G k b u pc L (vi x :: vr 10 i :: st) (ev_emb m) Q := ev_putI (ci := 10) (hc ▸ fl_X10_107) rfl rfl rfl rfl rfl d kk
theorem pt_X10_110 {G : ev_G} {k : ev_K} {b : ev_B} {u : Nat × Nat} {pc : Nat} {L : List (Option ev_V)} {st : List ev_V} {m : ev_m} {Q : Option ev_V → ev_M → Prop} {i : Nat} {x : Int64} (hc : k.2.1.cls = "HelmHandModel") (d : decode k.1 pc = .ok (.putfield 110, 3)) (kk : ev_E G k b u (pc + 3) L st (ev_emb (ev_plm m 10 i 15 x)) Q) : ev_E G k b u pc L (vl x :: vr 10 i :: st) (ev_emb m) Q := ev_putL (ci := 10) (hc ▸ fl_X10_110) rfl rfl rfl rfl rfl d kk
theorem pt_X10_114 {G : ev_G} {k : ev_K} {b : ev_B} {u : Nat × Nat} {pc : Nat} {L : List (Option ev_V)} {st : List ev_V} {m : ev_m} {Q : Option ev_V → ev_M → Prop} {i : Nat} {x : Int32} (hc : k.2.1.cls = "HelmHandModel") (d : decode k.1 pc = .ok (.putfield 114, 3)) (kk : ev_E G k b u (pc + 3) L st (ev_emb (ev_pim m 10 i 13 x)) Q) : ev_E G k b u pc L (vi x :: vr 10 i :: st) (ev_emb m) Q := ev_putI (ci := 10) (hc ▸ fl_X10_114) rfl rfl rfl rfl rfl d kk
theorem pt_X10_117 {G : ev_G} {k : ev_K} {b : ev_B} {u : Nat × Nat} {pc : Nat} {L : List (Option ev_V)} {st : List ev_V} {m : ev_m} {Q : Option ev_V → ev_M → Prop} {i : Nat} {x : Int32} (hc : k.2.1.cls = "HelmHandModel") (d : decode k.1 pc = .ok (.putfield 117, 3)) (kk : ev_E G k b u (pc + 3) L st (ev_emb (ev_pim m 10 i 14 x)) Q) : ev_E G k b u pc L (vi x :: vr 10 i :: st) (ev_emb m) Q := ev_putI (ci := 10) (hc ▸ fl_X10_117) rfl rfl rfl rfl rfl d kk
theorem pt_X10_120 {G : ev_G} {k : ev_K} {b : ev_B} {u : Nat × Nat} {pc : Nat} {L : List (Option ev_V)} {st : List ev_V} {m : ev_m} {Q : Option ev_V → ev_M → Prop} {i : Nat} {x : Int32} (hc : k.2.1.cls = "HelmHandModel") (d : decode k.1 pc = .ok (.putfield 120, 3)) (kk : ev_E G k b u (pc + 3) L st (ev_emb (ev_pim m 10 i 16 x)) Q) : ev_E G k b u pc L (vi x :: vr 10 i :: st) (ev_emb m) Q := ev_putI (ci := 10) (hc ▸ fl_X10_120) rfl rfl rfl rfl rfl d kk
theorem pt_X10_123 {G : ev_G} {k : ev_K} {b : ev_B} {u : Nat × Nat} {pc : Nat} {L : List (Option ev_V)} {st : List ev_V} {m : ev_m} {Q : Option ev_V → ev_M → Prop} {i : Nat} {x : Int32} (hc : k.2.1.cls = "HelmHandModel") (d : decode k.1 pc = .ok (.putfield 123, 3)) (kk : ev_E G k b u (pc + 3) L st (ev_emb (ev_pim m 10 i 17 x)) Q) : ev_E G k b u pc L (vi x :: vr 10 i :: st) (ev_emb m) Q := ev_putI (ci := 10) (hc ▸ fl_X10_123) rfl rfl rfl rfl rfl d kk
theorem pt_X10_126 {G : ev_G} {k : ev_K} {b : ev_B} {u : Nat × Nat} {pc : Nat} {L : List (Option ev_V)} {st : List ev_V} {m : ev_m} {Q : Option ev_V → ev_M → Prop} {i : Nat} {x : Int32} (hc : k.2.1.cls = "HelmHandModel") (d : decode k.1 pc = .ok (.putfield 126, 3)) (kk : ev_E G k b u (pc + 3) L st (ev_emb (ev_pim m 10 i 18 x)) Q) : ev_E G k b u pc L (vi x :: vr 10 i :: st) (ev_emb m) Q := ev_putI (ci := 10) (hc ▸ fl_X10_126) rfl rfl rfl rfl rfl d kk
theorem pt_X10_133 {G : ev_G} {k : ev_K} {b : ev_B} {u : Nat × Nat} {pc : Nat} {L : List (Option ev_V)} {st : List ev_V} {m : ev_m} {Q : Option ev_V → ev_M → Prop} {i : Nat} {x : Int32} (hc : k.2.1.cls = "HelmHandModel") (d : decode k.1 pc = .ok (.putfield 133, 3)) (kk : ev_E G k b u (pc + 3) L st (ev_emb (ev_pim m 10 i 20 x)) Q) : ev_E G k b u pc L (vi x :: vr 10 i :: st) (ev_emb m) Q := ev_putI (ci := 10) (hc ▸ fl_X10_133) rfl rfl rfl rfl rfl d kk
theorem pt_X10_236 {G : ev_G} {k : ev_K} {b : ev_B} {u : Nat × Nat} {pc : Nat} {L : List (Option ev_V)} {st : List ev_V} {m : ev_m} {Q : Option ev_V → ev_M → Prop} {i : Nat} {x : Int32} (hc : k.2.1.cls = "HelmHandModel") (d : decode k.1 pc = .ok (.putfield 236, 3)) (kk : ev_E G k b u (pc + 3) L st (ev_emb (ev_pim m 10 i 26 x)) Q) : ev_E G k b u pc L (vi x :: vr 10 i :: st) (ev_emb m) Q := ev_putI (ci := 10) (hc ▸ fl_X10_236) rfl rfl rfl rfl rfl d kk
theorem pt_X10_240 {G : ev_G} {k : ev_K} {b : ev_B} {u : Nat × Nat} {pc : Nat} {L : List (Option ev_V)} {st : List ev_V} {m : ev_m} {Q : Option ev_V → ev_M → Prop} {i : Nat} {x : Int32} (hc : k.2.1.cls = "HelmHandModel") (d : decode k.1 pc = .ok (.putfield 240, 3)) (kk : ev_E G k b u (pc + 3) L st (ev_emb (ev_pim m 10 i 32 x)) Q) : ev_E G k b u pc L (vi x :: vr 10 i :: st) (ev_emb m) Q := ev_putI (ci := 10) (hc ▸ fl_X10_240) rfl rfl rfl rfl rfl d kk
theorem pt_X10_243 {G : ev_G} {k : ev_K} {b : ev_B} {u : Nat × Nat} {pc : Nat} {L : List (Option ev_V)} {st : List ev_V} {m : ev_m} {Q : Option ev_V → ev_M → Prop} {i : Nat} {x : Int64} (hc : k.2.1.cls = "HelmHandModel") (d : decode k.1 pc = .ok (.putfield 243, 3)) (kk : ev_E G k b u (pc + 3) L st (ev_emb (ev_plm m 10 i 33 x)) Q) : ev_E G k b u pc L (vl x :: vr 10 i :: st) (ev_emb m) Q := ev_putL (ci := 10) (hc ▸ fl_X10_243) rfl rfl rfl rfl rfl d kk
theorem pt_X10_246 {G : ev_G} {k : ev_K} {b : ev_B} {u : Nat × Nat} {pc : Nat} {L : List (Option ev_V)} {st : List ev_V} {m : ev_m} {Q : Option ev_V → ev_M → Prop} {i : Nat} {x : Int32} (hc : k.2.1.cls = "HelmHandModel") (d : decode k.1 pc = .ok (.putfield 246, 3)) (kk : ev_E G k b u (pc + 3) L st (ev_emb (ev_pim m 10 i 34 x)) Q) : ev_E G k b u pc L (vi x :: vr 10 i :: st) (ev_emb m) Q := ev_putI (ci := 10) (hc ▸ fl_X10_246) rfl rfl rfl rfl rfl d kk
theorem pt_X10_249 {G : ev_G} {k : ev_K} {b : ev_B} {u : Nat × Nat} {pc : Nat} {L : List (Option ev_V)} {st : List ev_V} {m : ev_m} {Q : Option ev_V → ev_M → Prop} {i : Nat} {x : Int64} (hc : k.2.1.cls = "HelmHandModel") (d : decode k.1 pc = .ok (.putfield 249, 3)) (kk : ev_E G k b u (pc + 3) L st (ev_emb (ev_plm m 10 i 35 x)) Q) : ev_E G k b u pc L (vl x :: vr 10 i :: st) (ev_emb m) Q := ev_putL (ci := 10) (hc ▸ fl_X10_249) rfl rfl rfl rfl rfl d kk
theorem pt_X10_252 {G : ev_G} {k : ev_K} {b : ev_B} {u : Nat × Nat} {pc : Nat} {L : List (Option ev_V)} {st : List ev_V} {m : ev_m} {Q : Option ev_V → ev_M → Prop} {i : Nat} {x : Int32} (hc : k.2.1.cls = "HelmHandModel") (d : decode k.1 pc = .ok (.putfield 252, 3)) (kk : ev_E G k b u (pc + 3) L st (ev_emb (ev_pim m 10 i 36 x)) Q) : ev_E G k b u pc L (vi x :: vr 10 i :: st) (ev_emb m) Q := ev_putI (ci := 10) (hc ▸ fl_X10_252) rfl rfl rfl rfl rfl d kk
theorem pt_X10_255 {G : ev_G} {k : ev_K} {b : ev_B} {u : Nat × Nat} {pc : Nat} {L : List (Option ev_V)} {st : List ev_V} {m : ev_m} {Q : Option ev_V → ev_M → Prop} {i : Nat} {x : Int64} (hc : k.2.1.cls = "HelmHandModel") (d : decode k.1 pc = .ok (.putfield 255, 3)) (kk : ev_E G k b u (pc + 3) L st (ev_emb (ev_plm m 10 i 37 x)) Q) : ev_E G k b u pc L (vl x :: vr 10 i :: st) (ev_emb m) Q := ev_putL (ci := 10) (hc ▸ fl_X10_255) rfl rfl rfl rfl rfl d kk
theorem pt_X10_258 {G : ev_G} {k : ev_K} {b : ev_B} {u : Nat × Nat} {pc : Nat} {L : List (Option ev_V)} {st : List ev_V} {m : ev_m} {Q : Option ev_V → ev_M → Prop} {i : Nat} {x : Int32} (hc : k.2.1.cls = "HelmHandModel") (d : decode k.1 pc = .ok (.putfield 258, 3)) (kk : ev_E G k b u (pc + 3) L st (ev_emb (ev_pim m 10 i 38 x)) Q) : ev_E G k b u pc L (vi x :: vr 10 i :: st) (ev_emb m) Q := ev_putI (ci := 10) (hc ▸ fl_X10_258) rfl rfl rfl rfl rfl d kk
theorem pt_X10_264 {G : ev_G} {k : ev_K} {b : ev_B} {u : Nat × Nat} {pc : Nat} {L : List (Option ev_V)} {st : List ev_V} {m : ev_m} {Q : Option ev_V → ev_M → Prop} {i : Nat} {x : Int32} (hc : k.2.1.cls = "HelmHandModel") (d : decode k.1 pc = .ok (.putfield 264, 3)) (kk : ev_E G k b u (pc + 3) L st (ev_emb (ev_pim m 10 i 39 x)) Q) : ev_E G k b u pc L (vi x :: vr 10 i :: st) (ev_emb m) Q := ev_putI (ci := 10) (hc ▸ fl_X10_264) rfl rfl rfl rfl rfl d kk
theorem pt_X10_267 {G : ev_G} {k : ev_K} {b : ev_B} {u : Nat × Nat} {pc : Nat} {L : List (Option ev_V)} {st : List ev_V} {m : ev_m} {Q : Option ev_V → ev_M → Prop} {i : Nat} {x : Int32} (hc : k.2.1.cls = "HelmHandModel") (d : decode k.1 pc = .ok (.putfield 267, 3)) (kk : ev_E G k b u (pc + 3) L st (ev_emb (ev_pim m 10 i 40 x)) Q) : ev_E G k b u pc L (vi x :: vr 10 i :: st) (ev_emb m) Q := ev_putI (ci := 10) (hc ▸ fl_X10_267) rfl rfl rfl rfl rfl d kk
theorem pt_X10_270 {G : ev_G} {k : ev_K} {b : ev_B} {u : Nat × Nat} {pc : Nat} {L : List (Option ev_V)} {st : List ev_V} {m : ev_m} {Q : Option ev_V → ev_M → Prop} {i : Nat} {x : Int32} (hc : k.2.1.cls = "HelmHandModel") (d : decode k.1 pc = .ok (.putfield 270, 3)) (kk : ev_E G k b u (pc + 3) L st (ev_emb (ev_pim m 10 i 41 x)) Q) : ev_E G k b u pc L (vi x :: vr 10 i :: st) (ev_emb m) Q := ev_putI (ci := 10) (hc ▸ fl_X10_270) rfl rfl rfl rfl rfl d kk
theorem pt_X10_273 {G : ev_G} {k : ev_K} {b : ev_B} {u : Nat × Nat} {pc : Nat} {L : List (Option ev_V)} {st : List ev_V} {m : ev_m} {Q : Option ev_V → ev_M → Prop} {i : Nat} {x : Int32} (hc : k.2.1.cls = "HelmHandModel") (d : decode k.1 pc = .ok (.putfield 273, 3)) (kk : ev_E G k b u (pc + 3) L st (ev_emb (ev_pim m 10 i 42 x)) Q) : ev_E G k b u pc L (vi x :: vr 10 i :: st) (ev_emb m) Q := ev_putI (ci := 10) (hc ▸ fl_X10_273) rfl rfl rfl rfl rfl d kk
theorem wf_X10_81 : Cond.fieldLink "HelmHandModel" 81 "HelmHandModel" "code" "I" ∈ ev_GW := tm_5 (List.mem_of_getElem? (i := 185) rfl) rfl
theorem fl_X10_81 : ev_FL "HelmHandModel" 81 10 0 := ⟨by decide, wf_X10_81⟩
theorem pt_X10_81 {G : ev_G} {k : ev_K} {b : ev_B} {u : Nat × Nat} {pc : Nat} {L : List (Option ev_V)} {st : List ev_V} {m : ev_m} {Q : Option ev_V → ev_M → Prop} {i : Nat} {x : Int32} (hc : k.2.1.cls = "HelmHandModel") (d : decode k.1 pc = .ok (.putfield 81, 3)) (kk : ev_E G k b u (pc + 3) L st (ev_emb (ev_pim m 10 i 0 x)) Q) : ev_E G k b u pc L (vi x :: vr 10 i :: st) (ev_emb m) Q := ev_putI (ci := 10) (hc ▸ fl_X10_81) rfl rfl rfl rfl rfl d kk
theorem pt_X10_97 {G : ev_G} {k : ev_K} {b : ev_B} {u : Nat × Nat} {pc : Nat} {L : List (Option ev_V)} {st : List ev_V} {m : ev_m} {Q : Option ev_V → ev_M → Prop} {i : Nat} {x : Int32} (hc : k.2.1.cls = "HelmHandModel") (d : decode k.1 pc = .ok (.putfield 97, 3)) (kk : ev_E G k b u (pc + 3) L st (ev_emb (ev_pim m 10 i 10 x)) Q) : ev_E G k b u pc L (vi x :: vr 10 i :: st) (ev_emb m) Q := ev_putI (ci := 10) (hc ▸ fl_X10_97) rfl rfl rfl rfl rfl d kk
theorem pt_X2_13 {G : ev_G} {k : ev_K} {b : ev_B} {u : Nat × Nat} {pc : Nat} {L : List (Option ev_V)} {st : List ev_V} {m : ev_m} {Q : Option ev_V → ev_M → Prop} {i : Nat} {x : Int32} (hc : k.2.1.cls = "HelmHand$Mate") (d : decode k.1 pc = .ok (.putfield 13, 3)) (kk : ev_E G k b u (pc + 3) L st (ev_emb (ev_pim m 9 i 1 x)) Q) : ev_E G k b u pc L (vi x :: vr 9 i :: st) (ev_emb m) Q := ev_putI (ci := 2) (hc ▸ fl_X2_13) rfl rfl rfl rfl rfl d kk
theorem pt_X2_17 {G : ev_G} {k : ev_K} {b : ev_B} {u : Nat × Nat} {pc : Nat} {L : List (Option ev_V)} {st : List ev_V} {m : ev_m} {Q : Option ev_V → ev_M → Prop} {i : Nat} {x : Int32} (hc : k.2.1.cls = "HelmHand$Mate") (d : decode k.1 pc = .ok (.putfield 17, 3)) (kk : ev_E G k b u (pc + 3) L st (ev_emb (ev_pim m 9 i 2 x)) Q) : ev_E G k b u pc L (vi x :: vr 9 i :: st) (ev_emb m) Q := ev_putI (ci := 2) (hc ▸ fl_X2_17) rfl rfl rfl rfl rfl d kk
theorem pt_X2_20 {G : ev_G} {k : ev_K} {b : ev_B} {u : Nat × Nat} {pc : Nat} {L : List (Option ev_V)} {st : List ev_V} {m : ev_m} {Q : Option ev_V → ev_M → Prop} {i : Nat} {x : Int32} (hc : k.2.1.cls = "HelmHand$Mate") (d : decode k.1 pc = .ok (.putfield 20, 3)) (kk : ev_E G k b u (pc + 3) L st (ev_emb (ev_pim m 9 i 3 x)) Q) : ev_E G k b u pc L (vi x :: vr 9 i :: st) (ev_emb m) Q := ev_putI (ci := 2) (hc ▸ fl_X2_20) rfl rfl rfl rfl rfl d kk
theorem pt_X2_7 {G : ev_G} {k : ev_K} {b : ev_B} {u : Nat × Nat} {pc : Nat} {L : List (Option ev_V)} {st : List ev_V} {m : ev_m} {Q : Option ev_V → ev_M → Prop} {i : Nat} {x : Option Nat} (hc : k.2.1.cls = "HelmHand$Mate") (d : decode k.1 pc = .ok (.putfield 7, 3)) (kk : ev_E G k b u (pc + 3) L st (ev_emb (ev_pom m 9 i 0 x)) Q) : ev_E G k b u pc L (vo 4 x :: vr 9 i :: st) (ev_emb m) Q := ev_putO (ci := 2) (hc ▸ fl_X2_7) rfl rfl rfl (Or.inl ⟨_, rfl⟩) (ev_emb_po9 m i x) d kk
theorem pt_X3_15 {G : ev_G} {k : ev_K} {b : ev_B} {u : Nat × Nat} {pc : Nat} {L : List (Option ev_V)} {st : List ev_V} {m : ev_m} {Q : Option ev_V → ev_M → Prop} {i : Nat} {x : Int32} (hc : k.2.1.cls = "HelmHand$Paper") (d : decode k.1 pc = .ok (.putfield 15, 3)) (kk : ev_E G k b u (pc + 3) L st (ev_emb (ev_pim m 5 i 1 x)) Q) : ev_E G k b u pc L (vi x :: vr 5 i :: st) (ev_emb m) Q := ev_putI (ci := 3) (hc ▸ fl_X3_15) rfl rfl rfl rfl rfl d kk
theorem pt_X4_142 {G : ev_G} {k : ev_K} {b : ev_B} {u : Nat × Nat} {pc : Nat} {L : List (Option ev_V)} {st : List ev_V} {m : ev_m} {Q : Option ev_V → ev_M → Prop} {i : Nat} {x : Int32} (hc : k.2.1.cls = "HelmHand$Reader") (d : decode k.1 pc = .ok (.putfield 142, 3)) (kk : ev_E G k b u (pc + 3) L st (ev_emb (ev_pim m 7 i 10 x)) Q) : ev_E G k b u pc L (vi x :: vr 7 i :: st) (ev_emb m) Q := ev_putI (ci := 4) (hc ▸ fl_X4_142) rfl rfl rfl rfl rfl d kk
theorem wf_X4_148 : Cond.fieldLink "HelmHand$Reader" 148 "HelmHand$Ship" "seaCount" "I" ∈ ev_GW := tm_1 (List.mem_of_getElem? (i := 84) rfl) rfl
theorem fl_X4_148 : ev_FL "HelmHand$Reader" 148 5 10 := ⟨by decide, wf_X4_148⟩
theorem pt_X4_148 {G : ev_G} {k : ev_K} {b : ev_B} {u : Nat × Nat} {pc : Nat} {L : List (Option ev_V)} {st : List ev_V} {m : ev_m} {Q : Option ev_V → ev_M → Prop} {i : Nat} {x : Int32} (hc : k.2.1.cls = "HelmHand$Reader") (d : decode k.1 pc = .ok (.putfield 148, 3)) (kk : ev_E G k b u (pc + 3) L st (ev_emb (ev_pim m 3 i 10 x)) Q) : ev_E G k b u pc L (vi x :: vr 3 i :: st) (ev_emb m) Q := ev_putI (ci := 5) (hc ▸ fl_X4_148) rfl rfl rfl rfl rfl d kk
theorem pt_X4_157 {G : ev_G} {k : ev_K} {b : ev_B} {u : Nat × Nat} {pc : Nat} {L : List (Option ev_V)} {st : List ev_V} {m : ev_m} {Q : Option ev_V → ev_M → Prop} {i : Nat} {x : Int32} (hc : k.2.1.cls = "HelmHand$Reader") (d : decode k.1 pc = .ok (.putfield 157, 3)) (kk : ev_E G k b u (pc + 3) L st (ev_emb (ev_pim m 7 i 11 x)) Q) : ev_E G k b u pc L (vi x :: vr 7 i :: st) (ev_emb m) Q := ev_putI (ci := 4) (hc ▸ fl_X4_157) rfl rfl rfl rfl rfl d kk
theorem pt_X4_50 {G : ev_G} {k : ev_K} {b : ev_B} {u : Nat × Nat} {pc : Nat} {L : List (Option ev_V)} {st : List ev_V} {m : ev_m} {Q : Option ev_V → ev_M → Prop} {i : Nat} {x : Int32} (hc : k.2.1.cls = "HelmHand$Reader") (d : decode k.1 pc = .ok (.putfield 50, 3)) (kk : ev_E G k b u (pc + 3) L st (ev_emb (ev_pim m 7 i 4 x)) Q) : ev_E G k b u pc L (vi x :: vr 7 i :: st) (ev_emb m) Q := ev_putI (ci := 4) (hc ▸ fl_X4_50) rfl rfl rfl rfl rfl d kk
theorem pt_X4_54 {G : ev_G} {k : ev_K} {b : ev_B} {u : Nat × Nat} {pc : Nat} {L : List (Option ev_V)} {st : List ev_V} {m : ev_m} {Q : Option ev_V → ev_M → Prop} {i : Nat} {x : Int32} (hc : k.2.1.cls = "HelmHand$Reader") (d : decode k.1 pc = .ok (.putfield 54, 3)) (kk : ev_E G k b u (pc + 3) L st (ev_emb (ev_pim m 7 i 5 x)) Q) : ev_E G k b u pc L (vi x :: vr 7 i :: st) (ev_emb m) Q := ev_putI (ci := 4) (hc ▸ fl_X4_54) rfl rfl rfl rfl rfl d kk
theorem pt_X4_63 {G : ev_G} {k : ev_K} {b : ev_B} {u : Nat × Nat} {pc : Nat} {L : List (Option ev_V)} {st : List ev_V} {m : ev_m} {Q : Option ev_V → ev_M → Prop} {i : Nat} {x : Int32} (hc : k.2.1.cls = "HelmHand$Reader") (d : decode k.1 pc = .ok (.putfield 63, 3)) (kk : ev_E G k b u (pc + 3) L st (ev_emb (ev_pim m 7 i 9 x)) Q) : ev_E G k b u pc L (vi x :: vr 7 i :: st) (ev_emb m) Q := ev_putI (ci := 4) (hc ▸ fl_X4_63) rfl rfl rfl rfl rfl d kk
theorem pt_X4_69 {G : ev_G} {k : ev_K} {b : ev_B} {u : Nat × Nat} {pc : Nat} {L : List (Option ev_V)} {st : List ev_V} {m : ev_m} {Q : Option ev_V → ev_M → Prop} {i : Nat} {x : Int32} (hc : k.2.1.cls = "HelmHand$Reader") (d : decode k.1 pc = .ok (.putfield 69, 3)) (kk : ev_E G k b u (pc + 3) L st (ev_emb (ev_pim m 7 i 7 x)) Q) : ev_E G k b u pc L (vi x :: vr 7 i :: st) (ev_emb m) Q := ev_putI (ci := 4) (hc ▸ fl_X4_69) rfl rfl rfl rfl rfl d kk
theorem pt_X4_80 {G : ev_G} {k : ev_K} {b : ev_B} {u : Nat × Nat} {pc : Nat} {L : List (Option ev_V)} {st : List ev_V} {m : ev_m} {Q : Option ev_V → ev_M → Prop} {i : Nat} {x : Int32} (hc : k.2.1.cls = "HelmHand$Reader") (d : decode k.1 pc = .ok (.putfield 80, 3)) (kk : ev_E G k b u (pc + 3) L st (ev_emb (ev_pim m 7 i 8 x)) Q) : ev_E G k b u pc L (vi x :: vr 7 i :: st) (ev_emb m) Q := ev_putI (ci := 4) (hc ▸ fl_X4_80) rfl rfl rfl rfl rfl d kk
theorem pt_X5_15 {G : ev_G} {k : ev_K} {b : ev_B} {u : Nat × Nat} {pc : Nat} {L : List (Option ev_V)} {st : List ev_V} {m : ev_m} {Q : Option ev_V → ev_M → Prop} {i : Nat} {x : Int32} (hc : k.2.1.cls = "HelmHand$Ship") (d : decode k.1 pc = .ok (.putfield 15, 3)) (kk : ev_E G k b u (pc + 3) L st (ev_emb (ev_pim m 3 i 0 x)) Q) : ev_E G k b u pc L (vi x :: vr 3 i :: st) (ev_emb m) Q := ev_putI (ci := 5) (hc ▸ fl_X5_15) rfl rfl rfl rfl rfl d kk
theorem pt_X5_19 {G : ev_G} {k : ev_K} {b : ev_B} {u : Nat × Nat} {pc : Nat} {L : List (Option ev_V)} {st : List ev_V} {m : ev_m} {Q : Option ev_V → ev_M → Prop} {i : Nat} {x : Int32} (hc : k.2.1.cls = "HelmHand$Ship") (d : decode k.1 pc = .ok (.putfield 19, 3)) (kk : ev_E G k b u (pc + 3) L st (ev_emb (ev_pim m 3 i 1 x)) Q) : ev_E G k b u pc L (vi x :: vr 3 i :: st) (ev_emb m) Q := ev_putI (ci := 5) (hc ▸ fl_X5_19) rfl rfl rfl rfl rfl d kk
theorem pt_X5_22 {G : ev_G} {k : ev_K} {b : ev_B} {u : Nat × Nat} {pc : Nat} {L : List (Option ev_V)} {st : List ev_V} {m : ev_m} {Q : Option ev_V → ev_M → Prop} {i : Nat} {x : Int32} (hc : k.2.1.cls = "HelmHand$Ship") (d : decode k.1 pc = .ok (.putfield 22, 3)) (kk : ev_E G k b u (pc + 3) L st (ev_emb (ev_pim m 3 i 2 x)) Q) : ev_E G k b u pc L (vi x :: vr 3 i :: st) (ev_emb m) Q := ev_putI (ci := 5) (hc ▸ fl_X5_22) rfl rfl rfl rfl rfl d kk
theorem pt_X5_25 {G : ev_G} {k : ev_K} {b : ev_B} {u : Nat × Nat} {pc : Nat} {L : List (Option ev_V)} {st : List ev_V} {m : ev_m} {Q : Option ev_V → ev_M → Prop} {i : Nat} {x : Int32} (hc : k.2.1.cls = "HelmHand$Ship") (d : decode k.1 pc = .ok (.putfield 25, 3)) (kk : ev_E G k b u (pc + 3) L st (ev_emb (ev_pim m 3 i 3 x)) Q) : ev_E G k b u pc L (vi x :: vr 3 i :: st) (ev_emb m) Q := ev_putI (ci := 5) (hc ▸ fl_X5_25) rfl rfl rfl rfl rfl d kk
theorem pt_X5_28 {G : ev_G} {k : ev_K} {b : ev_B} {u : Nat × Nat} {pc : Nat} {L : List (Option ev_V)} {st : List ev_V} {m : ev_m} {Q : Option ev_V → ev_M → Prop} {i : Nat} {x : Int32} (hc : k.2.1.cls = "HelmHand$Ship") (d : decode k.1 pc = .ok (.putfield 28, 3)) (kk : ev_E G k b u (pc + 3) L st (ev_emb (ev_pim m 3 i 4 x)) Q) : ev_E G k b u pc L (vi x :: vr 3 i :: st) (ev_emb m) Q := ev_putI (ci := 5) (hc ▸ fl_X5_28) rfl rfl rfl rfl rfl d kk
theorem pt_X5_31 {G : ev_G} {k : ev_K} {b : ev_B} {u : Nat × Nat} {pc : Nat} {L : List (Option ev_V)} {st : List ev_V} {m : ev_m} {Q : Option ev_V → ev_M → Prop} {i : Nat} {x : Int32} (hc : k.2.1.cls = "HelmHand$Ship") (d : decode k.1 pc = .ok (.putfield 31, 3)) (kk : ev_E G k b u (pc + 3) L st (ev_emb (ev_pim m 3 i 5 x)) Q) : ev_E G k b u pc L (vi x :: vr 3 i :: st) (ev_emb m) Q := ev_putI (ci := 5) (hc ▸ fl_X5_31) rfl rfl rfl rfl rfl d kk
theorem pt_X5_34 {G : ev_G} {k : ev_K} {b : ev_B} {u : Nat × Nat} {pc : Nat} {L : List (Option ev_V)} {st : List ev_V} {m : ev_m} {Q : Option ev_V → ev_M → Prop} {i : Nat} {x : Int32} (hc : k.2.1.cls = "HelmHand$Ship") (d : decode k.1 pc = .ok (.putfield 34, 3)) (kk : ev_E G k b u (pc + 3) L st (ev_emb (ev_pim m 3 i 6 x)) Q) : ev_E G k b u pc L (vi x :: vr 3 i :: st) (ev_emb m) Q := ev_putI (ci := 5) (hc ▸ fl_X5_34) rfl rfl rfl rfl rfl d kk
theorem pt_X5_37 {G : ev_G} {k : ev_K} {b : ev_B} {u : Nat × Nat} {pc : Nat} {L : List (Option ev_V)} {st : List ev_V} {m : ev_m} {Q : Option ev_V → ev_M → Prop} {i : Nat} {x : Int32} (hc : k.2.1.cls = "HelmHand$Ship") (d : decode k.1 pc = .ok (.putfield 37, 3)) (kk : ev_E G k b u (pc + 3) L st (ev_emb (ev_pim m 3 i 7 x)) Q) : ev_E G k b u pc L (vi x :: vr 3 i :: st) (ev_emb m) Q := ev_putI (ci := 5) (hc ▸ fl_X5_37) rfl rfl rfl rfl rfl d kk
theorem pt_X5_40 {G : ev_G} {k : ev_K} {b : ev_B} {u : Nat × Nat} {pc : Nat} {L : List (Option ev_V)} {st : List ev_V} {m : ev_m} {Q : Option ev_V → ev_M → Prop} {i : Nat} {x : Int32} (hc : k.2.1.cls = "HelmHand$Ship") (d : decode k.1 pc = .ok (.putfield 40, 3)) (kk : ev_E G k b u (pc + 3) L st (ev_emb (ev_pim m 3 i 8 x)) Q) : ev_E G k b u pc L (vi x :: vr 3 i :: st) (ev_emb m) Q := ev_putI (ci := 5) (hc ▸ fl_X5_40) rfl rfl rfl rfl rfl d kk
theorem pt_X5_43 {G : ev_G} {k : ev_K} {b : ev_B} {u : Nat × Nat} {pc : Nat} {L : List (Option ev_V)} {st : List ev_V} {m : ev_m} {Q : Option ev_V → ev_M → Prop} {i : Nat} {x : Int32} (hc : k.2.1.cls = "HelmHand$Ship") (d : decode k.1 pc = .ok (.putfield 43, 3)) (kk : ev_E G k b u (pc + 3) L st (ev_emb (ev_pim m 3 i 9 x)) Q) : ev_E G k b u pc L (vi x :: vr 3 i :: st) (ev_emb m) Q := ev_putI (ci := 5) (hc ▸ fl_X5_43) rfl rfl rfl rfl rfl d kk
theorem pt_X5_46 {G : ev_G} {k : ev_K} {b : ev_B} {u : Nat × Nat} {pc : Nat} {L : List (Option ev_V)} {st : List ev_V} {m : ev_m} {Q : Option ev_V → ev_M → Prop} {i : Nat} {x : Int32} (hc : k.2.1.cls = "HelmHand$Ship") (d : decode k.1 pc = .ok (.putfield 46, 3)) (kk : ev_E G k b u (pc + 3) L st (ev_emb (ev_pim m 3 i 10 x)) Q) : ev_E G k b u pc L (vi x :: vr 3 i :: st) (ev_emb m) Q := ev_putI (ci := 5) (hc ▸ fl_X5_46) rfl rfl rfl rfl rfl d kk
theorem pt_X6_19 {G : ev_G} {k : ev_K} {b : ev_B} {u : Nat × Nat} {pc : Nat} {L : List (Option ev_V)} {st : List ev_V} {m : ev_m} {Q : Option ev_V → ev_M → Prop} {i : Nat} {x : Int32} (hc : k.2.1.cls = "HelmHand$Tape") (d : decode k.1 pc = .ok (.putfield 19, 3)) (kk : ev_E G k b u (pc + 3) L st (ev_emb (ev_pim m 2 i 1 x)) Q) : ev_E G k b u pc L (vi x :: vr 2 i :: st) (ev_emb m) Q := ev_putI (ci := 6) (hc ▸ fl_X6_19) rfl rfl rfl rfl rfl d kk
theorem pt_X7_18 {G : ev_G} {k : ev_K} {b : ev_B} {u : Nat × Nat} {pc : Nat} {L : List (Option ev_V)} {st : List ev_V} {m : ev_m} {Q : Option ev_V → ev_M → Prop} {i : Nat} {x : Int32} (hc : k.2.1.cls = "HelmHand$Watch") (d : decode k.1 pc = .ok (.putfield 18, 3)) (kk : ev_E G k b u (pc + 3) L st (ev_emb (ev_pim m 6 i 2 x)) Q) : ev_E G k b u pc L (vi x :: vr 6 i :: st) (ev_emb m) Q := ev_putI (ci := 7) (hc ▸ fl_X7_18) rfl rfl rfl rfl rfl d kk
theorem pt_X8_42 {G : ev_G} {k : ev_K} {b : ev_B} {u : Nat × Nat} {pc : Nat} {L : List (Option ev_V)} {st : List ev_V} {m : ev_m} {Q : Option ev_V → ev_M → Prop} {i : Nat} {x : Option Nat} (hc : k.2.1.cls = "HelmHand$Wheel") (d : decode k.1 pc = .ok (.putfield 42, 3)) (kk : ev_E G k b u (pc + 3) L st (ev_emb (ev_pom m 8 i 0 x)) Q) : ev_E G k b u pc L (vo 3 x :: vr 8 i :: st) (ev_emb m) Q := ev_putO (ci := 8) (hc ▸ fl_X8_42) rfl rfl rfl (Or.inl ⟨_, rfl⟩) (ev_emb_po8 m i x) d kk
theorem pt_X8_46 {G : ev_G} {k : ev_K} {b : ev_B} {u : Nat × Nat} {pc : Nat} {L : List (Option ev_V)} {st : List ev_V} {m : ev_m} {Q : Option ev_V → ev_M → Prop} {i : Nat} {x : Int32} (hc : k.2.1.cls = "HelmHand$Wheel") (d : decode k.1 pc = .ok (.putfield 46, 3)) (kk : ev_E G k b u (pc + 3) L st (ev_emb (ev_pim m 8 i 6 x)) Q) : ev_E G k b u pc L (vi x :: vr 8 i :: st) (ev_emb m) Q := ev_putI (ci := 8) (hc ▸ fl_X8_46) rfl rfl rfl rfl rfl d kk
theorem pt_X8_50 {G : ev_G} {k : ev_K} {b : ev_B} {u : Nat × Nat} {pc : Nat} {L : List (Option ev_V)} {st : List ev_V} {m : ev_m} {Q : Option ev_V → ev_M → Prop} {i : Nat} {x : Int32} (hc : k.2.1.cls = "HelmHand$Wheel") (d : decode k.1 pc = .ok (.putfield 50, 3)) (kk : ev_E G k b u (pc + 3) L st (ev_emb (ev_pim m 8 i 1 x)) Q) : ev_E G k b u pc L (vi x :: vr 8 i :: st) (ev_emb m) Q := ev_putI (ci := 8) (hc ▸ fl_X8_50) rfl rfl rfl rfl rfl d kk
theorem pt_X9_204 {G : ev_G} {k : ev_K} {b : ev_B} {u : Nat × Nat} {pc : Nat} {L : List (Option ev_V)} {st : List ev_V} {m : ev_m} {Q : Option ev_V → ev_M → Prop} {i : Nat} {x : Int32} (hc : k.2.1.cls = "HelmHand") (d : decode k.1 pc = .ok (.putfield 204, 3)) (kk : ev_E G k b u (pc + 3) L st (ev_emb (ev_pim m 3 i 6 x)) Q) : ev_E G k b u pc L (vi x :: vr 3 i :: st) (ev_emb m) Q := ev_putI (ci := 5) (hc ▸ fl_X9_204) rfl rfl rfl rfl rfl d kk
theorem wf_X9_219 : Cond.fieldLink "HelmHand" 219 "HelmHand$Hand" "stars" "I" ∈ ev_GW := tm_1 (List.mem_of_getElem? (i := 130) rfl) rfl
theorem fl_X9_219 : ev_FL "HelmHand" 219 1 9 := ⟨by decide, wf_X9_219⟩
theorem pt_X9_219 {G : ev_G} {k : ev_K} {b : ev_B} {u : Nat × Nat} {pc : Nat} {L : List (Option ev_V)} {st : List ev_V} {m : ev_m} {Q : Option ev_V → ev_M → Prop} {i : Nat} {x : Int32} (hc : k.2.1.cls = "HelmHand") (d : decode k.1 pc = .ok (.putfield 219, 3)) (kk : ev_E G k b u (pc + 3) L st (ev_emb (ev_pim m 4 i 9 x)) Q) : ev_E G k b u pc L (vi x :: vr 4 i :: st) (ev_emb m) Q := ev_putI (ci := 1) (hc ▸ fl_X9_219) rfl rfl rfl rfl rfl d kk
theorem pt_X9_56 {G : ev_G} {k : ev_K} {b : ev_B} {u : Nat × Nat} {pc : Nat} {L : List (Option ev_V)} {st : List ev_V} {m : ev_m} {Q : Option ev_V → ev_M → Prop} {i : Nat} {x : Int32} (hc : k.2.1.cls = "HelmHand") (d : decode k.1 pc = .ok (.putfield 56, 3)) (kk : ev_E G k b u (pc + 3) L st (ev_emb (ev_pim m 2 i 1 x)) Q) : ev_E G k b u pc L (vi x :: vr 2 i :: st) (ev_emb m) Q := ev_putI (ci := 6) (hc ▸ fl_X9_56) rfl rfl rfl rfl rfl d kk
theorem pt_X9_70 {G : ev_G} {k : ev_K} {b : ev_B} {u : Nat × Nat} {pc : Nat} {L : List (Option ev_V)} {st : List ev_V} {m : ev_m} {Q : Option ev_V → ev_M → Prop} {i : Nat} {x : Int32} (hc : k.2.1.cls = "HelmHand") (d : decode k.1 pc = .ok (.putfield 70, 3)) (kk : ev_E G k b u (pc + 3) L st (ev_emb (ev_pim m 1 i 1 x)) Q) : ev_E G k b u pc L (vi x :: vr 1 i :: st) (ev_emb m) Q := ev_putI (ci := 0) (hc ▸ fl_X9_70) rfl rfl rfl rfl rfl d kk
theorem pt_X9_73 {G : ev_G} {k : ev_K} {b : ev_B} {u : Nat × Nat} {pc : Nat} {L : List (Option ev_V)} {st : List ev_V} {m : ev_m} {Q : Option ev_V → ev_M → Prop} {i : Nat} {x : Int32} (hc : k.2.1.cls = "HelmHand") (d : decode k.1 pc = .ok (.putfield 73, 3)) (kk : ev_E G k b u (pc + 3) L st (ev_emb (ev_pim m 1 i 2 x)) Q) : ev_E G k b u pc L (vi x :: vr 1 i :: st) (ev_emb m) Q := ev_putI (ci := 0) (hc ▸ fl_X9_73) rfl rfl rfl rfl rfl d kk
theorem wf_J0_1053 : Cond.fieldLink "java/lang/String" 1053 "jdk/internal/util/Preconditions" "SIOOBE_FORMATTER" "Ljava/util/function/BiFunction;" ∈ ev_GW := tm_3 (List.mem_of_getElem? (i := 7) rfl) rfl
theorem wf_J0_38 : Cond.fieldLink "java/lang/String" 38 "java/lang/String" "COMPACT_STRINGS" "Z" ∈ ev_GW := tm_2 (List.mem_of_getElem? (i := 231) rfl) rfl
theorem wf_J0_15 : Cond.fieldLink "java/lang/String" 15 "java/lang/String" "coder" "B" ∈ ev_GW := tm_7 (List.mem_of_getElem? (i := 231) rfl) rfl
theorem wf_J0_9 : Cond.fieldLink "java/lang/String" 9 "java/lang/String" "value" "[B" ∈ ev_GW := tm_7 (List.mem_of_getElem? (i := 230) rfl) rfl
theorem wl_J0_492 : Cond.methodLink "java/lang/String" 492 yJ0_isLatin1_aae02 ∈ ev_GW := tm_2 (List.mem_of_getElem? (i := 237) rfl) rfl
theorem wl_J0_335 : Cond.methodLink "java/lang/String" 335 yJ0_coder_7d493 ∈ ev_GW := tm_2 (List.mem_of_getElem? (i := 227) rfl) rfl
theorem wl_X4_220 : Cond.methodLink "HelmHand$Reader" 220 yJ0_length_8abf5 ∈ ev_GW := tm_2 (List.mem_of_getElem? (i := 223) rfl) rfl
theorem wl_X4_225 : Cond.methodLink "HelmHand$Reader" 225 yJ0_charAt_5068e ∈ ev_GW := tm_2 (List.mem_of_getElem? (i := 233) rfl) rfl
theorem acopy_X9_336 : Cond.methodLink "HelmHand" 336 arraycopyName ∈ ev_GW := tm_3 (List.mem_of_getElem? (i := 169) rfl) rfl
theorem acopy_X6_29 : Cond.methodLink "HelmHand$Tape" 29 arraycopyName ∈ ev_GW := tm_2 (List.mem_of_getElem? (i := 177) rfl) rfl
theorem acopy_w : Cond.native arraycopyName ∈ ev_GW ∧ Cond.static arraycopyName ∈ ev_GW ∧ Cond.initialized "java/lang/System" ∈ ev_GW := ⟨tm_2 (List.mem_of_getElem? (i := 179) rfl) rfl, tm_2 (List.mem_of_getElem? (i := 178) rfl) rfl, tm_1 (List.mem_of_getElem? (i := 13) rfl) rfl⟩
