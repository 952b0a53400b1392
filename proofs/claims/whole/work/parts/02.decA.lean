theorem dX0_init_0 : decode cX0_init 0 = .ok (.aload_n 0, 1) := by decide +kernel
theorem dX0_init_1 : decode cX0_init 1 = .ok (.invokespecial 3, 3) := by decide +kernel
theorem dX0_init_4 : decode cX0_init 4 = .ok (.aload_n 0, 1) := by decide +kernel
theorem dX0_init_5 : decode cX0_init 5 = .ok (.new 9, 3) := by decide +kernel
theorem dX0_init_8 : decode cX0_init 8 = .ok (.dup, 1) := by decide +kernel
theorem dX0_init_9 : decode cX0_init 9 = .ok (.invokespecial 11, 3) := by decide +kernel
theorem dX0_init_12 : decode cX0_init 12 = .ok (.putfield 12, 3) := by decide +kernel
theorem dX0_init_15 : decode cX0_init 15 = .ok (.aload_n 0, 1) := by decide +kernel
theorem dX0_init_16 : decode cX0_init 16 = .ok (.iconst (-1), 1) := by decide +kernel
theorem dX0_init_17 : decode cX0_init 17 = .ok (.putfield 18, 3) := by decide +kernel
theorem dX0_init_20 : decode cX0_init 20 = .ok (.aload_n 0, 1) := by decide +kernel
theorem dX0_init_21 : decode cX0_init 21 = .ok (.iconst 2, 1) := by decide +kernel
theorem dX0_init_22 : decode cX0_init 22 = .ok (.anewarray 22, 3) := by decide +kernel
theorem dX0_init_25 : decode cX0_init 25 = .ok (.putfield 24, 3) := by decide +kernel
theorem dX0_init_28 : decode cX0_init 28 = .ok (.aload_n 0, 1) := by decide +kernel
theorem dX0_init_29 : decode cX0_init 29 = .ok (.iconst 4, 1) := by decide +kernel
theorem dX0_init_30 : decode cX0_init 30 = .ok (.anewarray 28, 3) := by decide +kernel
theorem dX0_init_33 : decode cX0_init 33 = .ok (.putfield 30, 3) := by decide +kernel
theorem dX0_init_36 : decode cX0_init 36 = .ok (.aload_n 0, 1) := by decide +kernel
theorem dX0_init_37 : decode cX0_init 37 = .ok (.iconst 2, 1) := by decide +kernel
theorem dX0_init_38 : decode cX0_init 38 = .ok (.anewarray 34, 3) := by decide +kernel
theorem dX0_init_41 : decode cX0_init 41 = .ok (.putfield 36, 3) := by decide +kernel
theorem dX0_init_44 : decode cX0_init 44 = .ok (.aload_n 0, 1) := by decide +kernel
theorem dX0_init_45 : decode cX0_init 45 = .ok (.iconst 2, 1) := by decide +kernel
theorem dX0_init_46 : decode cX0_init 46 = .ok (.anewarray 40, 3) := by decide +kernel
theorem dX0_init_49 : decode cX0_init 49 = .ok (.putfield 42, 3) := by decide +kernel
theorem dX0_init_52 : decode cX0_init 52 = .ok (.iconst 0, 1) := by decide +kernel
theorem dX0_init_53 : decode cX0_init 53 = .ok (.istore_n 1, 1) := by decide +kernel
theorem dX0_init_54 : decode cX0_init 54 = .ok (.iload_n 1, 1) := by decide +kernel
theorem dX0_init_55 : decode cX0_init 55 = .ok (.aload_n 0, 1) := by decide +kernel
theorem dX0_init_56 : decode cX0_init 56 = .ok (.getfield 24, 3) := by decide +kernel
theorem dX0_init_59 : decode cX0_init 59 = .ok (.arraylength, 1) := by decide +kernel
theorem dX0_init_60 : decode cX0_init 60 = .ok (.if_icmp .ge 22, 3) := by decide +kernel
theorem dX0_init_63 : decode cX0_init 63 = .ok (.aload_n 0, 1) := by decide +kernel
theorem dX0_init_64 : decode cX0_init 64 = .ok (.getfield 24, 3) := by decide +kernel
theorem dX0_init_67 : decode cX0_init 67 = .ok (.iload_n 1, 1) := by decide +kernel
theorem dX0_init_68 : decode cX0_init 68 = .ok (.new 22, 3) := by decide +kernel
theorem dX0_init_71 : decode cX0_init 71 = .ok (.dup, 1) := by decide +kernel
theorem dX0_init_72 : decode cX0_init 72 = .ok (.invokespecial 46, 3) := by decide +kernel
theorem dX0_init_75 : decode cX0_init 75 = .ok (.aastore, 1) := by decide +kernel
theorem dX0_init_76 : decode cX0_init 76 = .ok (.iinc 1 1, 3) := by decide +kernel
theorem dX0_init_79 : decode cX0_init 79 = .ok (.goto (-25), 3) := by decide +kernel
theorem dX0_init_82 : decode cX0_init 82 = .ok (.iconst 0, 1) := by decide +kernel
theorem dX0_init_83 : decode cX0_init 83 = .ok (.istore_n 1, 1) := by decide +kernel
theorem dX0_init_84 : decode cX0_init 84 = .ok (.iload_n 1, 1) := by decide +kernel
theorem dX0_init_85 : decode cX0_init 85 = .ok (.aload_n 0, 1) := by decide +kernel
theorem dX0_init_86 : decode cX0_init 86 = .ok (.getfield 30, 3) := by decide +kernel
theorem dX0_init_89 : decode cX0_init 89 = .ok (.arraylength, 1) := by decide +kernel
theorem dX0_init_90 : decode cX0_init 90 = .ok (.if_icmp .ge 22, 3) := by decide +kernel
theorem dX0_init_93 : decode cX0_init 93 = .ok (.aload_n 0, 1) := by decide +kernel
theorem dX0_init_94 : decode cX0_init 94 = .ok (.getfield 30, 3) := by decide +kernel
theorem dX0_init_97 : decode cX0_init 97 = .ok (.iload_n 1, 1) := by decide +kernel
theorem dX0_init_98 : decode cX0_init 98 = .ok (.new 28, 3) := by decide +kernel
theorem dX0_init_101 : decode cX0_init 101 = .ok (.dup, 1) := by decide +kernel
theorem dX0_init_102 : decode cX0_init 102 = .ok (.invokespecial 47, 3) := by decide +kernel
theorem dX0_init_105 : decode cX0_init 105 = .ok (.aastore, 1) := by decide +kernel
theorem dX0_init_106 : decode cX0_init 106 = .ok (.iinc 1 1, 3) := by decide +kernel
theorem dX0_init_109 : decode cX0_init 109 = .ok (.goto (-25), 3) := by decide +kernel
theorem dX0_init_112 : decode cX0_init 112 = .ok (.iconst 0, 1) := by decide +kernel
theorem dX0_init_113 : decode cX0_init 113 = .ok (.istore_n 1, 1) := by decide +kernel
theorem dX0_init_114 : decode cX0_init 114 = .ok (.iload_n 1, 1) := by decide +kernel
theorem dX0_init_115 : decode cX0_init 115 = .ok (.aload_n 0, 1) := by decide +kernel
theorem dX0_init_116 : decode cX0_init 116 = .ok (.getfield 36, 3) := by decide +kernel
theorem dX0_init_119 : decode cX0_init 119 = .ok (.arraylength, 1) := by decide +kernel
theorem dX0_init_120 : decode cX0_init 120 = .ok (.if_icmp .ge 22, 3) := by decide +kernel
theorem dX0_init_123 : decode cX0_init 123 = .ok (.aload_n 0, 1) := by decide +kernel
theorem dX0_init_124 : decode cX0_init 124 = .ok (.getfield 36, 3) := by decide +kernel
theorem dX0_init_127 : decode cX0_init 127 = .ok (.iload_n 1, 1) := by decide +kernel
theorem dX0_init_128 : decode cX0_init 128 = .ok (.new 34, 3) := by decide +kernel
theorem dX0_init_131 : decode cX0_init 131 = .ok (.dup, 1) := by decide +kernel
theorem dX0_init_132 : decode cX0_init 132 = .ok (.invokespecial 48, 3) := by decide +kernel
theorem dX0_init_135 : decode cX0_init 135 = .ok (.aastore, 1) := by decide +kernel
theorem dX0_init_136 : decode cX0_init 136 = .ok (.iinc 1 1, 3) := by decide +kernel
theorem dX0_init_139 : decode cX0_init 139 = .ok (.goto (-25), 3) := by decide +kernel
theorem dX0_init_142 : decode cX0_init 142 = .ok (.iconst 0, 1) := by decide +kernel
theorem dX0_init_143 : decode cX0_init 143 = .ok (.istore_n 1, 1) := by decide +kernel
theorem dX0_init_144 : decode cX0_init 144 = .ok (.iload_n 1, 1) := by decide +kernel
theorem dX0_init_145 : decode cX0_init 145 = .ok (.aload_n 0, 1) := by decide +kernel
theorem dX0_init_146 : decode cX0_init 146 = .ok (.getfield 42, 3) := by decide +kernel
theorem dX0_init_149 : decode cX0_init 149 = .ok (.arraylength, 1) := by decide +kernel
theorem dX0_init_150 : decode cX0_init 150 = .ok (.if_icmp .ge 22, 3) := by decide +kernel
theorem dX0_init_153 : decode cX0_init 153 = .ok (.aload_n 0, 1) := by decide +kernel
theorem dX0_init_154 : decode cX0_init 154 = .ok (.getfield 42, 3) := by decide +kernel
theorem dX0_init_157 : decode cX0_init 157 = .ok (.iload_n 1, 1) := by decide +kernel
theorem dX0_init_158 : decode cX0_init 158 = .ok (.new 40, 3) := by decide +kernel
theorem dX0_init_161 : decode cX0_init 161 = .ok (.dup, 1) := by decide +kernel
theorem dX0_init_162 : decode cX0_init 162 = .ok (.invokespecial 49, 3) := by decide +kernel
theorem dX0_init_165 : decode cX0_init 165 = .ok (.aastore, 1) := by decide +kernel
theorem dX0_init_166 : decode cX0_init 166 = .ok (.iinc 1 1, 3) := by decide +kernel
theorem dX0_init_169 : decode cX0_init 169 = .ok (.goto (-25), 3) := by decide +kernel
theorem dX0_init_172 : decode cX0_init 172 = .ok (.return_, 1) := by decide +kernel
theorem dX0_shipAt_0 : decode cX0_shipAt 0 = .ok (.iload_n 1, 1) := by decide +kernel
theorem dX0_shipAt_1 : decode cX0_shipAt 1 = .ok (.ifCond .lt 29, 3) := by decide +kernel
theorem dX0_shipAt_4 : decode cX0_shipAt 4 = .ok (.iload_n 1, 1) := by decide +kernel
theorem dX0_shipAt_5 : decode cX0_shipAt 5 = .ok (.aload_n 0, 1) := by decide +kernel
theorem dX0_shipAt_6 : decode cX0_shipAt 6 = .ok (.getfield 50, 3) := by decide +kernel
theorem dX0_shipAt_9 : decode cX0_shipAt 9 = .ok (.if_icmp .ge 21, 3) := by decide +kernel
theorem dX0_shipAt_12 : decode cX0_shipAt 12 = .ok (.iload_n 1, 1) := by decide +kernel
theorem dX0_shipAt_13 : decode cX0_shipAt 13 = .ok (.aload_n 0, 1) := by decide +kernel
theorem dX0_shipAt_14 : decode cX0_shipAt 14 = .ok (.getfield 24, 3) := by decide +kernel
theorem dX0_shipAt_17 : decode cX0_shipAt 17 = .ok (.arraylength, 1) := by decide +kernel
theorem dX0_shipAt_18 : decode cX0_shipAt 18 = .ok (.if_icmp .ge 12, 3) := by decide +kernel
theorem dX0_shipAt_21 : decode cX0_shipAt 21 = .ok (.aload_n 0, 1) := by decide +kernel
theorem dX0_shipAt_22 : decode cX0_shipAt 22 = .ok (.getfield 24, 3) := by decide +kernel
theorem dX0_shipAt_25 : decode cX0_shipAt 25 = .ok (.iload_n 1, 1) := by decide +kernel
theorem dX0_shipAt_26 : decode cX0_shipAt 26 = .ok (.aaload, 1) := by decide +kernel
theorem dX0_shipAt_27 : decode cX0_shipAt 27 = .ok (.goto 4, 3) := by decide +kernel
theorem dX0_shipAt_30 : decode cX0_shipAt 30 = .ok (.aconst_null, 1) := by decide +kernel
theorem dX0_shipAt_31 : decode cX0_shipAt 31 = .ok (.areturn, 1) := by decide +kernel
theorem dX0_handAt_0 : decode cX0_handAt 0 = .ok (.iload_n 1, 1) := by decide +kernel
theorem dX0_handAt_1 : decode cX0_handAt 1 = .ok (.ifCond .lt 29, 3) := by decide +kernel
theorem dX0_handAt_4 : decode cX0_handAt 4 = .ok (.iload_n 1, 1) := by decide +kernel
theorem dX0_handAt_5 : decode cX0_handAt 5 = .ok (.aload_n 0, 1) := by decide +kernel
theorem dX0_handAt_6 : decode cX0_handAt 6 = .ok (.getfield 53, 3) := by decide +kernel
theorem dX0_handAt_9 : decode cX0_handAt 9 = .ok (.if_icmp .ge 21, 3) := by decide +kernel
theorem dX0_handAt_12 : decode cX0_handAt 12 = .ok (.iload_n 1, 1) := by decide +kernel
theorem dX0_handAt_13 : decode cX0_handAt 13 = .ok (.aload_n 0, 1) := by decide +kernel
theorem dX0_handAt_14 : decode cX0_handAt 14 = .ok (.getfield 30, 3) := by decide +kernel
theorem dX0_handAt_17 : decode cX0_handAt 17 = .ok (.arraylength, 1) := by decide +kernel
theorem dX0_handAt_18 : decode cX0_handAt 18 = .ok (.if_icmp .ge 12, 3) := by decide +kernel
theorem dX0_handAt_21 : decode cX0_handAt 21 = .ok (.aload_n 0, 1) := by decide +kernel
theorem dX0_handAt_22 : decode cX0_handAt 22 = .ok (.getfield 30, 3) := by decide +kernel
theorem dX0_handAt_25 : decode cX0_handAt 25 = .ok (.iload_n 1, 1) := by decide +kernel
theorem dX0_handAt_26 : decode cX0_handAt 26 = .ok (.aaload, 1) := by decide +kernel
theorem dX0_handAt_27 : decode cX0_handAt 27 = .ok (.goto 4, 3) := by decide +kernel
theorem dX0_handAt_30 : decode cX0_handAt 30 = .ok (.aconst_null, 1) := by decide +kernel
theorem dX0_handAt_31 : decode cX0_handAt 31 = .ok (.areturn, 1) := by decide +kernel
theorem dX0_paperAt_0 : decode cX0_paperAt 0 = .ok (.iload_n 1, 1) := by decide +kernel
theorem dX0_paperAt_1 : decode cX0_paperAt 1 = .ok (.ifCond .lt 29, 3) := by decide +kernel
theorem dX0_paperAt_4 : decode cX0_paperAt 4 = .ok (.iload_n 1, 1) := by decide +kernel
theorem dX0_paperAt_5 : decode cX0_paperAt 5 = .ok (.aload_n 0, 1) := by decide +kernel
theorem dX0_paperAt_6 : decode cX0_paperAt 6 = .ok (.getfield 56, 3) := by decide +kernel
theorem dX0_paperAt_9 : decode cX0_paperAt 9 = .ok (.if_icmp .ge 21, 3) := by decide +kernel
theorem dX0_paperAt_12 : decode cX0_paperAt 12 = .ok (.iload_n 1, 1) := by decide +kernel
theorem dX0_paperAt_13 : decode cX0_paperAt 13 = .ok (.aload_n 0, 1) := by decide +kernel
theorem dX0_paperAt_14 : decode cX0_paperAt 14 = .ok (.getfield 36, 3) := by decide +kernel
theorem dX0_paperAt_17 : decode cX0_paperAt 17 = .ok (.arraylength, 1) := by decide +kernel
theorem dX0_paperAt_18 : decode cX0_paperAt 18 = .ok (.if_icmp .ge 12, 3) := by decide +kernel
theorem dX0_paperAt_21 : decode cX0_paperAt 21 = .ok (.aload_n 0, 1) := by decide +kernel
theorem dX0_paperAt_22 : decode cX0_paperAt 22 = .ok (.getfield 36, 3) := by decide +kernel
theorem dX0_paperAt_25 : decode cX0_paperAt 25 = .ok (.iload_n 1, 1) := by decide +kernel
theorem dX0_paperAt_26 : decode cX0_paperAt 26 = .ok (.aaload, 1) := by decide +kernel
theorem dX0_paperAt_27 : decode cX0_paperAt 27 = .ok (.goto 4, 3) := by decide +kernel
theorem dX0_paperAt_30 : decode cX0_paperAt 30 = .ok (.aconst_null, 1) := by decide +kernel
theorem dX0_paperAt_31 : decode cX0_paperAt 31 = .ok (.areturn, 1) := by decide +kernel
theorem dX0_watchAt_0 : decode cX0_watchAt 0 = .ok (.iload_n 1, 1) := by decide +kernel
theorem dX0_watchAt_1 : decode cX0_watchAt 1 = .ok (.ifCond .lt 29, 3) := by decide +kernel
theorem dX0_watchAt_4 : decode cX0_watchAt 4 = .ok (.iload_n 1, 1) := by decide +kernel
theorem dX0_watchAt_5 : decode cX0_watchAt 5 = .ok (.aload_n 0, 1) := by decide +kernel
theorem dX0_watchAt_6 : decode cX0_watchAt 6 = .ok (.getfield 59, 3) := by decide +kernel
theorem dX0_watchAt_9 : decode cX0_watchAt 9 = .ok (.if_icmp .ge 21, 3) := by decide +kernel
theorem dX0_watchAt_12 : decode cX0_watchAt 12 = .ok (.iload_n 1, 1) := by decide +kernel
theorem dX0_watchAt_13 : decode cX0_watchAt 13 = .ok (.aload_n 0, 1) := by decide +kernel
theorem dX0_watchAt_14 : decode cX0_watchAt 14 = .ok (.getfield 42, 3) := by decide +kernel
theorem dX0_watchAt_17 : decode cX0_watchAt 17 = .ok (.arraylength, 1) := by decide +kernel
theorem dX0_watchAt_18 : decode cX0_watchAt 18 = .ok (.if_icmp .ge 12, 3) := by decide +kernel
theorem dX0_watchAt_21 : decode cX0_watchAt 21 = .ok (.aload_n 0, 1) := by decide +kernel
theorem dX0_watchAt_22 : decode cX0_watchAt 22 = .ok (.getfield 42, 3) := by decide +kernel
theorem dX0_watchAt_25 : decode cX0_watchAt 25 = .ok (.iload_n 1, 1) := by decide +kernel
theorem dX0_watchAt_26 : decode cX0_watchAt 26 = .ok (.aaload, 1) := by decide +kernel
theorem dX0_watchAt_27 : decode cX0_watchAt 27 = .ok (.goto 4, 3) := by decide +kernel
theorem dX0_watchAt_30 : decode cX0_watchAt 30 = .ok (.aconst_null, 1) := by decide +kernel
theorem dX0_watchAt_31 : decode cX0_watchAt 31 = .ok (.areturn, 1) := by decide +kernel
theorem dX0_countOf_0 : decode cX0_countOf 0 = .ok (.iload_n 1, 1) := by decide +kernel
theorem dX0_countOf_1 : decode cX0_countOf 1 = .ok (.tableswitch 51 0 3 #[31, 36, 41, 46], 31) := by decide +kernel
theorem dX0_countOf_32 : decode cX0_countOf 32 = .ok (.aload_n 0, 1) := by decide +kernel
theorem dX0_countOf_33 : decode cX0_countOf 33 = .ok (.getfield 50, 3) := by decide +kernel
theorem dX0_countOf_36 : decode cX0_countOf 36 = .ok (.ireturn, 1) := by decide +kernel
theorem dX0_countOf_37 : decode cX0_countOf 37 = .ok (.aload_n 0, 1) := by decide +kernel
theorem dX0_countOf_38 : decode cX0_countOf 38 = .ok (.getfield 53, 3) := by decide +kernel
theorem dX0_countOf_41 : decode cX0_countOf 41 = .ok (.ireturn, 1) := by decide +kernel
theorem dX0_countOf_42 : decode cX0_countOf 42 = .ok (.aload_n 0, 1) := by decide +kernel
theorem dX0_countOf_43 : decode cX0_countOf 43 = .ok (.getfield 56, 3) := by decide +kernel
theorem dX0_countOf_46 : decode cX0_countOf 46 = .ok (.ireturn, 1) := by decide +kernel
theorem dX0_countOf_47 : decode cX0_countOf 47 = .ok (.aload_n 0, 1) := by decide +kernel
theorem dX0_countOf_48 : decode cX0_countOf 48 = .ok (.getfield 59, 3) := by decide +kernel
theorem dX0_countOf_51 : decode cX0_countOf 51 = .ok (.ireturn, 1) := by decide +kernel
theorem dX0_countOf_52 : decode cX0_countOf 52 = .ok (.bipush (-2), 2) := by decide +kernel
theorem dX0_countOf_54 : decode cX0_countOf 54 = .ok (.ireturn, 1) := by decide +kernel
set_option maxRecDepth 20000 in
theorem dX0_placeFor_0 : decode cX0_placeFor 0 = .ok (.aload_n 0, 1) := by decide +kernel
theorem dX0_placeFor_1 : decode cX0_placeFor 1 = .ok (.iload_n 1, 1) := by decide +kernel
theorem dX0_placeFor_2 : decode cX0_placeFor 2 = .ok (.invokevirtual 62, 3) := by decide +kernel
theorem dX0_placeFor_5 : decode cX0_placeFor 5 = .ok (.istore_n 3, 1) := by decide +kernel
theorem dX0_placeFor_6 : decode cX0_placeFor 6 = .ok (.iload_n 1, 1) := by decide +kernel
theorem dX0_placeFor_7 : decode cX0_placeFor 7 = .ok (.iconst 1, 1) := by decide +kernel
theorem dX0_placeFor_8 : decode cX0_placeFor 8 = .ok (.if_icmp .ne 7, 3) := by decide +kernel
theorem dX0_placeFor_11 : decode cX0_placeFor 11 = .ok (.iconst 4, 1) := by decide +kernel
theorem dX0_placeFor_12 : decode cX0_placeFor 12 = .ok (.goto 21, 3) := by decide +kernel
theorem dX0_placeFor_15 : decode cX0_placeFor 15 = .ok (.iload_n 1, 1) := by decide +kernel
theorem dX0_placeFor_16 : decode cX0_placeFor 16 = .ok (.ifCond .ne 7, 3) := by decide +kernel
theorem dX0_placeFor_19 : decode cX0_placeFor 19 = .ok (.iconst 2, 1) := by decide +kernel
theorem dX0_placeFor_20 : decode cX0_placeFor 20 = .ok (.goto 13, 3) := by decide +kernel
theorem dX0_placeFor_23 : decode cX0_placeFor 23 = .ok (.iload_n 1, 1) := by decide +kernel
theorem dX0_placeFor_24 : decode cX0_placeFor 24 = .ok (.iconst 2, 1) := by decide +kernel
theorem dX0_placeFor_25 : decode cX0_placeFor 25 = .ok (.if_icmp .ne 7, 3) := by decide +kernel
theorem dX0_placeFor_28 : decode cX0_placeFor 28 = .ok (.iconst 2, 1) := by decide +kernel
theorem dX0_placeFor_29 : decode cX0_placeFor 29 = .ok (.goto 4, 3) := by decide +kernel
theorem dX0_placeFor_32 : decode cX0_placeFor 32 = .ok (.iconst 2, 1) := by decide +kernel
theorem dX0_placeFor_33 : decode cX0_placeFor 33 = .ok (.istore 4, 2) := by decide +kernel
theorem dX0_placeFor_35 : decode cX0_placeFor 35 = .ok (.iload_n 3, 1) := by decide +kernel
theorem dX0_placeFor_36 : decode cX0_placeFor 36 = .ok (.ifCond .ge 6, 3) := by decide +kernel
theorem dX0_placeFor_39 : decode cX0_placeFor 39 = .ok (.bipush (-2), 2) := by decide +kernel
theorem dX0_placeFor_41 : decode cX0_placeFor 41 = .ok (.ireturn, 1) := by decide +kernel
theorem dX0_placeFor_42 : decode cX0_placeFor 42 = .ok (.iload_n 2, 1) := by decide +kernel
theorem dX0_placeFor_43 : decode cX0_placeFor 43 = .ok (.iconst (-1), 1) := by decide +kernel
theorem dX0_placeFor_44 : decode cX0_placeFor 44 = .ok (.if_icmp .ne 16, 3) := by decide +kernel
theorem dX0_placeFor_47 : decode cX0_placeFor 47 = .ok (.iload_n 3, 1) := by decide +kernel
theorem dX0_placeFor_48 : decode cX0_placeFor 48 = .ok (.iload 4, 2) := by decide +kernel
theorem dX0_placeFor_50 : decode cX0_placeFor 50 = .ok (.if_icmp .ge 7, 3) := by decide +kernel
theorem dX0_placeFor_53 : decode cX0_placeFor 53 = .ok (.iload_n 3, 1) := by decide +kernel
theorem dX0_placeFor_54 : decode cX0_placeFor 54 = .ok (.goto 5, 3) := by decide +kernel
theorem dX0_placeFor_57 : decode cX0_placeFor 57 = .ok (.bipush (-2), 2) := by decide +kernel
theorem dX0_placeFor_59 : decode cX0_placeFor 59 = .ok (.ireturn, 1) := by decide +kernel
theorem dX0_placeFor_60 : decode cX0_placeFor 60 = .ok (.iload_n 2, 1) := by decide +kernel
theorem dX0_placeFor_61 : decode cX0_placeFor 61 = .ok (.ifCond .lt 12, 3) := by decide +kernel
theorem dX0_placeFor_64 : decode cX0_placeFor 64 = .ok (.iload_n 2, 1) := by decide +kernel
theorem dX0_placeFor_65 : decode cX0_placeFor 65 = .ok (.iload_n 3, 1) := by decide +kernel
theorem dX0_placeFor_66 : decode cX0_placeFor 66 = .ok (.if_icmp .ge 7, 3) := by decide +kernel
theorem dX0_placeFor_69 : decode cX0_placeFor 69 = .ok (.iload_n 2, 1) := by decide +kernel
theorem dX0_placeFor_70 : decode cX0_placeFor 70 = .ok (.goto 5, 3) := by decide +kernel
theorem dX0_placeFor_73 : decode cX0_placeFor 73 = .ok (.bipush (-2), 2) := by decide +kernel
theorem dX0_placeFor_75 : decode cX0_placeFor 75 = .ok (.ireturn, 1) := by decide +kernel
set_option maxRecDepth 20000 in
theorem dX0_keep_0 : decode cX0_keep 0 = .ok (.aload_n 3, 1) := by decide +kernel
theorem dX0_keep_1 : decode cX0_keep 1 = .ok (.ifnonnull 4, 3) := by decide +kernel
theorem dX0_keep_4 : decode cX0_keep 4 = .ok (.return_, 1) := by decide +kernel
theorem dX0_keep_5 : decode cX0_keep 5 = .ok (.iload_n 1, 1) := by decide +kernel
theorem dX0_keep_6 : decode cX0_keep 6 = .ok (.tableswitch 134 0 3 #[30, 56, 82, 108], 30) := by decide +kernel
theorem dX0_keep_36 : decode cX0_keep 36 = .ok (.aload_n 0, 1) := by decide +kernel
theorem dX0_keep_37 : decode cX0_keep 37 = .ok (.aload_n 0, 1) := by decide +kernel
theorem dX0_keep_38 : decode cX0_keep 38 = .ok (.getfield 50, 3) := by decide +kernel
theorem dX0_keep_41 : decode cX0_keep 41 = .ok (.iload_n 2, 1) := by decide +kernel
theorem dX0_keep_42 : decode cX0_keep 42 = .ok (.iconst 1, 1) := by decide +kernel
theorem dX0_keep_43 : decode cX0_keep 43 = .ok (.iadd, 1) := by decide +kernel
theorem dX0_keep_44 : decode cX0_keep 44 = .ok (.invokestatic 66, 3) := by decide +kernel
theorem dX0_keep_47 : decode cX0_keep 47 = .ok (.putfield 50, 3) := by decide +kernel
theorem dX0_keep_50 : decode cX0_keep 50 = .ok (.aload_n 0, 1) := by decide +kernel
theorem dX0_keep_51 : decode cX0_keep 51 = .ok (.aload_n 3, 1) := by decide +kernel
theorem dX0_keep_52 : decode cX0_keep 52 = .ok (.getfield 72, 3) := by decide +kernel
theorem dX0_keep_55 : decode cX0_keep 55 = .ok (.iload_n 2, 1) := by decide +kernel
theorem dX0_keep_56 : decode cX0_keep 56 = .ok (.invokevirtual 78, 3) := by decide +kernel
theorem dX0_keep_59 : decode cX0_keep 59 = .ok (.goto 81, 3) := by decide +kernel
theorem dX0_keep_62 : decode cX0_keep 62 = .ok (.aload_n 0, 1) := by decide +kernel
theorem dX0_keep_63 : decode cX0_keep 63 = .ok (.aload_n 0, 1) := by decide +kernel
theorem dX0_keep_64 : decode cX0_keep 64 = .ok (.getfield 53, 3) := by decide +kernel
theorem dX0_keep_67 : decode cX0_keep 67 = .ok (.iload_n 2, 1) := by decide +kernel
theorem dX0_keep_68 : decode cX0_keep 68 = .ok (.iconst 1, 1) := by decide +kernel
theorem dX0_keep_69 : decode cX0_keep 69 = .ok (.iadd, 1) := by decide +kernel
theorem dX0_keep_70 : decode cX0_keep 70 = .ok (.invokestatic 66, 3) := by decide +kernel
theorem dX0_keep_73 : decode cX0_keep 73 = .ok (.putfield 53, 3) := by decide +kernel
theorem dX0_keep_76 : decode cX0_keep 76 = .ok (.aload_n 0, 1) := by decide +kernel
theorem dX0_keep_77 : decode cX0_keep 77 = .ok (.aload_n 3, 1) := by decide +kernel
theorem dX0_keep_78 : decode cX0_keep 78 = .ok (.getfield 82, 3) := by decide +kernel
theorem dX0_keep_81 : decode cX0_keep 81 = .ok (.iload_n 2, 1) := by decide +kernel
theorem dX0_keep_82 : decode cX0_keep 82 = .ok (.invokevirtual 86, 3) := by decide +kernel
theorem dX0_keep_85 : decode cX0_keep 85 = .ok (.goto 55, 3) := by decide +kernel
theorem dX0_keep_88 : decode cX0_keep 88 = .ok (.aload_n 0, 1) := by decide +kernel
theorem dX0_keep_89 : decode cX0_keep 89 = .ok (.aload_n 0, 1) := by decide +kernel
theorem dX0_keep_90 : decode cX0_keep 90 = .ok (.getfield 56, 3) := by decide +kernel
theorem dX0_keep_93 : decode cX0_keep 93 = .ok (.iload_n 2, 1) := by decide +kernel
theorem dX0_keep_94 : decode cX0_keep 94 = .ok (.iconst 1, 1) := by decide +kernel
theorem dX0_keep_95 : decode cX0_keep 95 = .ok (.iadd, 1) := by decide +kernel
theorem dX0_keep_96 : decode cX0_keep 96 = .ok (.invokestatic 66, 3) := by decide +kernel
theorem dX0_keep_99 : decode cX0_keep 99 = .ok (.putfield 56, 3) := by decide +kernel
theorem dX0_keep_102 : decode cX0_keep 102 = .ok (.aload_n 0, 1) := by decide +kernel
theorem dX0_keep_103 : decode cX0_keep 103 = .ok (.aload_n 3, 1) := by decide +kernel
theorem dX0_keep_104 : decode cX0_keep 104 = .ok (.getfield 90, 3) := by decide +kernel
theorem dX0_keep_107 : decode cX0_keep 107 = .ok (.iload_n 2, 1) := by decide +kernel
theorem dX0_keep_108 : decode cX0_keep 108 = .ok (.invokevirtual 94, 3) := by decide +kernel
theorem dX0_keep_111 : decode cX0_keep 111 = .ok (.goto 29, 3) := by decide +kernel
theorem dX0_keep_114 : decode cX0_keep 114 = .ok (.aload_n 0, 1) := by decide +kernel
theorem dX0_keep_115 : decode cX0_keep 115 = .ok (.aload_n 0, 1) := by decide +kernel
theorem dX0_keep_116 : decode cX0_keep 116 = .ok (.getfield 59, 3) := by decide +kernel
theorem dX0_keep_119 : decode cX0_keep 119 = .ok (.iload_n 2, 1) := by decide +kernel
theorem dX0_keep_120 : decode cX0_keep 120 = .ok (.iconst 1, 1) := by decide +kernel
theorem dX0_keep_121 : decode cX0_keep 121 = .ok (.iadd, 1) := by decide +kernel
theorem dX0_keep_122 : decode cX0_keep 122 = .ok (.invokestatic 66, 3) := by decide +kernel
theorem dX0_keep_125 : decode cX0_keep 125 = .ok (.putfield 59, 3) := by decide +kernel
theorem dX0_keep_128 : decode cX0_keep 128 = .ok (.aload_n 0, 1) := by decide +kernel
theorem dX0_keep_129 : decode cX0_keep 129 = .ok (.aload_n 3, 1) := by decide +kernel
theorem dX0_keep_130 : decode cX0_keep 130 = .ok (.getfield 98, 3) := by decide +kernel
theorem dX0_keep_133 : decode cX0_keep 133 = .ok (.iload_n 2, 1) := by decide +kernel
theorem dX0_keep_134 : decode cX0_keep 134 = .ok (.invokevirtual 102, 3) := by decide +kernel
theorem dX0_keep_137 : decode cX0_keep 137 = .ok (.goto 3, 3) := by decide +kernel
theorem dX0_keep_140 : decode cX0_keep 140 = .ok (.return_, 1) := by decide +kernel
set_option maxRecDepth 20000 in
theorem dX0_copy_0 : decode cX0_copy 0 = .ok (.aload_n 1, 1) := by decide +kernel
theorem dX0_copy_1 : decode cX0_copy 1 = .ok (.ifnonnull 4, 3) := by decide +kernel
theorem dX0_copy_4 : decode cX0_copy 4 = .ok (.return_, 1) := by decide +kernel
theorem dX0_copy_5 : decode cX0_copy 5 = .ok (.aload_n 0, 1) := by decide +kernel
theorem dX0_copy_6 : decode cX0_copy 6 = .ok (.getfield 12, 3) := by decide +kernel
theorem dX0_copy_9 : decode cX0_copy 9 = .ok (.aload_n 1, 1) := by decide +kernel
theorem dX0_copy_10 : decode cX0_copy 10 = .ok (.getfield 12, 3) := by decide +kernel
theorem dX0_copy_13 : decode cX0_copy 13 = .ok (.invokevirtual 106, 3) := by decide +kernel
theorem dX0_copy_16 : decode cX0_copy 16 = .ok (.aload_n 0, 1) := by decide +kernel
theorem dX0_copy_17 : decode cX0_copy 17 = .ok (.aload_n 1, 1) := by decide +kernel
theorem dX0_copy_18 : decode cX0_copy 18 = .ok (.getfield 110, 3) := by decide +kernel
theorem dX0_copy_21 : decode cX0_copy 21 = .ok (.putfield 110, 3) := by decide +kernel
theorem dX0_copy_24 : decode cX0_copy 24 = .ok (.aload_n 0, 1) := by decide +kernel
theorem dX0_copy_25 : decode cX0_copy 25 = .ok (.aload_n 1, 1) := by decide +kernel
theorem dX0_copy_26 : decode cX0_copy 26 = .ok (.getfield 18, 3) := by decide +kernel
theorem dX0_copy_29 : decode cX0_copy 29 = .ok (.putfield 18, 3) := by decide +kernel
theorem dX0_copy_32 : decode cX0_copy 32 = .ok (.aload_n 0, 1) := by decide +kernel
theorem dX0_copy_33 : decode cX0_copy 33 = .ok (.aload_n 1, 1) := by decide +kernel
theorem dX0_copy_34 : decode cX0_copy 34 = .ok (.getfield 50, 3) := by decide +kernel
theorem dX0_copy_37 : decode cX0_copy 37 = .ok (.putfield 50, 3) := by decide +kernel
theorem dX0_copy_40 : decode cX0_copy 40 = .ok (.aload_n 0, 1) := by decide +kernel
theorem dX0_copy_41 : decode cX0_copy 41 = .ok (.aload_n 1, 1) := by decide +kernel
theorem dX0_copy_42 : decode cX0_copy 42 = .ok (.getfield 53, 3) := by decide +kernel
theorem dX0_copy_45 : decode cX0_copy 45 = .ok (.putfield 53, 3) := by decide +kernel
theorem dX0_copy_48 : decode cX0_copy 48 = .ok (.aload_n 0, 1) := by decide +kernel
theorem dX0_copy_49 : decode cX0_copy 49 = .ok (.aload_n 1, 1) := by decide +kernel
theorem dX0_copy_50 : decode cX0_copy 50 = .ok (.getfield 56, 3) := by decide +kernel
theorem dX0_copy_53 : decode cX0_copy 53 = .ok (.putfield 56, 3) := by decide +kernel
theorem dX0_copy_56 : decode cX0_copy 56 = .ok (.aload_n 0, 1) := by decide +kernel
theorem dX0_copy_57 : decode cX0_copy 57 = .ok (.aload_n 1, 1) := by decide +kernel
theorem dX0_copy_58 : decode cX0_copy 58 = .ok (.getfield 59, 3) := by decide +kernel
theorem dX0_copy_61 : decode cX0_copy 61 = .ok (.putfield 59, 3) := by decide +kernel
theorem dX0_copy_64 : decode cX0_copy 64 = .ok (.iconst 0, 1) := by decide +kernel
theorem dX0_copy_65 : decode cX0_copy 65 = .ok (.istore_n 2, 1) := by decide +kernel
theorem dX0_copy_66 : decode cX0_copy 66 = .ok (.iload_n 2, 1) := by decide +kernel
theorem dX0_copy_67 : decode cX0_copy 67 = .ok (.iconst 2, 1) := by decide +kernel
theorem dX0_copy_68 : decode cX0_copy 68 = .ok (.if_icmp .ge 19, 3) := by decide +kernel
theorem dX0_copy_71 : decode cX0_copy 71 = .ok (.aload_n 0, 1) := by decide +kernel
theorem dX0_copy_72 : decode cX0_copy 72 = .ok (.aload_n 1, 1) := by decide +kernel
theorem dX0_copy_73 : decode cX0_copy 73 = .ok (.iload_n 2, 1) := by decide +kernel
theorem dX0_copy_74 : decode cX0_copy 74 = .ok (.invokevirtual 113, 3) := by decide +kernel
theorem dX0_copy_77 : decode cX0_copy 77 = .ok (.iload_n 2, 1) := by decide +kernel
theorem dX0_copy_78 : decode cX0_copy 78 = .ok (.invokevirtual 78, 3) := by decide +kernel
theorem dX0_copy_81 : decode cX0_copy 81 = .ok (.iinc 2 1, 3) := by decide +kernel
theorem dX0_copy_84 : decode cX0_copy 84 = .ok (.goto (-18), 3) := by decide +kernel
theorem dX0_copy_87 : decode cX0_copy 87 = .ok (.iconst 0, 1) := by decide +kernel
theorem dX0_copy_88 : decode cX0_copy 88 = .ok (.istore_n 2, 1) := by decide +kernel
theorem dX0_copy_89 : decode cX0_copy 89 = .ok (.iload_n 2, 1) := by decide +kernel
theorem dX0_copy_90 : decode cX0_copy 90 = .ok (.iconst 4, 1) := by decide +kernel
theorem dX0_copy_91 : decode cX0_copy 91 = .ok (.if_icmp .ge 19, 3) := by decide +kernel
theorem dX0_copy_94 : decode cX0_copy 94 = .ok (.aload_n 0, 1) := by decide +kernel
theorem dX0_copy_95 : decode cX0_copy 95 = .ok (.aload_n 1, 1) := by decide +kernel
theorem dX0_copy_96 : decode cX0_copy 96 = .ok (.iload_n 2, 1) := by decide +kernel
theorem dX0_copy_97 : decode cX0_copy 97 = .ok (.invokevirtual 117, 3) := by decide +kernel
theorem dX0_copy_100 : decode cX0_copy 100 = .ok (.iload_n 2, 1) := by decide +kernel
theorem dX0_copy_101 : decode cX0_copy 101 = .ok (.invokevirtual 86, 3) := by decide +kernel
theorem dX0_copy_104 : decode cX0_copy 104 = .ok (.iinc 2 1, 3) := by decide +kernel
theorem dX0_copy_107 : decode cX0_copy 107 = .ok (.goto (-18), 3) := by decide +kernel
theorem dX0_copy_110 : decode cX0_copy 110 = .ok (.iconst 0, 1) := by decide +kernel
theorem dX0_copy_111 : decode cX0_copy 111 = .ok (.istore_n 2, 1) := by decide +kernel
theorem dX0_copy_112 : decode cX0_copy 112 = .ok (.iload_n 2, 1) := by decide +kernel
theorem dX0_copy_113 : decode cX0_copy 113 = .ok (.iconst 2, 1) := by decide +kernel
theorem dX0_copy_114 : decode cX0_copy 114 = .ok (.if_icmp .ge 19, 3) := by decide +kernel
theorem dX0_copy_117 : decode cX0_copy 117 = .ok (.aload_n 0, 1) := by decide +kernel
theorem dX0_copy_118 : decode cX0_copy 118 = .ok (.aload_n 1, 1) := by decide +kernel
theorem dX0_copy_119 : decode cX0_copy 119 = .ok (.iload_n 2, 1) := by decide +kernel
theorem dX0_copy_120 : decode cX0_copy 120 = .ok (.invokevirtual 121, 3) := by decide +kernel
theorem dX0_copy_123 : decode cX0_copy 123 = .ok (.iload_n 2, 1) := by decide +kernel
theorem dX0_copy_124 : decode cX0_copy 124 = .ok (.invokevirtual 94, 3) := by decide +kernel
theorem dX0_copy_127 : decode cX0_copy 127 = .ok (.iinc 2 1, 3) := by decide +kernel
theorem dX0_copy_130 : decode cX0_copy 130 = .ok (.goto (-18), 3) := by decide +kernel
theorem dX0_copy_133 : decode cX0_copy 133 = .ok (.iconst 0, 1) := by decide +kernel
theorem dX0_copy_134 : decode cX0_copy 134 = .ok (.istore_n 2, 1) := by decide +kernel
theorem dX0_copy_135 : decode cX0_copy 135 = .ok (.iload_n 2, 1) := by decide +kernel
theorem dX0_copy_136 : decode cX0_copy 136 = .ok (.iconst 2, 1) := by decide +kernel
theorem dX0_copy_137 : decode cX0_copy 137 = .ok (.if_icmp .ge 19, 3) := by decide +kernel
theorem dX0_copy_140 : decode cX0_copy 140 = .ok (.aload_n 0, 1) := by decide +kernel
theorem dX0_copy_141 : decode cX0_copy 141 = .ok (.aload_n 1, 1) := by decide +kernel
theorem dX0_copy_142 : decode cX0_copy 142 = .ok (.iload_n 2, 1) := by decide +kernel
theorem dX0_copy_143 : decode cX0_copy 143 = .ok (.invokevirtual 125, 3) := by decide +kernel
theorem dX0_copy_146 : decode cX0_copy 146 = .ok (.iload_n 2, 1) := by decide +kernel
theorem dX0_copy_147 : decode cX0_copy 147 = .ok (.invokevirtual 102, 3) := by decide +kernel
theorem dX0_copy_150 : decode cX0_copy 150 = .ok (.iinc 2 1, 3) := by decide +kernel
theorem dX0_copy_153 : decode cX0_copy 153 = .ok (.goto (-18), 3) := by decide +kernel
theorem dX0_copy_156 : decode cX0_copy 156 = .ok (.return_, 1) := by decide +kernel
set_option maxRecDepth 20000 in
theorem dX0_copyShip_0 : decode cX0_copyShip 0 = .ok (.aload_n 0, 1) := by decide +kernel
theorem dX0_copyShip_1 : decode cX0_copyShip 1 = .ok (.iload_n 2, 1) := by decide +kernel
theorem dX0_copyShip_2 : decode cX0_copyShip 2 = .ok (.invokevirtual 113, 3) := by decide +kernel
theorem dX0_copyShip_5 : decode cX0_copyShip 5 = .ok (.astore_n 3, 1) := by decide +kernel
theorem dX0_copyShip_6 : decode cX0_copyShip 6 = .ok (.aload_n 3, 1) := by decide +kernel
theorem dX0_copyShip_7 : decode cX0_copyShip 7 = .ok (.ifnull 8, 3) := by decide +kernel
theorem dX0_copyShip_10 : decode cX0_copyShip 10 = .ok (.aload_n 3, 1) := by decide +kernel
theorem dX0_copyShip_11 : decode cX0_copyShip 11 = .ok (.aload_n 1, 1) := by decide +kernel
theorem dX0_copyShip_12 : decode cX0_copyShip 12 = .ok (.invokevirtual 129, 3) := by decide +kernel
theorem dX0_copyShip_15 : decode cX0_copyShip 15 = .ok (.return_, 1) := by decide +kernel
set_option maxRecDepth 20000 in
theorem dX0_copyHand_0 : decode cX0_copyHand 0 = .ok (.aload_n 0, 1) := by decide +kernel
theorem dX0_copyHand_1 : decode cX0_copyHand 1 = .ok (.iload_n 2, 1) := by decide +kernel
theorem dX0_copyHand_2 : decode cX0_copyHand 2 = .ok (.invokevirtual 117, 3) := by decide +kernel
theorem dX0_copyHand_5 : decode cX0_copyHand 5 = .ok (.astore_n 3, 1) := by decide +kernel
theorem dX0_copyHand_6 : decode cX0_copyHand 6 = .ok (.aload_n 3, 1) := by decide +kernel
theorem dX0_copyHand_7 : decode cX0_copyHand 7 = .ok (.ifnull 8, 3) := by decide +kernel
theorem dX0_copyHand_10 : decode cX0_copyHand 10 = .ok (.aload_n 3, 1) := by decide +kernel
theorem dX0_copyHand_11 : decode cX0_copyHand 11 = .ok (.aload_n 1, 1) := by decide +kernel
theorem dX0_copyHand_12 : decode cX0_copyHand 12 = .ok (.invokevirtual 132, 3) := by decide +kernel
theorem dX0_copyHand_15 : decode cX0_copyHand 15 = .ok (.return_, 1) := by decide +kernel
set_option maxRecDepth 20000 in
theorem dX0_copyPaper_0 : decode cX0_copyPaper 0 = .ok (.aload_n 0, 1) := by decide +kernel
theorem dX0_copyPaper_1 : decode cX0_copyPaper 1 = .ok (.iload_n 2, 1) := by decide +kernel
theorem dX0_copyPaper_2 : decode cX0_copyPaper 2 = .ok (.invokevirtual 121, 3) := by decide +kernel
theorem dX0_copyPaper_5 : decode cX0_copyPaper 5 = .ok (.astore_n 3, 1) := by decide +kernel
theorem dX0_copyPaper_6 : decode cX0_copyPaper 6 = .ok (.aload_n 3, 1) := by decide +kernel
theorem dX0_copyPaper_7 : decode cX0_copyPaper 7 = .ok (.ifnull 8, 3) := by decide +kernel
theorem dX0_copyPaper_10 : decode cX0_copyPaper 10 = .ok (.aload_n 3, 1) := by decide +kernel
theorem dX0_copyPaper_11 : decode cX0_copyPaper 11 = .ok (.aload_n 1, 1) := by decide +kernel
theorem dX0_copyPaper_12 : decode cX0_copyPaper 12 = .ok (.invokevirtual 135, 3) := by decide +kernel
theorem dX0_copyPaper_15 : decode cX0_copyPaper 15 = .ok (.return_, 1) := by decide +kernel
set_option maxRecDepth 20000 in
theorem dX0_copyWatch_0 : decode cX0_copyWatch 0 = .ok (.aload_n 0, 1) := by decide +kernel
theorem dX0_copyWatch_1 : decode cX0_copyWatch 1 = .ok (.iload_n 2, 1) := by decide +kernel
theorem dX0_copyWatch_2 : decode cX0_copyWatch 2 = .ok (.invokevirtual 125, 3) := by decide +kernel
theorem dX0_copyWatch_5 : decode cX0_copyWatch 5 = .ok (.astore_n 3, 1) := by decide +kernel
theorem dX0_copyWatch_6 : decode cX0_copyWatch 6 = .ok (.aload_n 3, 1) := by decide +kernel
theorem dX0_copyWatch_7 : decode cX0_copyWatch 7 = .ok (.ifnull 8, 3) := by decide +kernel
theorem dX0_copyWatch_10 : decode cX0_copyWatch 10 = .ok (.aload_n 3, 1) := by decide +kernel
theorem dX0_copyWatch_11 : decode cX0_copyWatch 11 = .ok (.aload_n 1, 1) := by decide +kernel
theorem dX0_copyWatch_12 : decode cX0_copyWatch 12 = .ok (.invokevirtual 138, 3) := by decide +kernel
theorem dX0_copyWatch_15 : decode cX0_copyWatch 15 = .ok (.return_, 1) := by decide +kernel
theorem dX1_init_0 : decode cX1_init 0 = .ok (.aload_n 0, 1) := by decide +kernel
theorem dX1_init_1 : decode cX1_init 1 = .ok (.invokespecial 3, 3) := by decide +kernel
theorem dX1_init_4 : decode cX1_init 4 = .ok (.aload_n 0, 1) := by decide +kernel
theorem dX1_init_5 : decode cX1_init 5 = .ok (.iconst 4, 1) := by decide +kernel
theorem dX1_init_6 : decode cX1_init 6 = .ok (.newarray .int, 2) := by decide +kernel
theorem dX1_init_8 : decode cX1_init 8 = .ok (.putfield 9, 3) := by decide +kernel
theorem dX1_init_11 : decode cX1_init 11 = .ok (.aload_n 0, 1) := by decide +kernel
theorem dX1_init_12 : decode cX1_init 12 = .ok (.iconst 4, 1) := by decide +kernel
theorem dX1_init_13 : decode cX1_init 13 = .ok (.newarray .int, 2) := by decide +kernel
theorem dX1_init_15 : decode cX1_init 15 = .ok (.putfield 15, 3) := by decide +kernel
theorem dX1_init_18 : decode cX1_init 18 = .ok (.return_, 1) := by decide +kernel
set_option maxRecDepth 20000 in
theorem dX1_clear_0 : decode cX1_clear 0 = .ok (.iconst 0, 1) := by decide +kernel
theorem dX1_clear_1 : decode cX1_clear 1 = .ok (.istore_n 1, 1) := by decide +kernel
theorem dX1_clear_2 : decode cX1_clear 2 = .ok (.iload_n 1, 1) := by decide +kernel
theorem dX1_clear_3 : decode cX1_clear 3 = .ok (.bipush 8, 2) := by decide +kernel
theorem dX1_clear_5 : decode cX1_clear 5 = .ok (.if_icmp .gt 15, 3) := by decide +kernel
theorem dX1_clear_8 : decode cX1_clear 8 = .ok (.aload_n 0, 1) := by decide +kernel
theorem dX1_clear_9 : decode cX1_clear 9 = .ok (.iload_n 1, 1) := by decide +kernel
theorem dX1_clear_10 : decode cX1_clear 10 = .ok (.iconst 0, 1) := by decide +kernel
theorem dX1_clear_11 : decode cX1_clear 11 = .ok (.invokevirtual 18, 3) := by decide +kernel
theorem dX1_clear_14 : decode cX1_clear 14 = .ok (.iinc 1 1, 3) := by decide +kernel
theorem dX1_clear_17 : decode cX1_clear 17 = .ok (.goto (-15), 3) := by decide +kernel
theorem dX1_clear_20 : decode cX1_clear 20 = .ok (.aload_n 0, 1) := by decide +kernel
theorem dX1_clear_21 : decode cX1_clear 21 = .ok (.iconst 1, 1) := by decide +kernel
theorem dX1_clear_22 : decode cX1_clear 22 = .ok (.putfield 22, 3) := by decide +kernel
theorem dX1_clear_25 : decode cX1_clear 25 = .ok (.aload_n 0, 1) := by decide +kernel
theorem dX1_clear_26 : decode cX1_clear 26 = .ok (.iconst 0, 1) := by decide +kernel
theorem dX1_clear_27 : decode cX1_clear 27 = .ok (.putfield 26, 3) := by decide +kernel
theorem dX1_clear_30 : decode cX1_clear 30 = .ok (.return_, 1) := by decide +kernel
set_option maxRecDepth 20000 in
theorem dX1_copy_0 : decode cX1_copy 0 = .ok (.aload_n 1, 1) := by decide +kernel
theorem dX1_copy_1 : decode cX1_copy 1 = .ok (.ifnonnull 4, 3) := by decide +kernel
theorem dX1_copy_4 : decode cX1_copy 4 = .ok (.return_, 1) := by decide +kernel
theorem dX1_copy_5 : decode cX1_copy 5 = .ok (.iconst 0, 1) := by decide +kernel
theorem dX1_copy_6 : decode cX1_copy 6 = .ok (.istore_n 2, 1) := by decide +kernel
theorem dX1_copy_7 : decode cX1_copy 7 = .ok (.iload_n 2, 1) := by decide +kernel
theorem dX1_copy_8 : decode cX1_copy 8 = .ok (.bipush 8, 2) := by decide +kernel
theorem dX1_copy_10 : decode cX1_copy 10 = .ok (.if_icmp .gt 19, 3) := by decide +kernel
theorem dX1_copy_13 : decode cX1_copy 13 = .ok (.aload_n 0, 1) := by decide +kernel
theorem dX1_copy_14 : decode cX1_copy 14 = .ok (.iload_n 2, 1) := by decide +kernel
theorem dX1_copy_15 : decode cX1_copy 15 = .ok (.aload_n 1, 1) := by decide +kernel
theorem dX1_copy_16 : decode cX1_copy 16 = .ok (.iload_n 2, 1) := by decide +kernel
theorem dX1_copy_17 : decode cX1_copy 17 = .ok (.invokevirtual 29, 3) := by decide +kernel
theorem dX1_copy_20 : decode cX1_copy 20 = .ok (.invokevirtual 18, 3) := by decide +kernel
theorem dX1_copy_23 : decode cX1_copy 23 = .ok (.iinc 2 1, 3) := by decide +kernel
theorem dX1_copy_26 : decode cX1_copy 26 = .ok (.goto (-19), 3) := by decide +kernel
theorem dX1_copy_29 : decode cX1_copy 29 = .ok (.aload_n 0, 1) := by decide +kernel
theorem dX1_copy_30 : decode cX1_copy 30 = .ok (.aload_n 1, 1) := by decide +kernel
theorem dX1_copy_31 : decode cX1_copy 31 = .ok (.getfield 26, 3) := by decide +kernel
theorem dX1_copy_34 : decode cX1_copy 34 = .ok (.putfield 26, 3) := by decide +kernel
theorem dX1_copy_37 : decode cX1_copy 37 = .ok (.aload_n 1, 1) := by decide +kernel
theorem dX1_copy_38 : decode cX1_copy 38 = .ok (.getfield 9, 3) := by decide +kernel
theorem dX1_copy_41 : decode cX1_copy 41 = .ok (.aload_n 0, 1) := by decide +kernel
theorem dX1_copy_42 : decode cX1_copy 42 = .ok (.getfield 9, 3) := by decide +kernel
theorem dX1_copy_45 : decode cX1_copy 45 = .ok (.invokestatic 33, 3) := by decide +kernel
theorem dX1_copy_48 : decode cX1_copy 48 = .ok (.aload_n 1, 1) := by decide +kernel
theorem dX1_copy_49 : decode cX1_copy 49 = .ok (.getfield 15, 3) := by decide +kernel
theorem dX1_copy_52 : decode cX1_copy 52 = .ok (.aload_n 0, 1) := by decide +kernel
theorem dX1_copy_53 : decode cX1_copy 53 = .ok (.getfield 15, 3) := by decide +kernel
theorem dX1_copy_56 : decode cX1_copy 56 = .ok (.invokestatic 33, 3) := by decide +kernel
theorem dX1_copy_59 : decode cX1_copy 59 = .ok (.return_, 1) := by decide +kernel
theorem dX1_write_0 : decode cX1_write 0 = .ok (.iload_n 1, 1) := by decide +kernel
theorem dX1_write_1 : decode cX1_write 1 = .ok (.tableswitch 131 0 8 #[51, 59, 67, 75, 83, 91, 99, 107, 115], 51) := by decide +kernel
theorem dX1_write_52 : decode cX1_write 52 = .ok (.aload_n 0, 1) := by decide +kernel
theorem dX1_write_53 : decode cX1_write 53 = .ok (.iload_n 2, 1) := by decide +kernel
theorem dX1_write_54 : decode cX1_write 54 = .ok (.putfield 37, 3) := by decide +kernel
theorem dX1_write_57 : decode cX1_write 57 = .ok (.goto 75, 3) := by decide +kernel
theorem dX1_write_60 : decode cX1_write 60 = .ok (.aload_n 0, 1) := by decide +kernel
theorem dX1_write_61 : decode cX1_write 61 = .ok (.iload_n 2, 1) := by decide +kernel
theorem dX1_write_62 : decode cX1_write 62 = .ok (.putfield 40, 3) := by decide +kernel
theorem dX1_write_65 : decode cX1_write 65 = .ok (.goto 67, 3) := by decide +kernel
theorem dX1_write_68 : decode cX1_write 68 = .ok (.aload_n 0, 1) := by decide +kernel
theorem dX1_write_69 : decode cX1_write 69 = .ok (.iload_n 2, 1) := by decide +kernel
theorem dX1_write_70 : decode cX1_write 70 = .ok (.putfield 43, 3) := by decide +kernel
theorem dX1_write_73 : decode cX1_write 73 = .ok (.goto 59, 3) := by decide +kernel
theorem dX1_write_76 : decode cX1_write 76 = .ok (.aload_n 0, 1) := by decide +kernel
theorem dX1_write_77 : decode cX1_write 77 = .ok (.iload_n 2, 1) := by decide +kernel
theorem dX1_write_78 : decode cX1_write 78 = .ok (.putfield 46, 3) := by decide +kernel
theorem dX1_write_81 : decode cX1_write 81 = .ok (.goto 51, 3) := by decide +kernel
theorem dX1_write_84 : decode cX1_write 84 = .ok (.aload_n 0, 1) := by decide +kernel
theorem dX1_write_85 : decode cX1_write 85 = .ok (.iload_n 2, 1) := by decide +kernel
theorem dX1_write_86 : decode cX1_write 86 = .ok (.putfield 22, 3) := by decide +kernel
theorem dX1_write_89 : decode cX1_write 89 = .ok (.goto 43, 3) := by decide +kernel
theorem dX1_write_92 : decode cX1_write 92 = .ok (.aload_n 0, 1) := by decide +kernel
theorem dX1_write_93 : decode cX1_write 93 = .ok (.iload_n 2, 1) := by decide +kernel
theorem dX1_write_94 : decode cX1_write 94 = .ok (.putfield 49, 3) := by decide +kernel
theorem dX1_write_97 : decode cX1_write 97 = .ok (.goto 35, 3) := by decide +kernel
theorem dX1_write_100 : decode cX1_write 100 = .ok (.aload_n 0, 1) := by decide +kernel
theorem dX1_write_101 : decode cX1_write 101 = .ok (.iload_n 2, 1) := by decide +kernel
theorem dX1_write_102 : decode cX1_write 102 = .ok (.putfield 52, 3) := by decide +kernel
theorem dX1_write_105 : decode cX1_write 105 = .ok (.goto 27, 3) := by decide +kernel
theorem dX1_write_108 : decode cX1_write 108 = .ok (.aload_n 0, 1) := by decide +kernel
theorem dX1_write_109 : decode cX1_write 109 = .ok (.iload_n 2, 1) := by decide +kernel
theorem dX1_write_110 : decode cX1_write 110 = .ok (.putfield 55, 3) := by decide +kernel
theorem dX1_write_113 : decode cX1_write 113 = .ok (.goto 19, 3) := by decide +kernel
theorem dX1_write_116 : decode cX1_write 116 = .ok (.aload_n 0, 1) := by decide +kernel
theorem dX1_write_117 : decode cX1_write 117 = .ok (.iload_n 2, 1) := by decide +kernel
theorem dX1_write_118 : decode cX1_write 118 = .ok (.ifCond .eq 7, 3) := by decide +kernel
theorem dX1_write_121 : decode cX1_write 121 = .ok (.iconst 1, 1) := by decide +kernel
theorem dX1_write_122 : decode cX1_write 122 = .ok (.goto 4, 3) := by decide +kernel
theorem dX1_write_125 : decode cX1_write 125 = .ok (.iconst 0, 1) := by decide +kernel
theorem dX1_write_126 : decode cX1_write 126 = .ok (.putfield 58, 3) := by decide +kernel
theorem dX1_write_129 : decode cX1_write 129 = .ok (.goto 3, 3) := by decide +kernel
theorem dX1_write_132 : decode cX1_write 132 = .ok (.return_, 1) := by decide +kernel
set_option maxRecDepth 20000 in
theorem dX1_look_0 : decode cX1_look 0 = .ok (.iload_n 1, 1) := by decide +kernel
theorem dX1_look_1 : decode cX1_look 1 = .ok (.tableswitch 113 0 9 #[55, 60, 65, 70, 75, 80, 85, 90, 95, 108], 55) := by decide +kernel
theorem dX1_look_56 : decode cX1_look 56 = .ok (.aload_n 0, 1) := by decide +kernel
theorem dX1_look_57 : decode cX1_look 57 = .ok (.getfield 37, 3) := by decide +kernel
theorem dX1_look_60 : decode cX1_look 60 = .ok (.ireturn, 1) := by decide +kernel
theorem dX1_look_61 : decode cX1_look 61 = .ok (.aload_n 0, 1) := by decide +kernel
theorem dX1_look_62 : decode cX1_look 62 = .ok (.getfield 40, 3) := by decide +kernel
theorem dX1_look_65 : decode cX1_look 65 = .ok (.ireturn, 1) := by decide +kernel
theorem dX1_look_66 : decode cX1_look 66 = .ok (.aload_n 0, 1) := by decide +kernel
theorem dX1_look_67 : decode cX1_look 67 = .ok (.getfield 43, 3) := by decide +kernel
theorem dX1_look_70 : decode cX1_look 70 = .ok (.ireturn, 1) := by decide +kernel
theorem dX1_look_71 : decode cX1_look 71 = .ok (.aload_n 0, 1) := by decide +kernel
theorem dX1_look_72 : decode cX1_look 72 = .ok (.getfield 46, 3) := by decide +kernel
theorem dX1_look_75 : decode cX1_look 75 = .ok (.ireturn, 1) := by decide +kernel
theorem dX1_look_76 : decode cX1_look 76 = .ok (.aload_n 0, 1) := by decide +kernel
theorem dX1_look_77 : decode cX1_look 77 = .ok (.getfield 22, 3) := by decide +kernel
theorem dX1_look_80 : decode cX1_look 80 = .ok (.ireturn, 1) := by decide +kernel
theorem dX1_look_81 : decode cX1_look 81 = .ok (.aload_n 0, 1) := by decide +kernel
theorem dX1_look_82 : decode cX1_look 82 = .ok (.getfield 49, 3) := by decide +kernel
theorem dX1_look_85 : decode cX1_look 85 = .ok (.ireturn, 1) := by decide +kernel
theorem dX1_look_86 : decode cX1_look 86 = .ok (.aload_n 0, 1) := by decide +kernel
theorem dX1_look_87 : decode cX1_look 87 = .ok (.getfield 52, 3) := by decide +kernel
theorem dX1_look_90 : decode cX1_look 90 = .ok (.ireturn, 1) := by decide +kernel
theorem dX1_look_91 : decode cX1_look 91 = .ok (.aload_n 0, 1) := by decide +kernel
theorem dX1_look_92 : decode cX1_look 92 = .ok (.getfield 55, 3) := by decide +kernel
theorem dX1_look_95 : decode cX1_look 95 = .ok (.ireturn, 1) := by decide +kernel
theorem dX1_look_96 : decode cX1_look 96 = .ok (.aload_n 0, 1) := by decide +kernel
theorem dX1_look_97 : decode cX1_look 97 = .ok (.getfield 58, 3) := by decide +kernel
theorem dX1_look_100 : decode cX1_look 100 = .ok (.ifCond .eq 7, 3) := by decide +kernel
theorem dX1_look_103 : decode cX1_look 103 = .ok (.iconst 1, 1) := by decide +kernel
theorem dX1_look_104 : decode cX1_look 104 = .ok (.goto 4, 3) := by decide +kernel
theorem dX1_look_107 : decode cX1_look 107 = .ok (.iconst 0, 1) := by decide +kernel
theorem dX1_look_108 : decode cX1_look 108 = .ok (.ireturn, 1) := by decide +kernel
theorem dX1_look_109 : decode cX1_look 109 = .ok (.aload_n 0, 1) := by decide +kernel
theorem dX1_look_110 : decode cX1_look 110 = .ok (.getfield 26, 3) := by decide +kernel
theorem dX1_look_113 : decode cX1_look 113 = .ok (.ireturn, 1) := by decide +kernel
theorem dX1_look_114 : decode cX1_look 114 = .ok (.aload_n 0, 1) := by decide +kernel
theorem dX1_look_115 : decode cX1_look 115 = .ok (.iload_n 1, 1) := by decide +kernel
theorem dX1_look_116 : decode cX1_look 116 = .ok (.invokevirtual 62, 3) := by decide +kernel
theorem dX1_look_119 : decode cX1_look 119 = .ok (.ireturn, 1) := by decide +kernel
set_option maxRecDepth 20000 in
theorem dX1_lookStar_0 : decode cX1_lookStar 0 = .ok (.iload_n 1, 1) := by decide +kernel
theorem dX1_lookStar_1 : decode cX1_lookStar 1 = .ok (.bipush 10, 2) := by decide +kernel
theorem dX1_lookStar_3 : decode cX1_lookStar 3 = .ok (.if_icmp .lt 26, 3) := by decide +kernel
theorem dX1_lookStar_6 : decode cX1_lookStar 6 = .ok (.iload_n 1, 1) := by decide +kernel
theorem dX1_lookStar_7 : decode cX1_lookStar 7 = .ok (.bipush 10, 2) := by decide +kernel
theorem dX1_lookStar_9 : decode cX1_lookStar 9 = .ok (.aload_n 0, 1) := by decide +kernel
theorem dX1_lookStar_10 : decode cX1_lookStar 10 = .ok (.getfield 26, 3) := by decide +kernel
theorem dX1_lookStar_13 : decode cX1_lookStar 13 = .ok (.iadd, 1) := by decide +kernel
theorem dX1_lookStar_14 : decode cX1_lookStar 14 = .ok (.if_icmp .ge 15, 3) := by decide +kernel
theorem dX1_lookStar_17 : decode cX1_lookStar 17 = .ok (.aload_n 0, 1) := by decide +kernel
theorem dX1_lookStar_18 : decode cX1_lookStar 18 = .ok (.getfield 9, 3) := by decide +kernel
theorem dX1_lookStar_21 : decode cX1_lookStar 21 = .ok (.iload_n 1, 1) := by decide +kernel
theorem dX1_lookStar_22 : decode cX1_lookStar 22 = .ok (.bipush 10, 2) := by decide +kernel
theorem dX1_lookStar_24 : decode cX1_lookStar 24 = .ok (.isub, 1) := by decide +kernel
theorem dX1_lookStar_25 : decode cX1_lookStar 25 = .ok (.invokestatic 65, 3) := by decide +kernel
theorem dX1_lookStar_28 : decode cX1_lookStar 28 = .ok (.ireturn, 1) := by decide +kernel
theorem dX1_lookStar_29 : decode cX1_lookStar 29 = .ok (.iload_n 1, 1) := by decide +kernel
theorem dX1_lookStar_30 : decode cX1_lookStar 30 = .ok (.bipush 20, 2) := by decide +kernel
theorem dX1_lookStar_32 : decode cX1_lookStar 32 = .ok (.if_icmp .lt 28, 3) := by decide +kernel
theorem dX1_lookStar_35 : decode cX1_lookStar 35 = .ok (.iload_n 1, 1) := by decide +kernel
theorem dX1_lookStar_36 : decode cX1_lookStar 36 = .ok (.bipush 20, 2) := by decide +kernel
theorem dX1_lookStar_38 : decode cX1_lookStar 38 = .ok (.aload_n 0, 1) := by decide +kernel
theorem dX1_lookStar_39 : decode cX1_lookStar 39 = .ok (.getfield 26, 3) := by decide +kernel
theorem dX1_lookStar_42 : decode cX1_lookStar 42 = .ok (.iadd, 1) := by decide +kernel
theorem dX1_lookStar_43 : decode cX1_lookStar 43 = .ok (.if_icmp .ge 17, 3) := by decide +kernel
theorem dX1_lookStar_46 : decode cX1_lookStar 46 = .ok (.aload_n 0, 1) := by decide +kernel
theorem dX1_lookStar_47 : decode cX1_lookStar 47 = .ok (.getfield 15, 3) := by decide +kernel
theorem dX1_lookStar_50 : decode cX1_lookStar 50 = .ok (.iload_n 1, 1) := by decide +kernel
theorem dX1_lookStar_51 : decode cX1_lookStar 51 = .ok (.bipush 20, 2) := by decide +kernel
theorem dX1_lookStar_53 : decode cX1_lookStar 53 = .ok (.isub, 1) := by decide +kernel
theorem dX1_lookStar_54 : decode cX1_lookStar 54 = .ok (.invokestatic 65, 3) := by decide +kernel
theorem dX1_lookStar_57 : decode cX1_lookStar 57 = .ok (.goto 4, 3) := by decide +kernel
theorem dX1_lookStar_60 : decode cX1_lookStar 60 = .ok (.iconst (-1), 1) := by decide +kernel
theorem dX1_lookStar_61 : decode cX1_lookStar 61 = .ok (.ireturn, 1) := by decide +kernel
set_option maxRecDepth 20000 in
theorem dX1_addStar_0 : decode cX1_addStar 0 = .ok (.aload_n 0, 1) := by decide +kernel
theorem dX1_addStar_1 : decode cX1_addStar 1 = .ok (.getfield 26, 3) := by decide +kernel
theorem dX1_addStar_4 : decode cX1_addStar 4 = .ok (.iconst 4, 1) := by decide +kernel
theorem dX1_addStar_5 : decode cX1_addStar 5 = .ok (.if_icmp .lt 5, 3) := by decide +kernel
theorem dX1_addStar_8 : decode cX1_addStar 8 = .ok (.iconst 0, 1) := by decide +kernel
theorem dX1_addStar_9 : decode cX1_addStar 9 = .ok (.ireturn, 1) := by decide +kernel
theorem dX1_addStar_10 : decode cX1_addStar 10 = .ok (.aload_n 0, 1) := by decide +kernel
theorem dX1_addStar_11 : decode cX1_addStar 11 = .ok (.getfield 9, 3) := by decide +kernel
theorem dX1_addStar_14 : decode cX1_addStar 14 = .ok (.aload_n 0, 1) := by decide +kernel
theorem dX1_addStar_15 : decode cX1_addStar 15 = .ok (.getfield 26, 3) := by decide +kernel
theorem dX1_addStar_18 : decode cX1_addStar 18 = .ok (.iload_n 1, 1) := by decide +kernel
theorem dX1_addStar_19 : decode cX1_addStar 19 = .ok (.invokestatic 69, 3) := by decide +kernel
theorem dX1_addStar_22 : decode cX1_addStar 22 = .ok (.aload_n 0, 1) := by decide +kernel
theorem dX1_addStar_23 : decode cX1_addStar 23 = .ok (.getfield 15, 3) := by decide +kernel
theorem dX1_addStar_26 : decode cX1_addStar 26 = .ok (.aload_n 0, 1) := by decide +kernel
theorem dX1_addStar_27 : decode cX1_addStar 27 = .ok (.getfield 26, 3) := by decide +kernel
theorem dX1_addStar_30 : decode cX1_addStar 30 = .ok (.iload_n 2, 1) := by decide +kernel
theorem dX1_addStar_31 : decode cX1_addStar 31 = .ok (.invokestatic 69, 3) := by decide +kernel
theorem dX1_addStar_34 : decode cX1_addStar 34 = .ok (.aload_n 0, 1) := by decide +kernel
theorem dX1_addStar_35 : decode cX1_addStar 35 = .ok (.dup, 1) := by decide +kernel
theorem dX1_addStar_36 : decode cX1_addStar 36 = .ok (.getfield 26, 3) := by decide +kernel
theorem dX1_addStar_39 : decode cX1_addStar 39 = .ok (.iconst 1, 1) := by decide +kernel
theorem dX1_addStar_40 : decode cX1_addStar 40 = .ok (.iadd, 1) := by decide +kernel
theorem dX1_addStar_41 : decode cX1_addStar 41 = .ok (.putfield 26, 3) := by decide +kernel
theorem dX1_addStar_44 : decode cX1_addStar 44 = .ok (.iconst 1, 1) := by decide +kernel
theorem dX1_addStar_45 : decode cX1_addStar 45 = .ok (.ireturn, 1) := by decide +kernel
set_option maxRecDepth 20000 in
theorem dX1_hasStarAt_0 : decode cX1_hasStarAt 0 = .ok (.iconst 0, 1) := by decide +kernel
theorem dX1_hasStarAt_1 : decode cX1_hasStarAt 1 = .ok (.istore_n 2, 1) := by decide +kernel
theorem dX1_hasStarAt_2 : decode cX1_hasStarAt 2 = .ok (.iload_n 2, 1) := by decide +kernel
theorem dX1_hasStarAt_3 : decode cX1_hasStarAt 3 = .ok (.aload_n 0, 1) := by decide +kernel
theorem dX1_hasStarAt_4 : decode cX1_hasStarAt 4 = .ok (.getfield 26, 3) := by decide +kernel
theorem dX1_hasStarAt_7 : decode cX1_hasStarAt 7 = .ok (.if_icmp .ge 35, 3) := by decide +kernel
theorem dX1_hasStarAt_10 : decode cX1_hasStarAt 10 = .ok (.iload_n 1, 1) := by decide +kernel
theorem dX1_hasStarAt_11 : decode cX1_hasStarAt 11 = .ok (.aload_n 0, 1) := by decide +kernel
theorem dX1_hasStarAt_12 : decode cX1_hasStarAt 12 = .ok (.getfield 9, 3) := by decide +kernel
theorem dX1_hasStarAt_15 : decode cX1_hasStarAt 15 = .ok (.iload_n 2, 1) := by decide +kernel
theorem dX1_hasStarAt_16 : decode cX1_hasStarAt 16 = .ok (.invokestatic 65, 3) := by decide +kernel
theorem dX1_hasStarAt_19 : decode cX1_hasStarAt 19 = .ok (.if_icmp .lt 17, 3) := by decide +kernel
theorem dX1_hasStarAt_22 : decode cX1_hasStarAt 22 = .ok (.iload_n 1, 1) := by decide +kernel
theorem dX1_hasStarAt_23 : decode cX1_hasStarAt 23 = .ok (.aload_n 0, 1) := by decide +kernel
theorem dX1_hasStarAt_24 : decode cX1_hasStarAt 24 = .ok (.getfield 15, 3) := by decide +kernel
theorem dX1_hasStarAt_27 : decode cX1_hasStarAt 27 = .ok (.iload_n 2, 1) := by decide +kernel
theorem dX1_hasStarAt_28 : decode cX1_hasStarAt 28 = .ok (.invokestatic 65, 3) := by decide +kernel
theorem dX1_hasStarAt_31 : decode cX1_hasStarAt 31 = .ok (.if_icmp .gt 5, 3) := by decide +kernel
theorem dX1_hasStarAt_34 : decode cX1_hasStarAt 34 = .ok (.iconst 1, 1) := by decide +kernel
theorem dX1_hasStarAt_35 : decode cX1_hasStarAt 35 = .ok (.ireturn, 1) := by decide +kernel
theorem dX1_hasStarAt_36 : decode cX1_hasStarAt 36 = .ok (.iinc 2 1, 3) := by decide +kernel
theorem dX1_hasStarAt_39 : decode cX1_hasStarAt 39 = .ok (.goto (-37), 3) := by decide +kernel
theorem dX1_hasStarAt_42 : decode cX1_hasStarAt 42 = .ok (.iconst 0, 1) := by decide +kernel
theorem dX1_hasStarAt_43 : decode cX1_hasStarAt 43 = .ok (.ireturn, 1) := by decide +kernel
theorem dX1_slowBy_0 : decode cX1_slowBy 0 = .ok (.aload_n 0, 1) := by decide +kernel
theorem dX1_slowBy_1 : decode cX1_slowBy 1 = .ok (.getfield 52, 3) := by decide +kernel
theorem dX1_slowBy_4 : decode cX1_slowBy 4 = .ok (.ifCond .le 16, 3) := by decide +kernel
theorem dX1_slowBy_7 : decode cX1_slowBy 7 = .ok (.iconst 5, 1) := by decide +kernel
theorem dX1_slowBy_8 : decode cX1_slowBy 8 = .ok (.iload_n 1, 1) := by decide +kernel
theorem dX1_slowBy_9 : decode cX1_slowBy 9 = .ok (.aload_n 0, 1) := by decide +kernel
theorem dX1_slowBy_10 : decode cX1_slowBy 10 = .ok (.getfield 52, 3) := by decide +kernel
theorem dX1_slowBy_13 : decode cX1_slowBy 13 = .ok (.idiv, 1) := by decide +kernel
theorem dX1_slowBy_14 : decode cX1_slowBy 14 = .ok (.invokestatic 73, 3) := by decide +kernel
theorem dX1_slowBy_17 : decode cX1_slowBy 17 = .ok (.goto 4, 3) := by decide +kernel
theorem dX1_slowBy_20 : decode cX1_slowBy 20 = .ok (.iconst 0, 1) := by decide +kernel
theorem dX1_slowBy_21 : decode cX1_slowBy 21 = .ok (.ireturn, 1) := by decide +kernel
theorem dX1_pointed_0 : decode cX1_pointed 0 = .ok (.aload_n 0, 1) := by decide +kernel
theorem dX1_pointed_1 : decode cX1_pointed 1 = .ok (.getfield 22, 3) := by decide +kernel
theorem dX1_pointed_4 : decode cX1_pointed 4 = .ok (.ifCond .le 14, 3) := by decide +kernel
theorem dX1_pointed_7 : decode cX1_pointed 7 = .ok (.iload_n 1, 1) := by decide +kernel
theorem dX1_pointed_8 : decode cX1_pointed 8 = .ok (.iload_n 1, 1) := by decide +kernel
theorem dX1_pointed_9 : decode cX1_pointed 9 = .ok (.aload_n 0, 1) := by decide +kernel
theorem dX1_pointed_10 : decode cX1_pointed 10 = .ok (.getfield 22, 3) := by decide +kernel
theorem dX1_pointed_13 : decode cX1_pointed 13 = .ok (.irem, 1) := by decide +kernel
theorem dX1_pointed_14 : decode cX1_pointed 14 = .ok (.isub, 1) := by decide +kernel
theorem dX1_pointed_15 : decode cX1_pointed 15 = .ok (.goto 4, 3) := by decide +kernel
theorem dX1_pointed_18 : decode cX1_pointed 18 = .ok (.iload_n 1, 1) := by decide +kernel
theorem dX1_pointed_19 : decode cX1_pointed 19 = .ok (.ireturn, 1) := by decide +kernel
theorem dX1_ruled_0 : decode cX1_ruled 0 = .ok (.iload_n 1, 1) := by decide +kernel
theorem dX1_ruled_1 : decode cX1_ruled 1 = .ok (.aload_n 0, 1) := by decide +kernel
theorem dX1_ruled_2 : decode cX1_ruled 2 = .ok (.getfield 46, 3) := by decide +kernel
theorem dX1_ruled_5 : decode cX1_ruled 5 = .ok (.ineg, 1) := by decide +kernel
theorem dX1_ruled_6 : decode cX1_ruled 6 = .ok (.if_icmp .lt 13, 3) := by decide +kernel
theorem dX1_ruled_9 : decode cX1_ruled 9 = .ok (.iload_n 1, 1) := by decide +kernel
theorem dX1_ruled_10 : decode cX1_ruled 10 = .ok (.aload_n 0, 1) := by decide +kernel
theorem dX1_ruled_11 : decode cX1_ruled 11 = .ok (.getfield 46, 3) := by decide +kernel
theorem dX1_ruled_14 : decode cX1_ruled 14 = .ok (.if_icmp .gt 5, 3) := by decide +kernel
theorem dX1_ruled_17 : decode cX1_ruled 17 = .ok (.iconst 0, 1) := by decide +kernel
theorem dX1_ruled_18 : decode cX1_ruled 18 = .ok (.ireturn, 1) := by decide +kernel
theorem dX1_ruled_19 : decode cX1_ruled 19 = .ok (.iload_n 2, 1) := by decide +kernel
theorem dX1_ruled_20 : decode cX1_ruled 20 = .ok (.ifCond .le 7, 3) := by decide +kernel
theorem dX1_ruled_23 : decode cX1_ruled 23 = .ok (.iload_n 1, 1) := by decide +kernel
theorem dX1_ruled_24 : decode cX1_ruled 24 = .ok (.ifCond .lt 11, 3) := by decide +kernel
theorem dX1_ruled_27 : decode cX1_ruled 27 = .ok (.iload_n 2, 1) := by decide +kernel
theorem dX1_ruled_28 : decode cX1_ruled 28 = .ok (.ifCond .ge 11, 3) := by decide +kernel
theorem dX1_ruled_31 : decode cX1_ruled 31 = .ok (.iload_n 1, 1) := by decide +kernel
theorem dX1_ruled_32 : decode cX1_ruled 32 = .ok (.ifCond .le 7, 3) := by decide +kernel
theorem dX1_ruled_35 : decode cX1_ruled 35 = .ok (.iconst 1, 1) := by decide +kernel
theorem dX1_ruled_36 : decode cX1_ruled 36 = .ok (.goto 4, 3) := by decide +kernel
theorem dX1_ruled_39 : decode cX1_ruled 39 = .ok (.iconst 0, 1) := by decide +kernel
theorem dX1_ruled_40 : decode cX1_ruled 40 = .ok (.istore 4, 2) := by decide +kernel
theorem dX1_ruled_42 : decode cX1_ruled 42 = .ok (.aload_n 0, 1) := by decide +kernel
theorem dX1_ruled_43 : decode cX1_ruled 43 = .ok (.getfield 58, 3) := by decide +kernel
theorem dX1_ruled_46 : decode cX1_ruled 46 = .ok (.ifCond .eq 10, 3) := by decide +kernel
theorem dX1_ruled_49 : decode cX1_ruled 49 = .ok (.iload 4, 2) := by decide +kernel
theorem dX1_ruled_51 : decode cX1_ruled 51 = .ok (.ifCond .eq 5, 3) := by decide +kernel
theorem dX1_ruled_54 : decode cX1_ruled 54 = .ok (.iconst 0, 1) := by decide +kernel
theorem dX1_ruled_55 : decode cX1_ruled 55 = .ok (.ireturn, 1) := by decide +kernel
theorem dX1_ruled_56 : decode cX1_ruled 56 = .ok (.aload_n 0, 1) := by decide +kernel
theorem dX1_ruled_57 : decode cX1_ruled 57 = .ok (.getfield 37, 3) := by decide +kernel
theorem dX1_ruled_60 : decode cX1_ruled 60 = .ok (.ineg, 1) := by decide +kernel
theorem dX1_ruled_61 : decode cX1_ruled 61 = .ok (.iload_n 1, 1) := by decide +kernel
theorem dX1_ruled_62 : decode cX1_ruled 62 = .ok (.imul, 1) := by decide +kernel
theorem dX1_ruled_63 : decode cX1_ruled 63 = .ok (.aload_n 0, 1) := by decide +kernel
theorem dX1_ruled_64 : decode cX1_ruled 64 = .ok (.getfield 40, 3) := by decide +kernel
theorem dX1_ruled_67 : decode cX1_ruled 67 = .ok (.iload_n 2, 1) := by decide +kernel
theorem dX1_ruled_68 : decode cX1_ruled 68 = .ok (.imul, 1) := by decide +kernel
theorem dX1_ruled_69 : decode cX1_ruled 69 = .ok (.isub, 1) := by decide +kernel
theorem dX1_ruled_70 : decode cX1_ruled 70 = .ok (.aload_n 0, 1) := by decide +kernel
theorem dX1_ruled_71 : decode cX1_ruled 71 = .ok (.getfield 43, 3) := by decide +kernel
theorem dX1_ruled_74 : decode cX1_ruled 74 = .ok (.iload_n 3, 1) := by decide +kernel
theorem dX1_ruled_75 : decode cX1_ruled 75 = .ok (.imul, 1) := by decide +kernel
theorem dX1_ruled_76 : decode cX1_ruled 76 = .ok (.bipush 100, 2) := by decide +kernel
theorem dX1_ruled_78 : decode cX1_ruled 78 = .ok (.idiv, 1) := by decide +kernel
theorem dX1_ruled_79 : decode cX1_ruled 79 = .ok (.isub, 1) := by decide +kernel
theorem dX1_ruled_80 : decode cX1_ruled 80 = .ok (.bipush 100, 2) := by decide +kernel
theorem dX1_ruled_82 : decode cX1_ruled 82 = .ok (.idiv, 1) := by decide +kernel
theorem dX1_ruled_83 : decode cX1_ruled 83 = .ok (.ireturn, 1) := by decide +kernel
theorem dX2_init_0 : decode cX2_init 0 = .ok (.aload_n 0, 1) := by decide +kernel
theorem dX2_init_1 : decode cX2_init 1 = .ok (.invokespecial 1, 3) := by decide +kernel
theorem dX2_init_4 : decode cX2_init 4 = .ok (.return_, 1) := by decide +kernel
theorem dX2_relieve_0 : decode cX2_relieve 0 = .ok (.aload_n 0, 1) := by decide +kernel
theorem dX2_relieve_1 : decode cX2_relieve 1 = .ok (.aload_n 1, 1) := by decide +kernel
theorem dX2_relieve_2 : decode cX2_relieve 2 = .ok (.putfield 7, 3) := by decide +kernel
theorem dX2_relieve_5 : decode cX2_relieve 5 = .ok (.aload_n 0, 1) := by decide +kernel
theorem dX2_relieve_6 : decode cX2_relieve 6 = .ok (.iconst 0, 1) := by decide +kernel
theorem dX2_relieve_7 : decode cX2_relieve 7 = .ok (.putfield 13, 3) := by decide +kernel
theorem dX2_relieve_10 : decode cX2_relieve 10 = .ok (.aload_n 0, 1) := by decide +kernel
theorem dX2_relieve_11 : decode cX2_relieve 11 = .ok (.iconst 0, 1) := by decide +kernel
theorem dX2_relieve_12 : decode cX2_relieve 12 = .ok (.putfield 17, 3) := by decide +kernel
theorem dX2_relieve_15 : decode cX2_relieve 15 = .ok (.aload_n 0, 1) := by decide +kernel
theorem dX2_relieve_16 : decode cX2_relieve 16 = .ok (.iconst 0, 1) := by decide +kernel
theorem dX2_relieve_17 : decode cX2_relieve 17 = .ok (.putfield 20, 3) := by decide +kernel
theorem dX2_relieve_20 : decode cX2_relieve 20 = .ok (.return_, 1) := by decide +kernel
set_option maxRecDepth 20000 in
theorem dX2_wants_0 : decode cX2_wants 0 = .ok (.aload_n 0, 1) := by decide +kernel
theorem dX2_wants_1 : decode cX2_wants 1 = .ok (.getfield 7, 3) := by decide +kernel
theorem dX2_wants_4 : decode cX2_wants 4 = .ok (.ifnull 14, 3) := by decide +kernel
theorem dX2_wants_7 : decode cX2_wants 7 = .ok (.aload_n 1, 1) := by decide +kernel
theorem dX2_wants_8 : decode cX2_wants 8 = .ok (.ifnull 10, 3) := by decide +kernel
theorem dX2_wants_11 : decode cX2_wants 11 = .ok (.aload_n 1, 1) := by decide +kernel
theorem dX2_wants_12 : decode cX2_wants 12 = .ok (.getfield 23, 3) := by decide +kernel
theorem dX2_wants_15 : decode cX2_wants 15 = .ok (.ifnonnull 5, 3) := by decide +kernel
theorem dX2_wants_18 : decode cX2_wants 18 = .ok (.iconst 0, 1) := by decide +kernel
theorem dX2_wants_19 : decode cX2_wants 19 = .ok (.ireturn, 1) := by decide +kernel
theorem dX2_wants_20 : decode cX2_wants 20 = .ok (.aload_n 0, 1) := by decide +kernel
theorem dX2_wants_21 : decode cX2_wants 21 = .ok (.dup, 1) := by decide +kernel
theorem dX2_wants_22 : decode cX2_wants 22 = .ok (.getfield 13, 3) := by decide +kernel
theorem dX2_wants_25 : decode cX2_wants 25 = .ok (.iconst 1, 1) := by decide +kernel
theorem dX2_wants_26 : decode cX2_wants 26 = .ok (.iadd, 1) := by decide +kernel
theorem dX2_wants_27 : decode cX2_wants 27 = .ok (.putfield 13, 3) := by decide +kernel
theorem dX2_wants_30 : decode cX2_wants 30 = .ok (.aload_n 0, 1) := by decide +kernel
theorem dX2_wants_31 : decode cX2_wants 31 = .ok (.getfield 7, 3) := by decide +kernel
theorem dX2_wants_34 : decode cX2_wants 34 = .ok (.aload_n 0, 1) := by decide +kernel
theorem dX2_wants_35 : decode cX2_wants 35 = .ok (.getfield 13, 3) := by decide +kernel
theorem dX2_wants_38 : decode cX2_wants 38 = .ok (.invokevirtual 29, 3) := by decide +kernel
theorem dX2_wants_41 : decode cX2_wants 41 = .ok (.ifCond .eq 7, 3) := by decide +kernel
theorem dX2_wants_44 : decode cX2_wants 44 = .ok (.iconst 0, 1) := by decide +kernel
theorem dX2_wants_45 : decode cX2_wants 45 = .ok (.goto 22, 3) := by decide +kernel
theorem dX2_wants_48 : decode cX2_wants 48 = .ok (.aload_n 1, 1) := by decide +kernel
theorem dX2_wants_49 : decode cX2_wants 49 = .ok (.getfield 23, 3) := by decide +kernel
theorem dX2_wants_52 : decode cX2_wants 52 = .ok (.getfield 35, 3) := by decide +kernel
theorem dX2_wants_55 : decode cX2_wants 55 = .ok (.aload_n 0, 1) := by decide +kernel
theorem dX2_wants_56 : decode cX2_wants 56 = .ok (.getfield 7, 3) := by decide +kernel
theorem dX2_wants_59 : decode cX2_wants 59 = .ok (.aload_n 0, 1) := by decide +kernel
theorem dX2_wants_60 : decode cX2_wants 60 = .ok (.getfield 13, 3) := by decide +kernel
theorem dX2_wants_63 : decode cX2_wants 63 = .ok (.invokevirtual 40, 3) := by decide +kernel
theorem dX2_wants_66 : decode cX2_wants 66 = .ok (.iadd, 1) := by decide +kernel
theorem dX2_wants_67 : decode cX2_wants 67 = .ok (.istore_n 2, 1) := by decide +kernel
theorem dX2_wants_68 : decode cX2_wants 68 = .ok (.aload_n 0, 1) := by decide +kernel
theorem dX2_wants_69 : decode cX2_wants 69 = .ok (.getfield 7, 3) := by decide +kernel
theorem dX2_wants_72 : decode cX2_wants 72 = .ok (.aload_n 1, 1) := by decide +kernel
theorem dX2_wants_73 : decode cX2_wants 73 = .ok (.iload_n 2, 1) := by decide +kernel
theorem dX2_wants_74 : decode cX2_wants 74 = .ok (.invokevirtual 44, 3) := by decide +kernel
theorem dX2_wants_77 : decode cX2_wants 77 = .ok (.invokevirtual 47, 3) := by decide +kernel
theorem dX2_wants_80 : decode cX2_wants 80 = .ok (.istore_n 3, 1) := by decide +kernel
theorem dX2_wants_81 : decode cX2_wants 81 = .ok (.aload_n 0, 1) := by decide +kernel
theorem dX2_wants_82 : decode cX2_wants 82 = .ok (.getfield 13, 3) := by decide +kernel
theorem dX2_wants_85 : decode cX2_wants 85 = .ok (.iconst 1, 1) := by decide +kernel
theorem dX2_wants_86 : decode cX2_wants 86 = .ok (.if_icmp .ne 7, 3) := by decide +kernel
theorem dX2_wants_89 : decode cX2_wants 89 = .ok (.iconst 0, 1) := by decide +kernel
theorem dX2_wants_90 : decode cX2_wants 90 = .ok (.goto 9, 3) := by decide +kernel
theorem dX2_wants_93 : decode cX2_wants 93 = .ok (.iload_n 3, 1) := by decide +kernel
theorem dX2_wants_94 : decode cX2_wants 94 = .ok (.aload_n 0, 1) := by decide +kernel
theorem dX2_wants_95 : decode cX2_wants 95 = .ok (.getfield 20, 3) := by decide +kernel
theorem dX2_wants_98 : decode cX2_wants 98 = .ok (.isub, 1) := by decide +kernel
theorem dX2_wants_99 : decode cX2_wants 99 = .ok (.istore 4, 2) := by decide +kernel
theorem dX2_wants_101 : decode cX2_wants 101 = .ok (.aload_n 0, 1) := by decide +kernel
theorem dX2_wants_102 : decode cX2_wants 102 = .ok (.aload_n 0, 1) := by decide +kernel
theorem dX2_wants_103 : decode cX2_wants 103 = .ok (.getfield 17, 3) := by decide +kernel
theorem dX2_wants_106 : decode cX2_wants 106 = .ok (.iload_n 3, 1) := by decide +kernel
theorem dX2_wants_107 : decode cX2_wants 107 = .ok (.iadd, 1) := by decide +kernel
theorem dX2_wants_108 : decode cX2_wants 108 = .ok (.sipush 9999, 3) := by decide +kernel
theorem dX2_wants_111 : decode cX2_wants 111 = .ok (.invokestatic 50, 3) := by decide +kernel
theorem dX2_wants_114 : decode cX2_wants 114 = .ok (.putfield 17, 3) := by decide +kernel
theorem dX2_wants_117 : decode cX2_wants 117 = .ok (.aload_n 0, 1) := by decide +kernel
theorem dX2_wants_118 : decode cX2_wants 118 = .ok (.iload_n 3, 1) := by decide +kernel
theorem dX2_wants_119 : decode cX2_wants 119 = .ok (.putfield 20, 3) := by decide +kernel
theorem dX2_wants_122 : decode cX2_wants 122 = .ok (.aload_n 0, 1) := by decide +kernel
theorem dX2_wants_123 : decode cX2_wants 123 = .ok (.getfield 7, 3) := by decide +kernel
theorem dX2_wants_126 : decode cX2_wants 126 = .ok (.iload_n 3, 1) := by decide +kernel
theorem dX2_wants_127 : decode cX2_wants 127 = .ok (.iload 4, 2) := by decide +kernel
theorem dX2_wants_129 : decode cX2_wants 129 = .ok (.aload_n 0, 1) := by decide +kernel
theorem dX2_wants_130 : decode cX2_wants 130 = .ok (.getfield 17, 3) := by decide +kernel
theorem dX2_wants_133 : decode cX2_wants 133 = .ok (.invokevirtual 56, 3) := by decide +kernel
theorem dX2_wants_136 : decode cX2_wants 136 = .ok (.aload_n 1, 1) := by decide +kernel
theorem dX2_wants_137 : decode cX2_wants 137 = .ok (.getfield 23, 3) := by decide +kernel
theorem dX2_wants_140 : decode cX2_wants 140 = .ok (.getfield 60, 3) := by decide +kernel
theorem dX2_wants_143 : decode cX2_wants 143 = .ok (.invokestatic 50, 3) := by decide +kernel
theorem dX2_wants_146 : decode cX2_wants 146 = .ok (.istore 5, 2) := by decide +kernel
theorem dX2_wants_148 : decode cX2_wants 148 = .ok (.aload_n 0, 1) := by decide +kernel
theorem dX2_wants_149 : decode cX2_wants 149 = .ok (.getfield 13, 3) := by decide +kernel
theorem dX2_wants_152 : decode cX2_wants 152 = .ok (.aload_n 0, 1) := by decide +kernel
theorem dX2_wants_153 : decode cX2_wants 153 = .ok (.getfield 7, 3) := by decide +kernel
theorem dX2_wants_156 : decode cX2_wants 156 = .ok (.getfield 63, 3) := by decide +kernel
theorem dX2_wants_159 : decode cX2_wants 159 = .ok (.if_icmp .gt 8, 3) := by decide +kernel
theorem dX2_wants_162 : decode cX2_wants 162 = .ok (.iload 5, 2) := by decide +kernel
theorem dX2_wants_164 : decode cX2_wants 164 = .ok (.ineg, 1) := by decide +kernel
theorem dX2_wants_165 : decode cX2_wants 165 = .ok (.istore 5, 2) := by decide +kernel
theorem dX2_wants_167 : decode cX2_wants 167 = .ok (.aload_n 0, 1) := by decide +kernel
theorem dX2_wants_168 : decode cX2_wants 168 = .ok (.getfield 7, 3) := by decide +kernel
theorem dX2_wants_171 : decode cX2_wants 171 = .ok (.getfield 66, 3) := by decide +kernel
theorem dX2_wants_174 : decode cX2_wants 174 = .ok (.ifCond .le 22, 3) := by decide +kernel
theorem dX2_wants_177 : decode cX2_wants 177 = .ok (.aload_n 1, 1) := by decide +kernel
theorem dX2_wants_178 : decode cX2_wants 178 = .ok (.invokevirtual 69, 3) := by decide +kernel
theorem dX2_wants_181 : decode cX2_wants 181 = .ok (.aload_n 0, 1) := by decide +kernel
theorem dX2_wants_182 : decode cX2_wants 182 = .ok (.getfield 7, 3) := by decide +kernel
theorem dX2_wants_185 : decode cX2_wants 185 = .ok (.getfield 66, 3) := by decide +kernel
theorem dX2_wants_188 : decode cX2_wants 188 = .ok (.if_icmp .ge 8, 3) := by decide +kernel
theorem dX2_wants_191 : decode cX2_wants 191 = .ok (.aload_n 1, 1) := by decide +kernel
theorem dX2_wants_192 : decode cX2_wants 192 = .ok (.invokevirtual 73, 3) := by decide +kernel
theorem dX2_wants_195 : decode cX2_wants 195 = .ok (.ireturn, 1) := by decide +kernel
theorem dX2_wants_196 : decode cX2_wants 196 = .ok (.iload 5, 2) := by decide +kernel
theorem dX2_wants_198 : decode cX2_wants 198 = .ok (.ireturn, 1) := by decide +kernel
theorem dX3_init_0 : decode cX3_init 0 = .ok (.aload_n 0, 1) := by decide +kernel
theorem dX3_init_1 : decode cX3_init 1 = .ok (.invokespecial 3, 3) := by decide +kernel
theorem dX3_init_4 : decode cX3_init 4 = .ok (.aload_n 0, 1) := by decide +kernel
theorem dX3_init_5 : decode cX3_init 5 = .ok (.bipush 60, 2) := by decide +kernel
theorem dX3_init_7 : decode cX3_init 7 = .ok (.newarray .int, 2) := by decide +kernel
theorem dX3_init_9 : decode cX3_init 9 = .ok (.putfield 9, 3) := by decide +kernel
theorem dX3_init_12 : decode cX3_init 12 = .ok (.return_, 1) := by decide +kernel
theorem dX3_clear_0 : decode cX3_clear 0 = .ok (.aload_n 0, 1) := by decide +kernel
theorem dX3_clear_1 : decode cX3_clear 1 = .ok (.iconst 0, 1) := by decide +kernel
theorem dX3_clear_2 : decode cX3_clear 2 = .ok (.putfield 15, 3) := by decide +kernel
theorem dX3_clear_5 : decode cX3_clear 5 = .ok (.return_, 1) := by decide +kernel
set_option maxRecDepth 20000 in
theorem dX3_copy_0 : decode cX3_copy 0 = .ok (.aload_n 1, 1) := by decide +kernel
theorem dX3_copy_1 : decode cX3_copy 1 = .ok (.ifnull 22, 3) := by decide +kernel
theorem dX3_copy_4 : decode cX3_copy 4 = .ok (.aload_n 0, 1) := by decide +kernel
theorem dX3_copy_5 : decode cX3_copy 5 = .ok (.aload_n 1, 1) := by decide +kernel
theorem dX3_copy_6 : decode cX3_copy 6 = .ok (.getfield 15, 3) := by decide +kernel
theorem dX3_copy_9 : decode cX3_copy 9 = .ok (.putfield 15, 3) := by decide +kernel
theorem dX3_copy_12 : decode cX3_copy 12 = .ok (.aload_n 1, 1) := by decide +kernel
theorem dX3_copy_13 : decode cX3_copy 13 = .ok (.getfield 9, 3) := by decide +kernel
theorem dX3_copy_16 : decode cX3_copy 16 = .ok (.aload_n 0, 1) := by decide +kernel
theorem dX3_copy_17 : decode cX3_copy 17 = .ok (.getfield 9, 3) := by decide +kernel
theorem dX3_copy_20 : decode cX3_copy 20 = .ok (.invokestatic 19, 3) := by decide +kernel
theorem dX3_copy_23 : decode cX3_copy 23 = .ok (.return_, 1) := by decide +kernel
set_option maxRecDepth 20000 in
theorem dX3_addHeading_0 : decode cX3_addHeading 0 = .ok (.aload_n 0, 1) := by decide +kernel
theorem dX3_addHeading_1 : decode cX3_addHeading 1 = .ok (.getfield 15, 3) := by decide +kernel
theorem dX3_addHeading_4 : decode cX3_addHeading 4 = .ok (.bipush 60, 2) := by decide +kernel
theorem dX3_addHeading_6 : decode cX3_addHeading 6 = .ok (.if_icmp .lt 5, 3) := by decide +kernel
theorem dX3_addHeading_9 : decode cX3_addHeading 9 = .ok (.iconst 0, 1) := by decide +kernel
theorem dX3_addHeading_10 : decode cX3_addHeading 10 = .ok (.ireturn, 1) := by decide +kernel
theorem dX3_addHeading_11 : decode cX3_addHeading 11 = .ok (.aload_n 0, 1) := by decide +kernel
theorem dX3_addHeading_12 : decode cX3_addHeading 12 = .ok (.getfield 9, 3) := by decide +kernel
theorem dX3_addHeading_15 : decode cX3_addHeading 15 = .ok (.aload_n 0, 1) := by decide +kernel
theorem dX3_addHeading_16 : decode cX3_addHeading 16 = .ok (.getfield 15, 3) := by decide +kernel
theorem dX3_addHeading_19 : decode cX3_addHeading 19 = .ok (.iload_n 1, 1) := by decide +kernel
theorem dX3_addHeading_20 : decode cX3_addHeading 20 = .ok (.invokestatic 23, 3) := by decide +kernel
theorem dX3_addHeading_23 : decode cX3_addHeading 23 = .ok (.aload_n 0, 1) := by decide +kernel
theorem dX3_addHeading_24 : decode cX3_addHeading 24 = .ok (.dup, 1) := by decide +kernel
theorem dX3_addHeading_25 : decode cX3_addHeading 25 = .ok (.getfield 15, 3) := by decide +kernel
theorem dX3_addHeading_28 : decode cX3_addHeading 28 = .ok (.iconst 1, 1) := by decide +kernel
theorem dX3_addHeading_29 : decode cX3_addHeading 29 = .ok (.iadd, 1) := by decide +kernel
theorem dX3_addHeading_30 : decode cX3_addHeading 30 = .ok (.putfield 15, 3) := by decide +kernel
theorem dX3_addHeading_33 : decode cX3_addHeading 33 = .ok (.iconst 1, 1) := by decide +kernel
theorem dX3_addHeading_34 : decode cX3_addHeading 34 = .ok (.ireturn, 1) := by decide +kernel
set_option maxRecDepth 20000 in
theorem dX4_init_0 : decode cX4_init 0 = .ok (.aload_n 0, 1) := by decide +kernel
theorem dX4_init_1 : decode cX4_init 1 = .ok (.invokespecial 3, 3) := by decide +kernel
theorem dX4_init_4 : decode cX4_init 4 = .ok (.aload_n 0, 1) := by decide +kernel
theorem dX4_init_5 : decode cX4_init 5 = .ok (.new 9, 3) := by decide +kernel
theorem dX4_init_8 : decode cX4_init 8 = .ok (.dup, 1) := by decide +kernel
theorem dX4_init_9 : decode cX4_init 9 = .ok (.invokespecial 11, 3) := by decide +kernel
theorem dX4_init_12 : decode cX4_init 12 = .ok (.putfield 12, 3) := by decide +kernel
theorem dX4_init_15 : decode cX4_init 15 = .ok (.aload_n 0, 1) := by decide +kernel
theorem dX4_init_16 : decode cX4_init 16 = .ok (.new 18, 3) := by decide +kernel
theorem dX4_init_19 : decode cX4_init 19 = .ok (.dup, 1) := by decide +kernel
theorem dX4_init_20 : decode cX4_init 20 = .ok (.invokespecial 20, 3) := by decide +kernel
theorem dX4_init_23 : decode cX4_init 23 = .ok (.putfield 21, 3) := by decide +kernel
theorem dX4_init_26 : decode cX4_init 26 = .ok (.aload_n 0, 1) := by decide +kernel
theorem dX4_init_27 : decode cX4_init 27 = .ok (.new 25, 3) := by decide +kernel
theorem dX4_init_30 : decode cX4_init 30 = .ok (.dup, 1) := by decide +kernel
theorem dX4_init_31 : decode cX4_init 31 = .ok (.invokespecial 27, 3) := by decide +kernel
theorem dX4_init_34 : decode cX4_init 34 = .ok (.putfield 28, 3) := by decide +kernel
theorem dX4_init_37 : decode cX4_init 37 = .ok (.aload_n 0, 1) := by decide +kernel
theorem dX4_init_38 : decode cX4_init 38 = .ok (.new 32, 3) := by decide +kernel
theorem dX4_init_41 : decode cX4_init 41 = .ok (.dup, 1) := by decide +kernel
theorem dX4_init_42 : decode cX4_init 42 = .ok (.invokespecial 34, 3) := by decide +kernel
theorem dX4_init_45 : decode cX4_init 45 = .ok (.putfield 35, 3) := by decide +kernel
theorem dX4_init_48 : decode cX4_init 48 = .ok (.aload_n 0, 1) := by decide +kernel
theorem dX4_init_49 : decode cX4_init 49 = .ok (.new 39, 3) := by decide +kernel
theorem dX4_init_52 : decode cX4_init 52 = .ok (.dup, 1) := by decide +kernel
theorem dX4_init_53 : decode cX4_init 53 = .ok (.invokespecial 41, 3) := by decide +kernel
theorem dX4_init_56 : decode cX4_init 56 = .ok (.putfield 42, 3) := by decide +kernel
theorem dX4_init_59 : decode cX4_init 59 = .ok (.return_, 1) := by decide +kernel
set_option maxRecDepth 20000 in
theorem dX4_take_0 : decode cX4_take 0 = .ok (.aload_n 0, 1) := by decide +kernel
theorem dX4_take_1 : decode cX4_take 1 = .ok (.getfield 42, 3) := by decide +kernel
theorem dX4_take_4 : decode cX4_take 4 = .ok (.aload_n 2, 1) := by decide +kernel
theorem dX4_take_5 : decode cX4_take 5 = .ok (.invokevirtual 46, 3) := by decide +kernel
theorem dX4_take_8 : decode cX4_take 8 = .ok (.aload_n 0, 1) := by decide +kernel
theorem dX4_take_9 : decode cX4_take 9 = .ok (.iconst 0, 1) := by decide +kernel
theorem dX4_take_10 : decode cX4_take 10 = .ok (.putfield 50, 3) := by decide +kernel
theorem dX4_take_13 : decode cX4_take 13 = .ok (.aload_n 0, 1) := by decide +kernel
theorem dX4_take_14 : decode cX4_take 14 = .ok (.iconst (-1), 1) := by decide +kernel
theorem dX4_take_15 : decode cX4_take 15 = .ok (.putfield 54, 3) := by decide +kernel
theorem dX4_take_18 : decode cX4_take 18 = .ok (.aload_n 0, 1) := by decide +kernel
theorem dX4_take_19 : decode cX4_take 19 = .ok (.getfield 12, 3) := by decide +kernel
theorem dX4_take_22 : decode cX4_take 22 = .ok (.invokevirtual 57, 3) := by decide +kernel
theorem dX4_take_25 : decode cX4_take 25 = .ok (.aload_n 0, 1) := by decide +kernel
theorem dX4_take_26 : decode cX4_take 26 = .ok (.getfield 21, 3) := by decide +kernel
theorem dX4_take_29 : decode cX4_take 29 = .ok (.invokevirtual 60, 3) := by decide +kernel
theorem dX4_take_32 : decode cX4_take 32 = .ok (.aload_n 0, 1) := by decide +kernel
theorem dX4_take_33 : decode cX4_take 33 = .ok (.getfield 28, 3) := by decide +kernel
theorem dX4_take_36 : decode cX4_take 36 = .ok (.invokevirtual 61, 3) := by decide +kernel
theorem dX4_take_39 : decode cX4_take 39 = .ok (.aload_n 0, 1) := by decide +kernel
theorem dX4_take_40 : decode cX4_take 40 = .ok (.getfield 35, 3) := by decide +kernel
theorem dX4_take_43 : decode cX4_take 43 = .ok (.invokevirtual 62, 3) := by decide +kernel
theorem dX4_take_46 : decode cX4_take 46 = .ok (.aload_n 0, 1) := by decide +kernel
theorem dX4_take_47 : decode cX4_take 47 = .ok (.iconst 0, 1) := by decide +kernel
theorem dX4_take_48 : decode cX4_take 48 = .ok (.putfield 63, 3) := by decide +kernel
theorem dX4_take_51 : decode cX4_take 51 = .ok (.aload_n 0, 1) := by decide +kernel
theorem dX4_take_52 : decode cX4_take 52 = .ok (.invokevirtual 66, 3) := by decide +kernel
theorem dX4_take_55 : decode cX4_take 55 = .ok (.iconst 1, 1) := by decide +kernel
theorem dX4_take_56 : decode cX4_take 56 = .ok (.istore_n 3, 1) := by decide +kernel
theorem dX4_take_57 : decode cX4_take 57 = .ok (.iconst 0, 1) := by decide +kernel
theorem dX4_take_58 : decode cX4_take 58 = .ok (.istore 4, 2) := by decide +kernel
theorem dX4_take_60 : decode cX4_take 60 = .ok (.iload 4, 2) := by decide +kernel
theorem dX4_take_62 : decode cX4_take 62 = .ok (.sipush 600, 3) := by decide +kernel
theorem dX4_take_65 : decode cX4_take 65 = .ok (.if_icmp .gt 49, 3) := by decide +kernel
theorem dX4_take_68 : decode cX4_take 68 = .ok (.iload_n 3, 1) := by decide +kernel
theorem dX4_take_69 : decode cX4_take 69 = .ok (.ifCond .eq 45, 3) := by decide +kernel
theorem dX4_take_72 : decode cX4_take 72 = .ok (.aload_n 0, 1) := by decide +kernel
theorem dX4_take_73 : decode cX4_take 73 = .ok (.getfield 69, 3) := by decide +kernel
theorem dX4_take_76 : decode cX4_take 76 = .ok (.ifCond .eq 38, 3) := by decide +kernel
theorem dX4_take_79 : decode cX4_take 79 = .ok (.aload_n 0, 1) := by decide +kernel
theorem dX4_take_80 : decode cX4_take 80 = .ok (.getfield 69, 3) := by decide +kernel
theorem dX4_take_83 : decode cX4_take 83 = .ok (.iconst 1, 1) := by decide +kernel
theorem dX4_take_84 : decode cX4_take 84 = .ok (.if_icmp .ne 22, 3) := by decide +kernel
theorem dX4_take_87 : decode cX4_take 87 = .ok (.aload_n 0, 1) := by decide +kernel
theorem dX4_take_88 : decode cX4_take 88 = .ok (.iload_n 1, 1) := by decide +kernel
theorem dX4_take_89 : decode cX4_take 89 = .ok (.invokevirtual 72, 3) := by decide +kernel
theorem dX4_take_92 : decode cX4_take 92 = .ok (.ifCond .eq 14, 3) := by decide +kernel
theorem dX4_take_95 : decode cX4_take 95 = .ok (.aload_n 0, 1) := by decide +kernel
theorem dX4_take_96 : decode cX4_take 96 = .ok (.invokevirtual 76, 3) := by decide +kernel
theorem dX4_take_99 : decode cX4_take 99 = .ok (.ifCond .eq 7, 3) := by decide +kernel
theorem dX4_take_102 : decode cX4_take 102 = .ok (.iconst 1, 1) := by decide +kernel
theorem dX4_take_103 : decode cX4_take 103 = .ok (.goto 4, 3) := by decide +kernel
theorem dX4_take_106 : decode cX4_take 106 = .ok (.iconst 0, 1) := by decide +kernel
theorem dX4_take_107 : decode cX4_take 107 = .ok (.istore_n 3, 1) := by decide +kernel
theorem dX4_take_108 : decode cX4_take 108 = .ok (.iinc 4 1, 3) := by decide +kernel
theorem dX4_take_111 : decode cX4_take 111 = .ok (.goto (-51), 3) := by decide +kernel
theorem dX4_take_114 : decode cX4_take 114 = .ok (.iload_n 3, 1) := by decide +kernel
theorem dX4_take_115 : decode cX4_take 115 = .ok (.ifCond .ne 19, 3) := by decide +kernel
theorem dX4_take_118 : decode cX4_take 118 = .ok (.aload_n 0, 1) := by decide +kernel
theorem dX4_take_119 : decode cX4_take 119 = .ok (.iconst 1, 1) := by decide +kernel
theorem dX4_take_120 : decode cX4_take 120 = .ok (.putfield 50, 3) := by decide +kernel
theorem dX4_take_123 : decode cX4_take 123 = .ok (.aload_n 0, 1) := by decide +kernel
theorem dX4_take_124 : decode cX4_take 124 = .ok (.aload_n 0, 1) := by decide +kernel
theorem dX4_take_125 : decode cX4_take 125 = .ok (.getfield 80, 3) := by decide +kernel
theorem dX4_take_128 : decode cX4_take 128 = .ok (.putfield 54, 3) := by decide +kernel
theorem dX4_take_131 : decode cX4_take 131 = .ok (.goto 27, 3) := by decide +kernel
theorem dX4_take_134 : decode cX4_take 134 = .ok (.iload_n 1, 1) := by decide +kernel
theorem dX4_take_135 : decode cX4_take 135 = .ok (.iconst 2, 1) := by decide +kernel
theorem dX4_take_136 : decode cX4_take 136 = .ok (.if_icmp .ne 22, 3) := by decide +kernel
theorem dX4_take_139 : decode cX4_take 139 = .ok (.aload_n 0, 1) := by decide +kernel
theorem dX4_take_140 : decode cX4_take 140 = .ok (.getfield 28, 3) := by decide +kernel
theorem dX4_take_143 : decode cX4_take 143 = .ok (.getfield 83, 3) := by decide +kernel
theorem dX4_take_146 : decode cX4_take 146 = .ok (.ifCond .ne 12, 3) := by decide +kernel
theorem dX4_take_149 : decode cX4_take 149 = .ok (.aload_n 0, 1) := by decide +kernel
theorem dX4_take_150 : decode cX4_take 150 = .ok (.iconst 4, 1) := by decide +kernel
theorem dX4_take_151 : decode cX4_take 151 = .ok (.aload_n 0, 1) := by decide +kernel
theorem dX4_take_152 : decode cX4_take 152 = .ok (.getfield 80, 3) := by decide +kernel
theorem dX4_take_155 : decode cX4_take 155 = .ok (.invokevirtual 86, 3) := by decide +kernel
theorem dX4_take_158 : decode cX4_take 158 = .ok (.return_, 1) := by decide +kernel
theorem dX4_note_0 : decode cX4_note 0 = .ok (.iload_n 2, 1) := by decide +kernel
theorem dX4_note_1 : decode cX4_note 1 = .ok (.aload_n 0, 1) := by decide +kernel
theorem dX4_note_2 : decode cX4_note 2 = .ok (.getfield 54, 3) := by decide +kernel
theorem dX4_note_5 : decode cX4_note 5 = .ok (.if_icmp .lt 19, 3) := by decide +kernel
theorem dX4_note_8 : decode cX4_note 8 = .ok (.iload_n 2, 1) := by decide +kernel
theorem dX4_note_9 : decode cX4_note 9 = .ok (.aload_n 0, 1) := by decide +kernel
theorem dX4_note_10 : decode cX4_note 10 = .ok (.getfield 54, 3) := by decide +kernel
theorem dX4_note_13 : decode cX4_note 13 = .ok (.if_icmp .ne 15, 3) := by decide +kernel
theorem dX4_note_16 : decode cX4_note 16 = .ok (.iload_n 1, 1) := by decide +kernel
theorem dX4_note_17 : decode cX4_note 17 = .ok (.aload_n 0, 1) := by decide +kernel
theorem dX4_note_18 : decode cX4_note 18 = .ok (.getfield 50, 3) := by decide +kernel
theorem dX4_note_21 : decode cX4_note 21 = .ok (.if_icmp .ge 7, 3) := by decide +kernel
theorem dX4_note_24 : decode cX4_note 24 = .ok (.iconst 1, 1) := by decide +kernel
theorem dX4_note_25 : decode cX4_note 25 = .ok (.goto 4, 3) := by decide +kernel
theorem dX4_note_28 : decode cX4_note 28 = .ok (.iconst 0, 1) := by decide +kernel
theorem dX4_note_29 : decode cX4_note 29 = .ok (.istore_n 3, 1) := by decide +kernel
theorem dX4_note_30 : decode cX4_note 30 = .ok (.aload_n 0, 1) := by decide +kernel
theorem dX4_note_31 : decode cX4_note 31 = .ok (.getfield 50, 3) := by decide +kernel
theorem dX4_note_34 : decode cX4_note 34 = .ok (.ifCond .eq 7, 3) := by decide +kernel
theorem dX4_note_37 : decode cX4_note 37 = .ok (.iload_n 3, 1) := by decide +kernel
theorem dX4_note_38 : decode cX4_note 38 = .ok (.ifCond .eq 13, 3) := by decide +kernel
theorem dX4_note_41 : decode cX4_note 41 = .ok (.aload_n 0, 1) := by decide +kernel
theorem dX4_note_42 : decode cX4_note 42 = .ok (.iload_n 1, 1) := by decide +kernel
theorem dX4_note_43 : decode cX4_note 43 = .ok (.putfield 50, 3) := by decide +kernel
theorem dX4_note_46 : decode cX4_note 46 = .ok (.aload_n 0, 1) := by decide +kernel
theorem dX4_note_47 : decode cX4_note 47 = .ok (.iload_n 2, 1) := by decide +kernel
theorem dX4_note_48 : decode cX4_note 48 = .ok (.putfield 54, 3) := by decide +kernel
theorem dX4_note_51 : decode cX4_note 51 = .ok (.return_, 1) := by decide +kernel
set_option maxRecDepth 20000 in
theorem dX4_takeLine_0 : decode cX4_takeLine 0 = .ok (.iload_n 1, 1) := by decide +kernel
theorem dX4_takeLine_1 : decode cX4_takeLine 1 = .ok (.tableswitch 117 0 3 #[31, 52, 73, 95], 31) := by decide +kernel
theorem dX4_takeLine_32 : decode cX4_takeLine 32 = .ok (.aload_n 0, 1) := by decide +kernel
theorem dX4_takeLine_33 : decode cX4_takeLine 33 = .ok (.ldc 90, 2) := by decide +kernel
theorem dX4_takeLine_35 : decode cX4_takeLine 35 = .ok (.invokevirtual 92, 3) := by decide +kernel
theorem dX4_takeLine_38 : decode cX4_takeLine 38 = .ok (.ifCond .eq 10, 3) := by decide +kernel
theorem dX4_takeLine_41 : decode cX4_takeLine 41 = .ok (.aload_n 0, 1) := by decide +kernel
theorem dX4_takeLine_42 : decode cX4_takeLine 42 = .ok (.invokevirtual 96, 3) := by decide +kernel
theorem dX4_takeLine_45 : decode cX4_takeLine 45 = .ok (.goto 7, 3) := by decide +kernel
theorem dX4_takeLine_48 : decode cX4_takeLine 48 = .ok (.aload_n 0, 1) := by decide +kernel
theorem dX4_takeLine_49 : decode cX4_takeLine 49 = .ok (.invokevirtual 99, 3) := by decide +kernel
theorem dX4_takeLine_52 : decode cX4_takeLine 52 = .ok (.ireturn, 1) := by decide +kernel
theorem dX4_takeLine_53 : decode cX4_takeLine 53 = .ok (.aload_n 0, 1) := by decide +kernel
theorem dX4_takeLine_54 : decode cX4_takeLine 54 = .ok (.ldc 102, 2) := by decide +kernel
theorem dX4_takeLine_56 : decode cX4_takeLine 56 = .ok (.invokevirtual 92, 3) := by decide +kernel
theorem dX4_takeLine_59 : decode cX4_takeLine 59 = .ok (.ifCond .eq 10, 3) := by decide +kernel
theorem dX4_takeLine_62 : decode cX4_takeLine 62 = .ok (.aload_n 0, 1) := by decide +kernel
theorem dX4_takeLine_63 : decode cX4_takeLine 63 = .ok (.invokevirtual 104, 3) := by decide +kernel
theorem dX4_takeLine_66 : decode cX4_takeLine 66 = .ok (.goto 7, 3) := by decide +kernel
theorem dX4_takeLine_69 : decode cX4_takeLine 69 = .ok (.aload_n 0, 1) := by decide +kernel
theorem dX4_takeLine_70 : decode cX4_takeLine 70 = .ok (.invokevirtual 107, 3) := by decide +kernel
theorem dX4_takeLine_73 : decode cX4_takeLine 73 = .ok (.ireturn, 1) := by decide +kernel
theorem dX4_takeLine_74 : decode cX4_takeLine 74 = .ok (.aload_n 0, 1) := by decide +kernel
theorem dX4_takeLine_75 : decode cX4_takeLine 75 = .ok (.ldc 110, 2) := by decide +kernel
theorem dX4_takeLine_77 : decode cX4_takeLine 77 = .ok (.invokevirtual 92, 3) := by decide +kernel
theorem dX4_takeLine_80 : decode cX4_takeLine 80 = .ok (.ifCond .eq 14, 3) := by decide +kernel
theorem dX4_takeLine_83 : decode cX4_takeLine 83 = .ok (.aload_n 0, 1) := by decide +kernel
theorem dX4_takeLine_84 : decode cX4_takeLine 84 = .ok (.invokevirtual 112, 3) := by decide +kernel
theorem dX4_takeLine_87 : decode cX4_takeLine 87 = .ok (.ifCond .eq 7, 3) := by decide +kernel
theorem dX4_takeLine_90 : decode cX4_takeLine 90 = .ok (.iconst 1, 1) := by decide +kernel
theorem dX4_takeLine_91 : decode cX4_takeLine 91 = .ok (.goto 4, 3) := by decide +kernel
theorem dX4_takeLine_94 : decode cX4_takeLine 94 = .ok (.iconst 0, 1) := by decide +kernel
theorem dX4_takeLine_95 : decode cX4_takeLine 95 = .ok (.ireturn, 1) := by decide +kernel
theorem dX4_takeLine_96 : decode cX4_takeLine 96 = .ok (.aload_n 0, 1) := by decide +kernel
theorem dX4_takeLine_97 : decode cX4_takeLine 97 = .ok (.ldc 115, 2) := by decide +kernel
theorem dX4_takeLine_99 : decode cX4_takeLine 99 = .ok (.invokevirtual 92, 3) := by decide +kernel
theorem dX4_takeLine_102 : decode cX4_takeLine 102 = .ok (.ifCond .eq 14, 3) := by decide +kernel
theorem dX4_takeLine_105 : decode cX4_takeLine 105 = .ok (.aload_n 0, 1) := by decide +kernel
theorem dX4_takeLine_106 : decode cX4_takeLine 106 = .ok (.invokevirtual 117, 3) := by decide +kernel
theorem dX4_takeLine_109 : decode cX4_takeLine 109 = .ok (.ifCond .eq 7, 3) := by decide +kernel
theorem dX4_takeLine_112 : decode cX4_takeLine 112 = .ok (.iconst 1, 1) := by decide +kernel
theorem dX4_takeLine_113 : decode cX4_takeLine 113 = .ok (.goto 4, 3) := by decide +kernel
theorem dX4_takeLine_116 : decode cX4_takeLine 116 = .ok (.iconst 0, 1) := by decide +kernel
theorem dX4_takeLine_117 : decode cX4_takeLine 117 = .ok (.ireturn, 1) := by decide +kernel
theorem dX4_takeLine_118 : decode cX4_takeLine 118 = .ok (.iconst 0, 1) := by decide +kernel
theorem dX4_takeLine_119 : decode cX4_takeLine 119 = .ok (.ireturn, 1) := by decide +kernel
set_option maxRecDepth 20000 in
theorem dX4_takeSemicolon_0 : decode cX4_takeSemicolon 0 = .ok (.aload_n 0, 1) := by decide +kernel
theorem dX4_takeSemicolon_1 : decode cX4_takeSemicolon 1 = .ok (.getfield 69, 3) := by decide +kernel
theorem dX4_takeSemicolon_4 : decode cX4_takeSemicolon 4 = .ok (.iconst 4, 1) := by decide +kernel
theorem dX4_takeSemicolon_5 : decode cX4_takeSemicolon 5 = .ok (.if_icmp .eq 5, 3) := by decide +kernel
theorem dX4_takeSemicolon_8 : decode cX4_takeSemicolon 8 = .ok (.iconst 0, 1) := by decide +kernel
theorem dX4_takeSemicolon_9 : decode cX4_takeSemicolon 9 = .ok (.ireturn, 1) := by decide +kernel
theorem dX4_takeSemicolon_10 : decode cX4_takeSemicolon 10 = .ok (.aload_n 0, 1) := by decide +kernel
theorem dX4_takeSemicolon_11 : decode cX4_takeSemicolon 11 = .ok (.invokevirtual 66, 3) := by decide +kernel
theorem dX4_takeSemicolon_14 : decode cX4_takeSemicolon 14 = .ok (.iconst 1, 1) := by decide +kernel
theorem dX4_takeSemicolon_15 : decode cX4_takeSemicolon 15 = .ok (.ireturn, 1) := by decide +kernel
set_option maxRecDepth 20000 in
theorem dX4_takeShipNumbers_0 : decode cX4_takeShipNumbers 0 = .ok (.aload_n 0, 1) := by decide +kernel
theorem dX4_takeShipNumbers_1 : decode cX4_takeShipNumbers 1 = .ok (.invokevirtual 120, 3) := by decide +kernel
theorem dX4_takeShipNumbers_4 : decode cX4_takeShipNumbers 4 = .ok (.istore_n 1, 1) := by decide +kernel
theorem dX4_takeShipNumbers_5 : decode cX4_takeShipNumbers 5 = .ok (.iload_n 1, 1) := by decide +kernel
theorem dX4_takeShipNumbers_6 : decode cX4_takeShipNumbers 6 = .ok (.iconst (-1), 1) := by decide +kernel
theorem dX4_takeShipNumbers_7 : decode cX4_takeShipNumbers 7 = .ok (.if_icmp .ne 5, 3) := by decide +kernel
theorem dX4_takeShipNumbers_10 : decode cX4_takeShipNumbers 10 = .ok (.iconst 0, 1) := by decide +kernel
theorem dX4_takeShipNumbers_11 : decode cX4_takeShipNumbers 11 = .ok (.ireturn, 1) := by decide +kernel
theorem dX4_takeShipNumbers_12 : decode cX4_takeShipNumbers 12 = .ok (.aload_n 0, 1) := by decide +kernel
theorem dX4_takeShipNumbers_13 : decode cX4_takeShipNumbers 13 = .ok (.invokevirtual 66, 3) := by decide +kernel
theorem dX4_takeShipNumbers_16 : decode cX4_takeShipNumbers 16 = .ok (.aload_n 0, 1) := by decide +kernel
theorem dX4_takeShipNumbers_17 : decode cX4_takeShipNumbers 17 = .ok (.iload_n 1, 1) := by decide +kernel
theorem dX4_takeShipNumbers_18 : decode cX4_takeShipNumbers 18 = .ok (.invokevirtual 124, 3) := by decide +kernel
theorem dX4_takeShipNumbers_21 : decode cX4_takeShipNumbers 21 = .ok (.ifCond .eq 22, 3) := by decide +kernel
theorem dX4_takeShipNumbers_24 : decode cX4_takeShipNumbers 24 = .ok (.iload_n 1, 1) := by decide +kernel
theorem dX4_takeShipNumbers_25 : decode cX4_takeShipNumbers 25 = .ok (.bipush 8, 2) := by decide +kernel
theorem dX4_takeShipNumbers_27 : decode cX4_takeShipNumbers 27 = .ok (.if_icmp .ne 12, 3) := by decide +kernel
theorem dX4_takeShipNumbers_30 : decode cX4_takeShipNumbers 30 = .ok (.aload_n 0, 1) := by decide +kernel
theorem dX4_takeShipNumbers_31 : decode cX4_takeShipNumbers 31 = .ok (.bipush 9, 2) := by decide +kernel
theorem dX4_takeShipNumbers_33 : decode cX4_takeShipNumbers 33 = .ok (.invokevirtual 124, 3) := by decide +kernel
theorem dX4_takeShipNumbers_36 : decode cX4_takeShipNumbers 36 = .ok (.ifCond .eq 7, 3) := by decide +kernel
theorem dX4_takeShipNumbers_39 : decode cX4_takeShipNumbers 39 = .ok (.iconst 1, 1) := by decide +kernel
theorem dX4_takeShipNumbers_40 : decode cX4_takeShipNumbers 40 = .ok (.goto 4, 3) := by decide +kernel
theorem dX4_takeShipNumbers_43 : decode cX4_takeShipNumbers 43 = .ok (.iconst 0, 1) := by decide +kernel
theorem dX4_takeShipNumbers_44 : decode cX4_takeShipNumbers 44 = .ok (.ireturn, 1) := by decide +kernel
set_option maxRecDepth 20000 in
theorem dX4_takeShipNumber_0 : decode cX4_takeShipNumber 0 = .ok (.aload_n 0, 1) := by decide +kernel
theorem dX4_takeShipNumber_1 : decode cX4_takeShipNumber 1 = .ok (.iload_n 1, 1) := by decide +kernel
theorem dX4_takeShipNumber_2 : decode cX4_takeShipNumber 2 = .ok (.bipush 6, 2) := by decide +kernel
theorem dX4_takeShipNumber_4 : decode cX4_takeShipNumber 4 = .ok (.if_icmp .lt 7, 3) := by decide +kernel
theorem dX4_takeShipNumber_7 : decode cX4_takeShipNumber 7 = .ok (.iconst 1, 1) := by decide +kernel
theorem dX4_takeShipNumber_8 : decode cX4_takeShipNumber 8 = .ok (.goto 4, 3) := by decide +kernel
theorem dX4_takeShipNumber_11 : decode cX4_takeShipNumber 11 = .ok (.iconst 0, 1) := by decide +kernel
theorem dX4_takeShipNumber_12 : decode cX4_takeShipNumber 12 = .ok (.getstatic 127, 3) := by decide +kernel
theorem dX4_takeShipNumber_15 : decode cX4_takeShipNumber 15 = .ok (.iload_n 1, 1) := by decide +kernel
theorem dX4_takeShipNumber_16 : decode cX4_takeShipNumber 16 = .ok (.invokestatic 131, 3) := by decide +kernel
theorem dX4_takeShipNumber_19 : decode cX4_takeShipNumber 19 = .ok (.getstatic 135, 3) := by decide +kernel
theorem dX4_takeShipNumber_22 : decode cX4_takeShipNumber 22 = .ok (.iload_n 1, 1) := by decide +kernel
theorem dX4_takeShipNumber_23 : decode cX4_takeShipNumber 23 = .ok (.invokestatic 131, 3) := by decide +kernel
theorem dX4_takeShipNumber_26 : decode cX4_takeShipNumber 26 = .ok (.invokevirtual 138, 3) := by decide +kernel
theorem dX4_takeShipNumber_29 : decode cX4_takeShipNumber 29 = .ok (.ifCond .ne 5, 3) := by decide +kernel
theorem dX4_takeShipNumber_32 : decode cX4_takeShipNumber 32 = .ok (.iconst 0, 1) := by decide +kernel
theorem dX4_takeShipNumber_33 : decode cX4_takeShipNumber 33 = .ok (.ireturn, 1) := by decide +kernel
theorem dX4_takeShipNumber_34 : decode cX4_takeShipNumber 34 = .ok (.aload_n 0, 1) := by decide +kernel
theorem dX4_takeShipNumber_35 : decode cX4_takeShipNumber 35 = .ok (.getfield 12, 3) := by decide +kernel
theorem dX4_takeShipNumber_38 : decode cX4_takeShipNumber 38 = .ok (.iload_n 1, 1) := by decide +kernel
theorem dX4_takeShipNumber_39 : decode cX4_takeShipNumber 39 = .ok (.aload_n 0, 1) := by decide +kernel
theorem dX4_takeShipNumber_40 : decode cX4_takeShipNumber 40 = .ok (.getfield 142, 3) := by decide +kernel
theorem dX4_takeShipNumber_43 : decode cX4_takeShipNumber 43 = .ok (.invokevirtual 145, 3) := by decide +kernel
theorem dX4_takeShipNumber_46 : decode cX4_takeShipNumber 46 = .ok (.iconst 1, 1) := by decide +kernel
theorem dX4_takeShipNumber_47 : decode cX4_takeShipNumber 47 = .ok (.ireturn, 1) := by decide +kernel
set_option maxRecDepth 20000 in
theorem dX4_takeSeas_0 : decode cX4_takeSeas 0 = .ok (.aload_n 0, 1) := by decide +kernel
theorem dX4_takeSeas_1 : decode cX4_takeSeas 1 = .ok (.getfield 12, 3) := by decide +kernel
theorem dX4_takeSeas_4 : decode cX4_takeSeas 4 = .ok (.iconst 0, 1) := by decide +kernel
theorem dX4_takeSeas_5 : decode cX4_takeSeas 5 = .ok (.putfield 148, 3) := by decide +kernel
theorem dX4_takeSeas_8 : decode cX4_takeSeas 8 = .ok (.aload_n 0, 1) := by decide +kernel
theorem dX4_takeSeas_9 : decode cX4_takeSeas 9 = .ok (.invokevirtual 66, 3) := by decide +kernel
theorem dX4_takeSeas_12 : decode cX4_takeSeas 12 = .ok (.iconst 0, 1) := by decide +kernel
theorem dX4_takeSeas_13 : decode cX4_takeSeas 13 = .ok (.istore_n 1, 1) := by decide +kernel
theorem dX4_takeSeas_14 : decode cX4_takeSeas 14 = .ok (.iload_n 1, 1) := by decide +kernel
theorem dX4_takeSeas_15 : decode cX4_takeSeas 15 = .ok (.ifCond .eq 17, 3) := by decide +kernel
theorem dX4_takeSeas_18 : decode cX4_takeSeas 18 = .ok (.iload_n 1, 1) := by decide +kernel
theorem dX4_takeSeas_19 : decode cX4_takeSeas 19 = .ok (.sipush 600, 3) := by decide +kernel
theorem dX4_takeSeas_22 : decode cX4_takeSeas 22 = .ok (.if_icmp .gt 53, 3) := by decide +kernel
theorem dX4_takeSeas_25 : decode cX4_takeSeas 25 = .ok (.aload_n 0, 1) := by decide +kernel
theorem dX4_takeSeas_26 : decode cX4_takeSeas 26 = .ok (.invokevirtual 151, 3) := by decide +kernel
theorem dX4_takeSeas_29 : decode cX4_takeSeas 29 = .ok (.ifCond .eq 46, 3) := by decide +kernel
theorem dX4_takeSeas_32 : decode cX4_takeSeas 32 = .ok (.aload_n 0, 1) := by decide +kernel
theorem dX4_takeSeas_33 : decode cX4_takeSeas 33 = .ok (.iconst 1, 1) := by decide +kernel
theorem dX4_takeSeas_34 : decode cX4_takeSeas 34 = .ok (.bipush (-99), 2) := by decide +kernel
theorem dX4_takeSeas_36 : decode cX4_takeSeas 36 = .ok (.bipush 99, 2) := by decide +kernel
theorem dX4_takeSeas_38 : decode cX4_takeSeas 38 = .ok (.invokevirtual 138, 3) := by decide +kernel
theorem dX4_takeSeas_41 : decode cX4_takeSeas 41 = .ok (.ifCond .ne 5, 3) := by decide +kernel
theorem dX4_takeSeas_44 : decode cX4_takeSeas 44 = .ok (.iconst 0, 1) := by decide +kernel
theorem dX4_takeSeas_45 : decode cX4_takeSeas 45 = .ok (.ireturn, 1) := by decide +kernel
theorem dX4_takeSeas_46 : decode cX4_takeSeas 46 = .ok (.aload_n 0, 1) := by decide +kernel
theorem dX4_takeSeas_47 : decode cX4_takeSeas 47 = .ok (.getfield 12, 3) := by decide +kernel
theorem dX4_takeSeas_50 : decode cX4_takeSeas 50 = .ok (.aload_n 0, 1) := by decide +kernel
theorem dX4_takeSeas_51 : decode cX4_takeSeas 51 = .ok (.getfield 142, 3) := by decide +kernel
theorem dX4_takeSeas_54 : decode cX4_takeSeas 54 = .ok (.invokevirtual 154, 3) := by decide +kernel
theorem dX4_takeSeas_57 : decode cX4_takeSeas 57 = .ok (.ifCond .ne 12, 3) := by decide +kernel
theorem dX4_takeSeas_60 : decode cX4_takeSeas 60 = .ok (.aload_n 0, 1) := by decide +kernel
theorem dX4_takeSeas_61 : decode cX4_takeSeas 61 = .ok (.iconst 3, 1) := by decide +kernel
theorem dX4_takeSeas_62 : decode cX4_takeSeas 62 = .ok (.aload_n 0, 1) := by decide +kernel
theorem dX4_takeSeas_63 : decode cX4_takeSeas 63 = .ok (.getfield 157, 3) := by decide +kernel
theorem dX4_takeSeas_66 : decode cX4_takeSeas 66 = .ok (.invokevirtual 86, 3) := by decide +kernel
theorem dX4_takeSeas_69 : decode cX4_takeSeas 69 = .ok (.iinc 1 1, 3) := by decide +kernel
theorem dX4_takeSeas_72 : decode cX4_takeSeas 72 = .ok (.goto (-58), 3) := by decide +kernel
theorem dX4_takeSeas_75 : decode cX4_takeSeas 75 = .ok (.iconst 1, 1) := by decide +kernel
theorem dX4_takeSeas_76 : decode cX4_takeSeas 76 = .ok (.ireturn, 1) := by decide +kernel
set_option maxRecDepth 20000 in
theorem dX4_takeHandNumber_0 : decode cX4_takeHandNumber 0 = .ok (.aload_n 0, 1) := by decide +kernel
theorem dX4_takeHandNumber_1 : decode cX4_takeHandNumber 1 = .ok (.invokevirtual 160, 3) := by decide +kernel
theorem dX4_takeHandNumber_4 : decode cX4_takeHandNumber 4 = .ok (.istore_n 1, 1) := by decide +kernel
theorem dX4_takeHandNumber_5 : decode cX4_takeHandNumber 5 = .ok (.iload_n 1, 1) := by decide +kernel
theorem dX4_takeHandNumber_6 : decode cX4_takeHandNumber 6 = .ok (.iconst (-1), 1) := by decide +kernel
theorem dX4_takeHandNumber_7 : decode cX4_takeHandNumber 7 = .ok (.if_icmp .ne 5, 3) := by decide +kernel
theorem dX4_takeHandNumber_10 : decode cX4_takeHandNumber 10 = .ok (.iconst 0, 1) := by decide +kernel
theorem dX4_takeHandNumber_11 : decode cX4_takeHandNumber 11 = .ok (.ireturn, 1) := by decide +kernel
theorem dX4_takeHandNumber_12 : decode cX4_takeHandNumber 12 = .ok (.aload_n 0, 1) := by decide +kernel
theorem dX4_takeHandNumber_13 : decode cX4_takeHandNumber 13 = .ok (.invokevirtual 66, 3) := by decide +kernel
theorem dX4_takeHandNumber_16 : decode cX4_takeHandNumber 16 = .ok (.iload_n 1, 1) := by decide +kernel
theorem dX4_takeHandNumber_17 : decode cX4_takeHandNumber 17 = .ok (.bipush 8, 2) := by decide +kernel
theorem dX4_takeHandNumber_19 : decode cX4_takeHandNumber 19 = .ok (.if_icmp .ne 15, 3) := by decide +kernel
theorem dX4_takeHandNumber_22 : decode cX4_takeHandNumber 22 = .ok (.aload_n 0, 1) := by decide +kernel
theorem dX4_takeHandNumber_23 : decode cX4_takeHandNumber 23 = .ok (.getfield 21, 3) := by decide +kernel
theorem dX4_takeHandNumber_26 : decode cX4_takeHandNumber 26 = .ok (.bipush 8, 2) := by decide +kernel
theorem dX4_takeHandNumber_28 : decode cX4_takeHandNumber 28 = .ok (.iconst 1, 1) := by decide +kernel
theorem dX4_takeHandNumber_29 : decode cX4_takeHandNumber 29 = .ok (.invokevirtual 163, 3) := by decide +kernel
theorem dX4_takeHandNumber_32 : decode cX4_takeHandNumber 32 = .ok (.iconst 1, 1) := by decide +kernel
theorem dX4_takeHandNumber_33 : decode cX4_takeHandNumber 33 = .ok (.ireturn, 1) := by decide +kernel
theorem dX4_takeHandNumber_34 : decode cX4_takeHandNumber 34 = .ok (.aload_n 0, 1) := by decide +kernel
theorem dX4_takeHandNumber_35 : decode cX4_takeHandNumber 35 = .ok (.iconst 0, 1) := by decide +kernel
theorem dX4_takeHandNumber_36 : decode cX4_takeHandNumber 36 = .ok (.getstatic 164, 3) := by decide +kernel
theorem dX4_takeHandNumber_39 : decode cX4_takeHandNumber 39 = .ok (.iload_n 1, 1) := by decide +kernel
theorem dX4_takeHandNumber_40 : decode cX4_takeHandNumber 40 = .ok (.invokestatic 131, 3) := by decide +kernel
theorem dX4_takeHandNumber_43 : decode cX4_takeHandNumber 43 = .ok (.getstatic 167, 3) := by decide +kernel
theorem dX4_takeHandNumber_46 : decode cX4_takeHandNumber 46 = .ok (.iload_n 1, 1) := by decide +kernel
theorem dX4_takeHandNumber_47 : decode cX4_takeHandNumber 47 = .ok (.invokestatic 131, 3) := by decide +kernel
theorem dX4_takeHandNumber_50 : decode cX4_takeHandNumber 50 = .ok (.invokevirtual 138, 3) := by decide +kernel
theorem dX4_takeHandNumber_53 : decode cX4_takeHandNumber 53 = .ok (.ifCond .ne 5, 3) := by decide +kernel
theorem dX4_takeHandNumber_56 : decode cX4_takeHandNumber 56 = .ok (.iconst 0, 1) := by decide +kernel
theorem dX4_takeHandNumber_57 : decode cX4_takeHandNumber 57 = .ok (.ireturn, 1) := by decide +kernel
theorem dX4_takeHandNumber_58 : decode cX4_takeHandNumber 58 = .ok (.aload_n 0, 1) := by decide +kernel
theorem dX4_takeHandNumber_59 : decode cX4_takeHandNumber 59 = .ok (.getfield 21, 3) := by decide +kernel
theorem dX4_takeHandNumber_62 : decode cX4_takeHandNumber 62 = .ok (.iload_n 1, 1) := by decide +kernel
theorem dX4_takeHandNumber_63 : decode cX4_takeHandNumber 63 = .ok (.aload_n 0, 1) := by decide +kernel
theorem dX4_takeHandNumber_64 : decode cX4_takeHandNumber 64 = .ok (.getfield 142, 3) := by decide +kernel
theorem dX4_takeHandNumber_67 : decode cX4_takeHandNumber 67 = .ok (.invokevirtual 163, 3) := by decide +kernel
theorem dX4_takeHandNumber_70 : decode cX4_takeHandNumber 70 = .ok (.iconst 1, 1) := by decide +kernel
theorem dX4_takeHandNumber_71 : decode cX4_takeHandNumber 71 = .ok (.ireturn, 1) := by decide +kernel
set_option maxRecDepth 20000 in
theorem dX4_takeStar_0 : decode cX4_takeStar 0 = .ok (.aload_n 0, 1) := by decide +kernel
theorem dX4_takeStar_1 : decode cX4_takeStar 1 = .ok (.getfield 80, 3) := by decide +kernel
theorem dX4_takeStar_4 : decode cX4_takeStar 4 = .ok (.istore_n 1, 1) := by decide +kernel
theorem dX4_takeStar_5 : decode cX4_takeStar 5 = .ok (.aload_n 0, 1) := by decide +kernel
theorem dX4_takeStar_6 : decode cX4_takeStar 6 = .ok (.invokevirtual 66, 3) := by decide +kernel
theorem dX4_takeStar_9 : decode cX4_takeStar 9 = .ok (.aload_n 0, 1) := by decide +kernel
theorem dX4_takeStar_10 : decode cX4_takeStar 10 = .ok (.iconst 0, 1) := by decide +kernel
theorem dX4_takeStar_11 : decode cX4_takeStar 11 = .ok (.iconst 0, 1) := by decide +kernel
theorem dX4_takeStar_12 : decode cX4_takeStar 12 = .ok (.sipush 999, 3) := by decide +kernel
theorem dX4_takeStar_15 : decode cX4_takeStar 15 = .ok (.invokevirtual 138, 3) := by decide +kernel
theorem dX4_takeStar_18 : decode cX4_takeStar 18 = .ok (.ifCond .ne 5, 3) := by decide +kernel
theorem dX4_takeStar_21 : decode cX4_takeStar 21 = .ok (.iconst 0, 1) := by decide +kernel
theorem dX4_takeStar_22 : decode cX4_takeStar 22 = .ok (.ireturn, 1) := by decide +kernel
theorem dX4_takeStar_23 : decode cX4_takeStar 23 = .ok (.aload_n 0, 1) := by decide +kernel
theorem dX4_takeStar_24 : decode cX4_takeStar 24 = .ok (.getfield 142, 3) := by decide +kernel
theorem dX4_takeStar_27 : decode cX4_takeStar 27 = .ok (.istore_n 2, 1) := by decide +kernel
theorem dX4_takeStar_28 : decode cX4_takeStar 28 = .ok (.aload_n 0, 1) := by decide +kernel
theorem dX4_takeStar_29 : decode cX4_takeStar 29 = .ok (.iconst 0, 1) := by decide +kernel
theorem dX4_takeStar_30 : decode cX4_takeStar 30 = .ok (.iload_n 2, 1) := by decide +kernel
theorem dX4_takeStar_31 : decode cX4_takeStar 31 = .ok (.sipush 999, 3) := by decide +kernel
theorem dX4_takeStar_34 : decode cX4_takeStar 34 = .ok (.invokevirtual 138, 3) := by decide +kernel
theorem dX4_takeStar_37 : decode cX4_takeStar 37 = .ok (.ifCond .ne 5, 3) := by decide +kernel
theorem dX4_takeStar_40 : decode cX4_takeStar 40 = .ok (.iconst 0, 1) := by decide +kernel
theorem dX4_takeStar_41 : decode cX4_takeStar 41 = .ok (.ireturn, 1) := by decide +kernel
theorem dX4_takeStar_42 : decode cX4_takeStar 42 = .ok (.aload_n 0, 1) := by decide +kernel
theorem dX4_takeStar_43 : decode cX4_takeStar 43 = .ok (.getfield 21, 3) := by decide +kernel
theorem dX4_takeStar_46 : decode cX4_takeStar 46 = .ok (.iload_n 2, 1) := by decide +kernel
theorem dX4_takeStar_47 : decode cX4_takeStar 47 = .ok (.aload_n 0, 1) := by decide +kernel
theorem dX4_takeStar_48 : decode cX4_takeStar 48 = .ok (.getfield 142, 3) := by decide +kernel
theorem dX4_takeStar_51 : decode cX4_takeStar 51 = .ok (.invokevirtual 170, 3) := by decide +kernel
theorem dX4_takeStar_54 : decode cX4_takeStar 54 = .ok (.ifCond .ne 9, 3) := by decide +kernel
theorem dX4_takeStar_57 : decode cX4_takeStar 57 = .ok (.aload_n 0, 1) := by decide +kernel
theorem dX4_takeStar_58 : decode cX4_takeStar 58 = .ok (.iconst 3, 1) := by decide +kernel
theorem dX4_takeStar_59 : decode cX4_takeStar 59 = .ok (.iload_n 1, 1) := by decide +kernel
theorem dX4_takeStar_60 : decode cX4_takeStar 60 = .ok (.invokevirtual 86, 3) := by decide +kernel
theorem dX4_takeStar_63 : decode cX4_takeStar 63 = .ok (.iconst 1, 1) := by decide +kernel
theorem dX4_takeStar_64 : decode cX4_takeStar 64 = .ok (.ireturn, 1) := by decide +kernel
set_option maxRecDepth 20000 in
theorem dX4_takeHeadings_0 : decode cX4_takeHeadings 0 = .ok (.aload_n 0, 1) := by decide +kernel
theorem dX4_takeHeadings_1 : decode cX4_takeHeadings 1 = .ok (.invokevirtual 66, 3) := by decide +kernel
theorem dX4_takeHeadings_4 : decode cX4_takeHeadings 4 = .ok (.iconst 0, 1) := by decide +kernel
theorem dX4_takeHeadings_5 : decode cX4_takeHeadings 5 = .ok (.istore_n 1, 1) := by decide +kernel
theorem dX4_takeHeadings_6 : decode cX4_takeHeadings 6 = .ok (.iload_n 1, 1) := by decide +kernel
theorem dX4_takeHeadings_7 : decode cX4_takeHeadings 7 = .ok (.ifCond .eq 17, 3) := by decide +kernel
theorem dX4_takeHeadings_10 : decode cX4_takeHeadings 10 = .ok (.iload_n 1, 1) := by decide +kernel
theorem dX4_takeHeadings_11 : decode cX4_takeHeadings 11 = .ok (.sipush 600, 3) := by decide +kernel
theorem dX4_takeHeadings_14 : decode cX4_takeHeadings 14 = .ok (.if_icmp .gt 55, 3) := by decide +kernel
theorem dX4_takeHeadings_17 : decode cX4_takeHeadings 17 = .ok (.aload_n 0, 1) := by decide +kernel
theorem dX4_takeHeadings_18 : decode cX4_takeHeadings 18 = .ok (.invokevirtual 151, 3) := by decide +kernel
theorem dX4_takeHeadings_21 : decode cX4_takeHeadings 21 = .ok (.ifCond .eq 48, 3) := by decide +kernel
theorem dX4_takeHeadings_24 : decode cX4_takeHeadings 24 = .ok (.aload_n 0, 1) := by decide +kernel
theorem dX4_takeHeadings_25 : decode cX4_takeHeadings 25 = .ok (.iconst 1, 1) := by decide +kernel
theorem dX4_takeHeadings_26 : decode cX4_takeHeadings 26 = .ok (.sipush (-9999), 3) := by decide +kernel
theorem dX4_takeHeadings_29 : decode cX4_takeHeadings 29 = .ok (.sipush 9999, 3) := by decide +kernel
theorem dX4_takeHeadings_32 : decode cX4_takeHeadings 32 = .ok (.invokevirtual 138, 3) := by decide +kernel
theorem dX4_takeHeadings_35 : decode cX4_takeHeadings 35 = .ok (.ifCond .ne 5, 3) := by decide +kernel
theorem dX4_takeHeadings_38 : decode cX4_takeHeadings 38 = .ok (.iconst 0, 1) := by decide +kernel
theorem dX4_takeHeadings_39 : decode cX4_takeHeadings 39 = .ok (.ireturn, 1) := by decide +kernel
theorem dX4_takeHeadings_40 : decode cX4_takeHeadings 40 = .ok (.aload_n 0, 1) := by decide +kernel
theorem dX4_takeHeadings_41 : decode cX4_takeHeadings 41 = .ok (.getfield 28, 3) := by decide +kernel
theorem dX4_takeHeadings_44 : decode cX4_takeHeadings 44 = .ok (.aload_n 0, 1) := by decide +kernel
theorem dX4_takeHeadings_45 : decode cX4_takeHeadings 45 = .ok (.getfield 142, 3) := by decide +kernel
theorem dX4_takeHeadings_48 : decode cX4_takeHeadings 48 = .ok (.invokevirtual 174, 3) := by decide +kernel
theorem dX4_takeHeadings_51 : decode cX4_takeHeadings 51 = .ok (.ifCond .ne 12, 3) := by decide +kernel
theorem dX4_takeHeadings_54 : decode cX4_takeHeadings 54 = .ok (.aload_n 0, 1) := by decide +kernel
theorem dX4_takeHeadings_55 : decode cX4_takeHeadings 55 = .ok (.iconst 3, 1) := by decide +kernel
theorem dX4_takeHeadings_56 : decode cX4_takeHeadings 56 = .ok (.aload_n 0, 1) := by decide +kernel
theorem dX4_takeHeadings_57 : decode cX4_takeHeadings 57 = .ok (.getfield 157, 3) := by decide +kernel
theorem dX4_takeHeadings_60 : decode cX4_takeHeadings 60 = .ok (.invokevirtual 86, 3) := by decide +kernel
theorem dX4_takeHeadings_63 : decode cX4_takeHeadings 63 = .ok (.iinc 1 1, 3) := by decide +kernel
theorem dX4_takeHeadings_66 : decode cX4_takeHeadings 66 = .ok (.goto (-60), 3) := by decide +kernel
theorem dX4_takeHeadings_69 : decode cX4_takeHeadings 69 = .ok (.iconst 1, 1) := by decide +kernel
theorem dX4_takeHeadings_70 : decode cX4_takeHeadings 70 = .ok (.ireturn, 1) := by decide +kernel
set_option maxRecDepth 20000 in
theorem dX4_takeMan_0 : decode cX4_takeMan 0 = .ok (.aload_n 0, 1) := by decide +kernel
theorem dX4_takeMan_1 : decode cX4_takeMan 1 = .ok (.getfield 80, 3) := by decide +kernel
theorem dX4_takeMan_4 : decode cX4_takeMan 4 = .ok (.istore_n 1, 1) := by decide +kernel
theorem dX4_takeMan_5 : decode cX4_takeMan 5 = .ok (.aload_n 0, 1) := by decide +kernel
theorem dX4_takeMan_6 : decode cX4_takeMan 6 = .ok (.invokevirtual 66, 3) := by decide +kernel
theorem dX4_takeMan_9 : decode cX4_takeMan 9 = .ok (.aload_n 0, 1) := by decide +kernel
theorem dX4_takeMan_10 : decode cX4_takeMan 10 = .ok (.iconst 0, 1) := by decide +kernel
theorem dX4_takeMan_11 : decode cX4_takeMan 11 = .ok (.iconst 0, 1) := by decide +kernel
theorem dX4_takeMan_12 : decode cX4_takeMan 12 = .ok (.iconst 3, 1) := by decide +kernel
theorem dX4_takeMan_13 : decode cX4_takeMan 13 = .ok (.invokevirtual 138, 3) := by decide +kernel
theorem dX4_takeMan_16 : decode cX4_takeMan 16 = .ok (.ifCond .ne 5, 3) := by decide +kernel
theorem dX4_takeMan_19 : decode cX4_takeMan 19 = .ok (.iconst 0, 1) := by decide +kernel
theorem dX4_takeMan_20 : decode cX4_takeMan 20 = .ok (.ireturn, 1) := by decide +kernel
theorem dX4_takeMan_21 : decode cX4_takeMan 21 = .ok (.aload_n 0, 1) := by decide +kernel
theorem dX4_takeMan_22 : decode cX4_takeMan 22 = .ok (.getfield 142, 3) := by decide +kernel
theorem dX4_takeMan_25 : decode cX4_takeMan 25 = .ok (.istore_n 2, 1) := by decide +kernel
theorem dX4_takeMan_26 : decode cX4_takeMan 26 = .ok (.aload_n 0, 1) := by decide +kernel
theorem dX4_takeMan_27 : decode cX4_takeMan 27 = .ok (.iconst 0, 1) := by decide +kernel
theorem dX4_takeMan_28 : decode cX4_takeMan 28 = .ok (.iconst 1, 1) := by decide +kernel
theorem dX4_takeMan_29 : decode cX4_takeMan 29 = .ok (.sipush 200, 3) := by decide +kernel
theorem dX4_takeMan_32 : decode cX4_takeMan 32 = .ok (.invokevirtual 138, 3) := by decide +kernel
theorem dX4_takeMan_35 : decode cX4_takeMan 35 = .ok (.ifCond .ne 5, 3) := by decide +kernel
theorem dX4_takeMan_38 : decode cX4_takeMan 38 = .ok (.iconst 0, 1) := by decide +kernel
theorem dX4_takeMan_39 : decode cX4_takeMan 39 = .ok (.ireturn, 1) := by decide +kernel
theorem dX4_takeMan_40 : decode cX4_takeMan 40 = .ok (.aload_n 0, 1) := by decide +kernel
theorem dX4_takeMan_41 : decode cX4_takeMan 41 = .ok (.getfield 35, 3) := by decide +kernel
theorem dX4_takeMan_44 : decode cX4_takeMan 44 = .ok (.iload_n 2, 1) := by decide +kernel
theorem dX4_takeMan_45 : decode cX4_takeMan 45 = .ok (.aload_n 0, 1) := by decide +kernel
theorem dX4_takeMan_46 : decode cX4_takeMan 46 = .ok (.getfield 142, 3) := by decide +kernel
theorem dX4_takeMan_49 : decode cX4_takeMan 49 = .ok (.invokevirtual 177, 3) := by decide +kernel
theorem dX4_takeMan_52 : decode cX4_takeMan 52 = .ok (.ifCond .ne 9, 3) := by decide +kernel
theorem dX4_takeMan_55 : decode cX4_takeMan 55 = .ok (.aload_n 0, 1) := by decide +kernel
theorem dX4_takeMan_56 : decode cX4_takeMan 56 = .ok (.iconst 3, 1) := by decide +kernel
theorem dX4_takeMan_57 : decode cX4_takeMan 57 = .ok (.iload_n 1, 1) := by decide +kernel
theorem dX4_takeMan_58 : decode cX4_takeMan 58 = .ok (.invokevirtual 86, 3) := by decide +kernel
theorem dX4_takeMan_61 : decode cX4_takeMan 61 = .ok (.iconst 1, 1) := by decide +kernel
theorem dX4_takeMan_62 : decode cX4_takeMan 62 = .ok (.ireturn, 1) := by decide +kernel
theorem dX4_goesOnWithNumber_0 : decode cX4_goesOnWithNumber 0 = .ok (.aload_n 0, 1) := by decide +kernel
theorem dX4_goesOnWithNumber_1 : decode cX4_goesOnWithNumber 1 = .ok (.getfield 69, 3) := by decide +kernel
theorem dX4_goesOnWithNumber_4 : decode cX4_goesOnWithNumber 4 = .ok (.iconst 2, 1) := by decide +kernel
theorem dX4_goesOnWithNumber_5 : decode cX4_goesOnWithNumber 5 = .ok (.if_icmp .eq 11, 3) := by decide +kernel
theorem dX4_goesOnWithNumber_8 : decode cX4_goesOnWithNumber 8 = .ok (.aload_n 0, 1) := by decide +kernel
theorem dX4_goesOnWithNumber_9 : decode cX4_goesOnWithNumber 9 = .ok (.getfield 69, 3) := by decide +kernel
theorem dX4_goesOnWithNumber_12 : decode cX4_goesOnWithNumber 12 = .ok (.iconst 3, 1) := by decide +kernel
theorem dX4_goesOnWithNumber_13 : decode cX4_goesOnWithNumber 13 = .ok (.if_icmp .ne 7, 3) := by decide +kernel
theorem dX4_goesOnWithNumber_16 : decode cX4_goesOnWithNumber 16 = .ok (.iconst 1, 1) := by decide +kernel
theorem dX4_goesOnWithNumber_17 : decode cX4_goesOnWithNumber 17 = .ok (.goto 4, 3) := by decide +kernel
theorem dX4_goesOnWithNumber_20 : decode cX4_goesOnWithNumber 20 = .ok (.iconst 0, 1) := by decide +kernel
theorem dX4_goesOnWithNumber_21 : decode cX4_goesOnWithNumber 21 = .ok (.ireturn, 1) := by decide +kernel
set_option maxRecDepth 20000 in
theorem dX4_takeNumber_0 : decode cX4_takeNumber 0 = .ok (.aload_n 0, 1) := by decide +kernel
theorem dX4_takeNumber_1 : decode cX4_takeNumber 1 = .ok (.aload_n 0, 1) := by decide +kernel
theorem dX4_takeNumber_2 : decode cX4_takeNumber 2 = .ok (.getfield 80, 3) := by decide +kernel
theorem dX4_takeNumber_5 : decode cX4_takeNumber 5 = .ok (.putfield 157, 3) := by decide +kernel
theorem dX4_takeNumber_8 : decode cX4_takeNumber 8 = .ok (.iload_n 1, 1) := by decide +kernel
theorem dX4_takeNumber_9 : decode cX4_takeNumber 9 = .ok (.ifCond .eq 15, 3) := by decide +kernel
theorem dX4_takeNumber_12 : decode cX4_takeNumber 12 = .ok (.aload_n 0, 1) := by decide +kernel
theorem dX4_takeNumber_13 : decode cX4_takeNumber 13 = .ok (.getfield 69, 3) := by decide +kernel
theorem dX4_takeNumber_16 : decode cX4_takeNumber 16 = .ok (.iconst 3, 1) := by decide +kernel
theorem dX4_takeNumber_17 : decode cX4_takeNumber 17 = .ok (.if_icmp .ne 7, 3) := by decide +kernel
theorem dX4_takeNumber_20 : decode cX4_takeNumber 20 = .ok (.iconst 1, 1) := by decide +kernel
theorem dX4_takeNumber_21 : decode cX4_takeNumber 21 = .ok (.goto 4, 3) := by decide +kernel
theorem dX4_takeNumber_24 : decode cX4_takeNumber 24 = .ok (.iconst 0, 1) := by decide +kernel
theorem dX4_takeNumber_25 : decode cX4_takeNumber 25 = .ok (.istore 4, 2) := by decide +kernel
theorem dX4_takeNumber_27 : decode cX4_takeNumber 27 = .ok (.iload 4, 2) := by decide +kernel
theorem dX4_takeNumber_29 : decode cX4_takeNumber 29 = .ok (.ifCond .eq 7, 3) := by decide +kernel
theorem dX4_takeNumber_32 : decode cX4_takeNumber 32 = .ok (.aload_n 0, 1) := by decide +kernel
theorem dX4_takeNumber_33 : decode cX4_takeNumber 33 = .ok (.invokevirtual 66, 3) := by decide +kernel
theorem dX4_takeNumber_36 : decode cX4_takeNumber 36 = .ok (.aload_n 0, 1) := by decide +kernel
theorem dX4_takeNumber_37 : decode cX4_takeNumber 37 = .ok (.getfield 69, 3) := by decide +kernel
theorem dX4_takeNumber_40 : decode cX4_takeNumber 40 = .ok (.iconst 2, 1) := by decide +kernel
theorem dX4_takeNumber_41 : decode cX4_takeNumber 41 = .ok (.if_icmp .eq 5, 3) := by decide +kernel
theorem dX4_takeNumber_44 : decode cX4_takeNumber 44 = .ok (.iconst 0, 1) := by decide +kernel
theorem dX4_takeNumber_45 : decode cX4_takeNumber 45 = .ok (.ireturn, 1) := by decide +kernel
theorem dX4_takeNumber_46 : decode cX4_takeNumber 46 = .ok (.iconst 0, 1) := by decide +kernel
theorem dX4_takeNumber_47 : decode cX4_takeNumber 47 = .ok (.istore 5, 2) := by decide +kernel
theorem dX4_takeNumber_49 : decode cX4_takeNumber 49 = .ok (.aload_n 0, 1) := by decide +kernel
theorem dX4_takeNumber_50 : decode cX4_takeNumber 50 = .ok (.getfield 80, 3) := by decide +kernel
theorem dX4_takeNumber_53 : decode cX4_takeNumber 53 = .ok (.istore 6, 2) := by decide +kernel
theorem dX4_takeNumber_55 : decode cX4_takeNumber 55 = .ok (.iload 6, 2) := by decide +kernel
theorem dX4_takeNumber_57 : decode cX4_takeNumber 57 = .ok (.aload_n 0, 1) := by decide +kernel
theorem dX4_takeNumber_58 : decode cX4_takeNumber 58 = .ok (.getfield 63, 3) := by decide +kernel
theorem dX4_takeNumber_61 : decode cX4_takeNumber 61 = .ok (.if_icmp .ge 29, 3) := by decide +kernel
theorem dX4_takeNumber_64 : decode cX4_takeNumber 64 = .ok (.bipush 10, 2) := by decide +kernel
theorem dX4_takeNumber_66 : decode cX4_takeNumber 66 = .ok (.iload 5, 2) := by decide +kernel
theorem dX4_takeNumber_68 : decode cX4_takeNumber 68 = .ok (.imul, 1) := by decide +kernel
theorem dX4_takeNumber_69 : decode cX4_takeNumber 69 = .ok (.aload_n 0, 1) := by decide +kernel
theorem dX4_takeNumber_70 : decode cX4_takeNumber 70 = .ok (.getfield 42, 3) := by decide +kernel
theorem dX4_takeNumber_73 : decode cX4_takeNumber 73 = .ok (.iload 6, 2) := by decide +kernel
theorem dX4_takeNumber_75 : decode cX4_takeNumber 75 = .ok (.invokevirtual 180, 3) := by decide +kernel
theorem dX4_takeNumber_78 : decode cX4_takeNumber 78 = .ok (.iadd, 1) := by decide +kernel
theorem dX4_takeNumber_79 : decode cX4_takeNumber 79 = .ok (.bipush 48, 2) := by decide +kernel
theorem dX4_takeNumber_81 : decode cX4_takeNumber 81 = .ok (.isub, 1) := by decide +kernel
theorem dX4_takeNumber_82 : decode cX4_takeNumber 82 = .ok (.istore 5, 2) := by decide +kernel
theorem dX4_takeNumber_84 : decode cX4_takeNumber 84 = .ok (.iinc 6 1, 3) := by decide +kernel
theorem dX4_takeNumber_87 : decode cX4_takeNumber 87 = .ok (.goto (-32), 3) := by decide +kernel
theorem dX4_takeNumber_90 : decode cX4_takeNumber 90 = .ok (.aload_n 0, 1) := by decide +kernel
theorem dX4_takeNumber_91 : decode cX4_takeNumber 91 = .ok (.iload 4, 2) := by decide +kernel
theorem dX4_takeNumber_93 : decode cX4_takeNumber 93 = .ok (.ifCond .eq 9, 3) := by decide +kernel
theorem dX4_takeNumber_96 : decode cX4_takeNumber 96 = .ok (.iload 5, 2) := by decide +kernel
theorem dX4_takeNumber_98 : decode cX4_takeNumber 98 = .ok (.ineg, 1) := by decide +kernel
theorem dX4_takeNumber_99 : decode cX4_takeNumber 99 = .ok (.goto 5, 3) := by decide +kernel
theorem dX4_takeNumber_102 : decode cX4_takeNumber 102 = .ok (.iload 5, 2) := by decide +kernel
theorem dX4_takeNumber_104 : decode cX4_takeNumber 104 = .ok (.putfield 142, 3) := by decide +kernel
theorem dX4_takeNumber_107 : decode cX4_takeNumber 107 = .ok (.aload_n 0, 1) := by decide +kernel
theorem dX4_takeNumber_108 : decode cX4_takeNumber 108 = .ok (.getfield 142, 3) := by decide +kernel
theorem dX4_takeNumber_111 : decode cX4_takeNumber 111 = .ok (.iload_n 2, 1) := by decide +kernel
theorem dX4_takeNumber_112 : decode cX4_takeNumber 112 = .ok (.if_icmp .lt 11, 3) := by decide +kernel
theorem dX4_takeNumber_115 : decode cX4_takeNumber 115 = .ok (.aload_n 0, 1) := by decide +kernel
theorem dX4_takeNumber_116 : decode cX4_takeNumber 116 = .ok (.getfield 142, 3) := by decide +kernel
theorem dX4_takeNumber_119 : decode cX4_takeNumber 119 = .ok (.iload_n 3, 1) := by decide +kernel
theorem dX4_takeNumber_120 : decode cX4_takeNumber 120 = .ok (.if_icmp .le 12, 3) := by decide +kernel
theorem dX4_takeNumber_123 : decode cX4_takeNumber 123 = .ok (.aload_n 0, 1) := by decide +kernel
theorem dX4_takeNumber_124 : decode cX4_takeNumber 124 = .ok (.iconst 2, 1) := by decide +kernel
theorem dX4_takeNumber_125 : decode cX4_takeNumber 125 = .ok (.aload_n 0, 1) := by decide +kernel
theorem dX4_takeNumber_126 : decode cX4_takeNumber 126 = .ok (.getfield 80, 3) := by decide +kernel
theorem dX4_takeNumber_129 : decode cX4_takeNumber 129 = .ok (.invokevirtual 86, 3) := by decide +kernel
theorem dX4_takeNumber_132 : decode cX4_takeNumber 132 = .ok (.aload_n 0, 1) := by decide +kernel
theorem dX4_takeNumber_133 : decode cX4_takeNumber 133 = .ok (.invokevirtual 66, 3) := by decide +kernel
theorem dX4_takeNumber_136 : decode cX4_takeNumber 136 = .ok (.iconst 1, 1) := by decide +kernel
theorem dX4_takeNumber_137 : decode cX4_takeNumber 137 = .ok (.ireturn, 1) := by decide +kernel
set_option maxRecDepth 20000 in
theorem dX4_shipWord_0 : decode cX4_shipWord 0 = .ok (.aload_n 0, 1) := by decide +kernel
theorem dX4_shipWord_1 : decode cX4_shipWord 1 = .ok (.ldc 184, 2) := by decide +kernel
theorem dX4_shipWord_3 : decode cX4_shipWord 3 = .ok (.invokevirtual 92, 3) := by decide +kernel
theorem dX4_shipWord_6 : decode cX4_shipWord 6 = .ok (.ifCond .eq 7, 3) := by decide +kernel
theorem dX4_shipWord_9 : decode cX4_shipWord 9 = .ok (.iconst 0, 1) := by decide +kernel
theorem dX4_shipWord_10 : decode cX4_shipWord 10 = .ok (.goto 111, 3) := by decide +kernel
theorem dX4_shipWord_13 : decode cX4_shipWord 13 = .ok (.aload_n 0, 1) := by decide +kernel
theorem dX4_shipWord_14 : decode cX4_shipWord 14 = .ok (.ldc 186, 2) := by decide +kernel
theorem dX4_shipWord_16 : decode cX4_shipWord 16 = .ok (.invokevirtual 92, 3) := by decide +kernel
theorem dX4_shipWord_19 : decode cX4_shipWord 19 = .ok (.ifCond .eq 7, 3) := by decide +kernel
theorem dX4_shipWord_22 : decode cX4_shipWord 22 = .ok (.iconst 1, 1) := by decide +kernel
theorem dX4_shipWord_23 : decode cX4_shipWord 23 = .ok (.goto 98, 3) := by decide +kernel
theorem dX4_shipWord_26 : decode cX4_shipWord 26 = .ok (.aload_n 0, 1) := by decide +kernel
theorem dX4_shipWord_27 : decode cX4_shipWord 27 = .ok (.ldc 188, 2) := by decide +kernel
theorem dX4_shipWord_29 : decode cX4_shipWord 29 = .ok (.invokevirtual 92, 3) := by decide +kernel
theorem dX4_shipWord_32 : decode cX4_shipWord 32 = .ok (.ifCond .eq 7, 3) := by decide +kernel
theorem dX4_shipWord_35 : decode cX4_shipWord 35 = .ok (.iconst 2, 1) := by decide +kernel
theorem dX4_shipWord_36 : decode cX4_shipWord 36 = .ok (.goto 85, 3) := by decide +kernel
theorem dX4_shipWord_39 : decode cX4_shipWord 39 = .ok (.aload_n 0, 1) := by decide +kernel
theorem dX4_shipWord_40 : decode cX4_shipWord 40 = .ok (.ldc 190, 2) := by decide +kernel
theorem dX4_shipWord_42 : decode cX4_shipWord 42 = .ok (.invokevirtual 92, 3) := by decide +kernel
theorem dX4_shipWord_45 : decode cX4_shipWord 45 = .ok (.ifCond .eq 7, 3) := by decide +kernel
theorem dX4_shipWord_48 : decode cX4_shipWord 48 = .ok (.iconst 3, 1) := by decide +kernel
theorem dX4_shipWord_49 : decode cX4_shipWord 49 = .ok (.goto 72, 3) := by decide +kernel
theorem dX4_shipWord_52 : decode cX4_shipWord 52 = .ok (.aload_n 0, 1) := by decide +kernel
theorem dX4_shipWord_53 : decode cX4_shipWord 53 = .ok (.ldc 192, 2) := by decide +kernel
theorem dX4_shipWord_55 : decode cX4_shipWord 55 = .ok (.invokevirtual 92, 3) := by decide +kernel
theorem dX4_shipWord_58 : decode cX4_shipWord 58 = .ok (.ifCond .eq 7, 3) := by decide +kernel
theorem dX4_shipWord_61 : decode cX4_shipWord 61 = .ok (.iconst 4, 1) := by decide +kernel
theorem dX4_shipWord_62 : decode cX4_shipWord 62 = .ok (.goto 59, 3) := by decide +kernel
theorem dX4_shipWord_65 : decode cX4_shipWord 65 = .ok (.aload_n 0, 1) := by decide +kernel
theorem dX4_shipWord_66 : decode cX4_shipWord 66 = .ok (.ldc 194, 2) := by decide +kernel
theorem dX4_shipWord_68 : decode cX4_shipWord 68 = .ok (.invokevirtual 92, 3) := by decide +kernel
theorem dX4_shipWord_71 : decode cX4_shipWord 71 = .ok (.ifCond .eq 7, 3) := by decide +kernel
theorem dX4_shipWord_74 : decode cX4_shipWord 74 = .ok (.iconst 5, 1) := by decide +kernel
theorem dX4_shipWord_75 : decode cX4_shipWord 75 = .ok (.goto 46, 3) := by decide +kernel
theorem dX4_shipWord_78 : decode cX4_shipWord 78 = .ok (.aload_n 0, 1) := by decide +kernel
theorem dX4_shipWord_79 : decode cX4_shipWord 79 = .ok (.ldc 196, 2) := by decide +kernel
theorem dX4_shipWord_81 : decode cX4_shipWord 81 = .ok (.invokevirtual 92, 3) := by decide +kernel
theorem dX4_shipWord_84 : decode cX4_shipWord 84 = .ok (.ifCond .eq 8, 3) := by decide +kernel
theorem dX4_shipWord_87 : decode cX4_shipWord 87 = .ok (.bipush 6, 2) := by decide +kernel
theorem dX4_shipWord_89 : decode cX4_shipWord 89 = .ok (.goto 32, 3) := by decide +kernel
theorem dX4_shipWord_92 : decode cX4_shipWord 92 = .ok (.aload_n 0, 1) := by decide +kernel
theorem dX4_shipWord_93 : decode cX4_shipWord 93 = .ok (.ldc 198, 2) := by decide +kernel
theorem dX4_shipWord_95 : decode cX4_shipWord 95 = .ok (.invokevirtual 92, 3) := by decide +kernel
theorem dX4_shipWord_98 : decode cX4_shipWord 98 = .ok (.ifCond .eq 8, 3) := by decide +kernel
theorem dX4_shipWord_101 : decode cX4_shipWord 101 = .ok (.bipush 7, 2) := by decide +kernel
theorem dX4_shipWord_103 : decode cX4_shipWord 103 = .ok (.goto 18, 3) := by decide +kernel
theorem dX4_shipWord_106 : decode cX4_shipWord 106 = .ok (.aload_n 0, 1) := by decide +kernel
theorem dX4_shipWord_107 : decode cX4_shipWord 107 = .ok (.ldc 200, 2) := by decide +kernel
theorem dX4_shipWord_109 : decode cX4_shipWord 109 = .ok (.invokevirtual 92, 3) := by decide +kernel
theorem dX4_shipWord_112 : decode cX4_shipWord 112 = .ok (.ifCond .eq 8, 3) := by decide +kernel
theorem dX4_shipWord_115 : decode cX4_shipWord 115 = .ok (.bipush 8, 2) := by decide +kernel
theorem dX4_shipWord_117 : decode cX4_shipWord 117 = .ok (.goto 4, 3) := by decide +kernel
theorem dX4_shipWord_120 : decode cX4_shipWord 120 = .ok (.iconst (-1), 1) := by decide +kernel
theorem dX4_shipWord_121 : decode cX4_shipWord 121 = .ok (.ireturn, 1) := by decide +kernel
set_option maxRecDepth 20000 in
theorem dX4_handWord_0 : decode cX4_handWord 0 = .ok (.aload_n 0, 1) := by decide +kernel
theorem dX4_handWord_1 : decode cX4_handWord 1 = .ok (.ldc 202, 2) := by decide +kernel
theorem dX4_handWord_3 : decode cX4_handWord 3 = .ok (.invokevirtual 92, 3) := by decide +kernel
theorem dX4_handWord_6 : decode cX4_handWord 6 = .ok (.ifCond .eq 7, 3) := by decide +kernel
theorem dX4_handWord_9 : decode cX4_handWord 9 = .ok (.iconst 0, 1) := by decide +kernel
theorem dX4_handWord_10 : decode cX4_handWord 10 = .ok (.goto 111, 3) := by decide +kernel
theorem dX4_handWord_13 : decode cX4_handWord 13 = .ok (.aload_n 0, 1) := by decide +kernel
theorem dX4_handWord_14 : decode cX4_handWord 14 = .ok (.ldc 204, 2) := by decide +kernel
theorem dX4_handWord_16 : decode cX4_handWord 16 = .ok (.invokevirtual 92, 3) := by decide +kernel
theorem dX4_handWord_19 : decode cX4_handWord 19 = .ok (.ifCond .eq 7, 3) := by decide +kernel
theorem dX4_handWord_22 : decode cX4_handWord 22 = .ok (.iconst 1, 1) := by decide +kernel
theorem dX4_handWord_23 : decode cX4_handWord 23 = .ok (.goto 98, 3) := by decide +kernel
theorem dX4_handWord_26 : decode cX4_handWord 26 = .ok (.aload_n 0, 1) := by decide +kernel
theorem dX4_handWord_27 : decode cX4_handWord 27 = .ok (.ldc 206, 2) := by decide +kernel
theorem dX4_handWord_29 : decode cX4_handWord 29 = .ok (.invokevirtual 92, 3) := by decide +kernel
theorem dX4_handWord_32 : decode cX4_handWord 32 = .ok (.ifCond .eq 7, 3) := by decide +kernel
theorem dX4_handWord_35 : decode cX4_handWord 35 = .ok (.iconst 2, 1) := by decide +kernel
theorem dX4_handWord_36 : decode cX4_handWord 36 = .ok (.goto 85, 3) := by decide +kernel
theorem dX4_handWord_39 : decode cX4_handWord 39 = .ok (.aload_n 0, 1) := by decide +kernel
theorem dX4_handWord_40 : decode cX4_handWord 40 = .ok (.ldc 208, 2) := by decide +kernel
theorem dX4_handWord_42 : decode cX4_handWord 42 = .ok (.invokevirtual 92, 3) := by decide +kernel
theorem dX4_handWord_45 : decode cX4_handWord 45 = .ok (.ifCond .eq 7, 3) := by decide +kernel
theorem dX4_handWord_48 : decode cX4_handWord 48 = .ok (.iconst 3, 1) := by decide +kernel
theorem dX4_handWord_49 : decode cX4_handWord 49 = .ok (.goto 72, 3) := by decide +kernel
theorem dX4_handWord_52 : decode cX4_handWord 52 = .ok (.aload_n 0, 1) := by decide +kernel
theorem dX4_handWord_53 : decode cX4_handWord 53 = .ok (.ldc 210, 2) := by decide +kernel
theorem dX4_handWord_55 : decode cX4_handWord 55 = .ok (.invokevirtual 92, 3) := by decide +kernel
theorem dX4_handWord_58 : decode cX4_handWord 58 = .ok (.ifCond .eq 7, 3) := by decide +kernel
theorem dX4_handWord_61 : decode cX4_handWord 61 = .ok (.iconst 4, 1) := by decide +kernel
theorem dX4_handWord_62 : decode cX4_handWord 62 = .ok (.goto 59, 3) := by decide +kernel
theorem dX4_handWord_65 : decode cX4_handWord 65 = .ok (.aload_n 0, 1) := by decide +kernel
theorem dX4_handWord_66 : decode cX4_handWord 66 = .ok (.ldc 212, 2) := by decide +kernel
theorem dX4_handWord_68 : decode cX4_handWord 68 = .ok (.invokevirtual 92, 3) := by decide +kernel
theorem dX4_handWord_71 : decode cX4_handWord 71 = .ok (.ifCond .eq 7, 3) := by decide +kernel
theorem dX4_handWord_74 : decode cX4_handWord 74 = .ok (.iconst 5, 1) := by decide +kernel
theorem dX4_handWord_75 : decode cX4_handWord 75 = .ok (.goto 46, 3) := by decide +kernel
theorem dX4_handWord_78 : decode cX4_handWord 78 = .ok (.aload_n 0, 1) := by decide +kernel
theorem dX4_handWord_79 : decode cX4_handWord 79 = .ok (.ldc 214, 2) := by decide +kernel
theorem dX4_handWord_81 : decode cX4_handWord 81 = .ok (.invokevirtual 92, 3) := by decide +kernel
theorem dX4_handWord_84 : decode cX4_handWord 84 = .ok (.ifCond .eq 8, 3) := by decide +kernel
theorem dX4_handWord_87 : decode cX4_handWord 87 = .ok (.bipush 6, 2) := by decide +kernel
theorem dX4_handWord_89 : decode cX4_handWord 89 = .ok (.goto 32, 3) := by decide +kernel
theorem dX4_handWord_92 : decode cX4_handWord 92 = .ok (.aload_n 0, 1) := by decide +kernel
theorem dX4_handWord_93 : decode cX4_handWord 93 = .ok (.ldc 216, 2) := by decide +kernel
theorem dX4_handWord_95 : decode cX4_handWord 95 = .ok (.invokevirtual 92, 3) := by decide +kernel
theorem dX4_handWord_98 : decode cX4_handWord 98 = .ok (.ifCond .eq 8, 3) := by decide +kernel
theorem dX4_handWord_101 : decode cX4_handWord 101 = .ok (.bipush 7, 2) := by decide +kernel
theorem dX4_handWord_103 : decode cX4_handWord 103 = .ok (.goto 18, 3) := by decide +kernel
theorem dX4_handWord_106 : decode cX4_handWord 106 = .ok (.aload_n 0, 1) := by decide +kernel
theorem dX4_handWord_107 : decode cX4_handWord 107 = .ok (.ldc 218, 2) := by decide +kernel
theorem dX4_handWord_109 : decode cX4_handWord 109 = .ok (.invokevirtual 92, 3) := by decide +kernel
theorem dX4_handWord_112 : decode cX4_handWord 112 = .ok (.ifCond .eq 8, 3) := by decide +kernel
theorem dX4_handWord_115 : decode cX4_handWord 115 = .ok (.bipush 8, 2) := by decide +kernel
theorem dX4_handWord_117 : decode cX4_handWord 117 = .ok (.goto 4, 3) := by decide +kernel
theorem dX4_handWord_120 : decode cX4_handWord 120 = .ok (.iconst (-1), 1) := by decide +kernel
theorem dX4_handWord_121 : decode cX4_handWord 121 = .ok (.ireturn, 1) := by decide +kernel
set_option maxRecDepth 20000 in
theorem dX4_isWord_0 : decode cX4_isWord 0 = .ok (.aload_n 1, 1) := by decide +kernel
theorem dX4_isWord_1 : decode cX4_isWord 1 = .ok (.ifnull 19, 3) := by decide +kernel
theorem dX4_isWord_4 : decode cX4_isWord 4 = .ok (.aload_n 0, 1) := by decide +kernel
theorem dX4_isWord_5 : decode cX4_isWord 5 = .ok (.getfield 63, 3) := by decide +kernel
theorem dX4_isWord_8 : decode cX4_isWord 8 = .ok (.aload_n 0, 1) := by decide +kernel
theorem dX4_isWord_9 : decode cX4_isWord 9 = .ok (.getfield 80, 3) := by decide +kernel
theorem dX4_isWord_12 : decode cX4_isWord 12 = .ok (.isub, 1) := by decide +kernel
theorem dX4_isWord_13 : decode cX4_isWord 13 = .ok (.aload_n 1, 1) := by decide +kernel
theorem dX4_isWord_14 : decode cX4_isWord 14 = .ok (.invokevirtual 220, 3) := by decide +kernel
theorem dX4_isWord_17 : decode cX4_isWord 17 = .ok (.if_icmp .eq 5, 3) := by decide +kernel
theorem dX4_isWord_20 : decode cX4_isWord 20 = .ok (.iconst 0, 1) := by decide +kernel
theorem dX4_isWord_21 : decode cX4_isWord 21 = .ok (.ireturn, 1) := by decide +kernel
theorem dX4_isWord_22 : decode cX4_isWord 22 = .ok (.iconst 0, 1) := by decide +kernel
theorem dX4_isWord_23 : decode cX4_isWord 23 = .ok (.istore_n 2, 1) := by decide +kernel
theorem dX4_isWord_24 : decode cX4_isWord 24 = .ok (.iload_n 2, 1) := by decide +kernel
theorem dX4_isWord_25 : decode cX4_isWord 25 = .ok (.aload_n 1, 1) := by decide +kernel
theorem dX4_isWord_26 : decode cX4_isWord 26 = .ok (.invokevirtual 220, 3) := by decide +kernel
theorem dX4_isWord_29 : decode cX4_isWord 29 = .ok (.if_icmp .ge 32, 3) := by decide +kernel
theorem dX4_isWord_32 : decode cX4_isWord 32 = .ok (.aload_n 0, 1) := by decide +kernel
theorem dX4_isWord_33 : decode cX4_isWord 33 = .ok (.getfield 42, 3) := by decide +kernel
theorem dX4_isWord_36 : decode cX4_isWord 36 = .ok (.aload_n 0, 1) := by decide +kernel
theorem dX4_isWord_37 : decode cX4_isWord 37 = .ok (.getfield 80, 3) := by decide +kernel
theorem dX4_isWord_40 : decode cX4_isWord 40 = .ok (.iload_n 2, 1) := by decide +kernel
theorem dX4_isWord_41 : decode cX4_isWord 41 = .ok (.iadd, 1) := by decide +kernel
theorem dX4_isWord_42 : decode cX4_isWord 42 = .ok (.invokevirtual 180, 3) := by decide +kernel
theorem dX4_isWord_45 : decode cX4_isWord 45 = .ok (.aload_n 1, 1) := by decide +kernel
theorem dX4_isWord_46 : decode cX4_isWord 46 = .ok (.iload_n 2, 1) := by decide +kernel
theorem dX4_isWord_47 : decode cX4_isWord 47 = .ok (.invokevirtual 225, 3) := by decide +kernel
theorem dX4_isWord_50 : decode cX4_isWord 50 = .ok (.if_icmp .eq 5, 3) := by decide +kernel
theorem dX4_isWord_53 : decode cX4_isWord 53 = .ok (.iconst 0, 1) := by decide +kernel
theorem dX4_isWord_54 : decode cX4_isWord 54 = .ok (.ireturn, 1) := by decide +kernel
theorem dX4_isWord_55 : decode cX4_isWord 55 = .ok (.iinc 2 1, 3) := by decide +kernel
theorem dX4_isWord_58 : decode cX4_isWord 58 = .ok (.goto (-34), 3) := by decide +kernel
theorem dX4_isWord_61 : decode cX4_isWord 61 = .ok (.iconst 1, 1) := by decide +kernel
theorem dX4_isWord_62 : decode cX4_isWord 62 = .ok (.ireturn, 1) := by decide +kernel
set_option maxRecDepth 20000 in
theorem dX4_next_0 : decode cX4_next 0 = .ok (.aload_n 0, 1) := by decide +kernel
theorem dX4_next_1 : decode cX4_next 1 = .ok (.getfield 63, 3) := by decide +kernel
theorem dX4_next_4 : decode cX4_next 4 = .ok (.aload_n 0, 1) := by decide +kernel
theorem dX4_next_5 : decode cX4_next 5 = .ok (.getfield 42, 3) := by decide +kernel
theorem dX4_next_8 : decode cX4_next 8 = .ok (.getfield 229, 3) := by decide +kernel
theorem dX4_next_11 : decode cX4_next 11 = .ok (.if_icmp .ge 34, 3) := by decide +kernel
theorem dX4_next_14 : decode cX4_next 14 = .ok (.aload_n 0, 1) := by decide +kernel
theorem dX4_next_15 : decode cX4_next 15 = .ok (.getfield 42, 3) := by decide +kernel
theorem dX4_next_18 : decode cX4_next 18 = .ok (.aload_n 0, 1) := by decide +kernel
theorem dX4_next_19 : decode cX4_next 19 = .ok (.getfield 63, 3) := by decide +kernel
theorem dX4_next_22 : decode cX4_next 22 = .ok (.invokevirtual 180, 3) := by decide +kernel
theorem dX4_next_25 : decode cX4_next 25 = .ok (.invokestatic 231, 3) := by decide +kernel
theorem dX4_next_28 : decode cX4_next 28 = .ok (.iconst 5, 1) := by decide +kernel
theorem dX4_next_29 : decode cX4_next 29 = .ok (.if_icmp .ne 16, 3) := by decide +kernel
theorem dX4_next_32 : decode cX4_next 32 = .ok (.aload_n 0, 1) := by decide +kernel
theorem dX4_next_33 : decode cX4_next 33 = .ok (.dup, 1) := by decide +kernel
theorem dX4_next_34 : decode cX4_next 34 = .ok (.getfield 63, 3) := by decide +kernel
theorem dX4_next_37 : decode cX4_next 37 = .ok (.iconst 1, 1) := by decide +kernel
theorem dX4_next_38 : decode cX4_next 38 = .ok (.iadd, 1) := by decide +kernel
theorem dX4_next_39 : decode cX4_next 39 = .ok (.putfield 63, 3) := by decide +kernel
theorem dX4_next_42 : decode cX4_next 42 = .ok (.goto (-42), 3) := by decide +kernel
theorem dX4_next_45 : decode cX4_next 45 = .ok (.aload_n 0, 1) := by decide +kernel
theorem dX4_next_46 : decode cX4_next 46 = .ok (.aload_n 0, 1) := by decide +kernel
theorem dX4_next_47 : decode cX4_next 47 = .ok (.getfield 63, 3) := by decide +kernel
theorem dX4_next_50 : decode cX4_next 50 = .ok (.putfield 80, 3) := by decide +kernel
theorem dX4_next_53 : decode cX4_next 53 = .ok (.aload_n 0, 1) := by decide +kernel
theorem dX4_next_54 : decode cX4_next 54 = .ok (.aload_n 0, 1) := by decide +kernel
theorem dX4_next_55 : decode cX4_next 55 = .ok (.getfield 42, 3) := by decide +kernel
theorem dX4_next_58 : decode cX4_next 58 = .ok (.aload_n 0, 1) := by decide +kernel
theorem dX4_next_59 : decode cX4_next 59 = .ok (.getfield 80, 3) := by decide +kernel
theorem dX4_next_62 : decode cX4_next 62 = .ok (.invokevirtual 180, 3) := by decide +kernel
theorem dX4_next_65 : decode cX4_next 65 = .ok (.invokestatic 231, 3) := by decide +kernel
theorem dX4_next_68 : decode cX4_next 68 = .ok (.putfield 69, 3) := by decide +kernel
theorem dX4_next_71 : decode cX4_next 71 = .ok (.aload_n 0, 1) := by decide +kernel
theorem dX4_next_72 : decode cX4_next 72 = .ok (.getfield 69, 3) := by decide +kernel
theorem dX4_next_75 : decode cX4_next 75 = .ok (.ifCond .ne 4, 3) := by decide +kernel
theorem dX4_next_78 : decode cX4_next 78 = .ok (.return_, 1) := by decide +kernel
theorem dX4_next_79 : decode cX4_next 79 = .ok (.aload_n 0, 1) := by decide +kernel
theorem dX4_next_80 : decode cX4_next 80 = .ok (.getfield 69, 3) := by decide +kernel
theorem dX4_next_83 : decode cX4_next 83 = .ok (.iconst 1, 1) := by decide +kernel
theorem dX4_next_84 : decode cX4_next 84 = .ok (.if_icmp .eq 11, 3) := by decide +kernel
theorem dX4_next_87 : decode cX4_next 87 = .ok (.aload_n 0, 1) := by decide +kernel
theorem dX4_next_88 : decode cX4_next 88 = .ok (.getfield 69, 3) := by decide +kernel
theorem dX4_next_91 : decode cX4_next 91 = .ok (.iconst 2, 1) := by decide +kernel
theorem dX4_next_92 : decode cX4_next 92 = .ok (.if_icmp .ne 7, 3) := by decide +kernel
theorem dX4_next_95 : decode cX4_next 95 = .ok (.iconst 1, 1) := by decide +kernel
theorem dX4_next_96 : decode cX4_next 96 = .ok (.goto 4, 3) := by decide +kernel
theorem dX4_next_99 : decode cX4_next 99 = .ok (.iconst 0, 1) := by decide +kernel
theorem dX4_next_100 : decode cX4_next 100 = .ok (.istore_n 1, 1) := by decide +kernel
theorem dX4_next_101 : decode cX4_next 101 = .ok (.aload_n 0, 1) := by decide +kernel
theorem dX4_next_102 : decode cX4_next 102 = .ok (.dup, 1) := by decide +kernel
theorem dX4_next_103 : decode cX4_next 103 = .ok (.getfield 63, 3) := by decide +kernel
theorem dX4_next_106 : decode cX4_next 106 = .ok (.iconst 1, 1) := by decide +kernel
theorem dX4_next_107 : decode cX4_next 107 = .ok (.iadd, 1) := by decide +kernel
theorem dX4_next_108 : decode cX4_next 108 = .ok (.putfield 63, 3) := by decide +kernel
theorem dX4_next_111 : decode cX4_next 111 = .ok (.iload_n 1, 1) := by decide +kernel
theorem dX4_next_112 : decode cX4_next 112 = .ok (.ifCond .eq 51, 3) := by decide +kernel
theorem dX4_next_115 : decode cX4_next 115 = .ok (.aload_n 0, 1) := by decide +kernel
theorem dX4_next_116 : decode cX4_next 116 = .ok (.getfield 63, 3) := by decide +kernel
theorem dX4_next_119 : decode cX4_next 119 = .ok (.aload_n 0, 1) := by decide +kernel
theorem dX4_next_120 : decode cX4_next 120 = .ok (.getfield 42, 3) := by decide +kernel
theorem dX4_next_123 : decode cX4_next 123 = .ok (.getfield 229, 3) := by decide +kernel
theorem dX4_next_126 : decode cX4_next 126 = .ok (.if_icmp .ge 37, 3) := by decide +kernel
theorem dX4_next_129 : decode cX4_next 129 = .ok (.aload_n 0, 1) := by decide +kernel
theorem dX4_next_130 : decode cX4_next 130 = .ok (.getfield 42, 3) := by decide +kernel
theorem dX4_next_133 : decode cX4_next 133 = .ok (.aload_n 0, 1) := by decide +kernel
theorem dX4_next_134 : decode cX4_next 134 = .ok (.getfield 63, 3) := by decide +kernel
theorem dX4_next_137 : decode cX4_next 137 = .ok (.invokevirtual 180, 3) := by decide +kernel
theorem dX4_next_140 : decode cX4_next 140 = .ok (.invokestatic 231, 3) := by decide +kernel
theorem dX4_next_143 : decode cX4_next 143 = .ok (.aload_n 0, 1) := by decide +kernel
theorem dX4_next_144 : decode cX4_next 144 = .ok (.getfield 69, 3) := by decide +kernel
theorem dX4_next_147 : decode cX4_next 147 = .ok (.if_icmp .ne 16, 3) := by decide +kernel
theorem dX4_next_150 : decode cX4_next 150 = .ok (.aload_n 0, 1) := by decide +kernel
theorem dX4_next_151 : decode cX4_next 151 = .ok (.dup, 1) := by decide +kernel
theorem dX4_next_152 : decode cX4_next 152 = .ok (.getfield 63, 3) := by decide +kernel
theorem dX4_next_155 : decode cX4_next 155 = .ok (.iconst 1, 1) := by decide +kernel
theorem dX4_next_156 : decode cX4_next 156 = .ok (.iadd, 1) := by decide +kernel
theorem dX4_next_157 : decode cX4_next 157 = .ok (.putfield 63, 3) := by decide +kernel
theorem dX4_next_160 : decode cX4_next 160 = .ok (.goto (-49), 3) := by decide +kernel
theorem dX4_next_163 : decode cX4_next 163 = .ok (.aload_n 0, 1) := by decide +kernel
theorem dX4_next_164 : decode cX4_next 164 = .ok (.getfield 69, 3) := by decide +kernel
theorem dX4_next_167 : decode cX4_next 167 = .ok (.iconst 2, 1) := by decide +kernel
theorem dX4_next_168 : decode cX4_next 168 = .ok (.if_icmp .ne 22, 3) := by decide +kernel
theorem dX4_next_171 : decode cX4_next 171 = .ok (.aload_n 0, 1) := by decide +kernel
theorem dX4_next_172 : decode cX4_next 172 = .ok (.getfield 63, 3) := by decide +kernel
theorem dX4_next_175 : decode cX4_next 175 = .ok (.aload_n 0, 1) := by decide +kernel
theorem dX4_next_176 : decode cX4_next 176 = .ok (.getfield 80, 3) := by decide +kernel
theorem dX4_next_179 : decode cX4_next 179 = .ok (.isub, 1) := by decide +kernel
theorem dX4_next_180 : decode cX4_next 180 = .ok (.iconst 4, 1) := by decide +kernel
theorem dX4_next_181 : decode cX4_next 181 = .ok (.if_icmp .le 9, 3) := by decide +kernel
theorem dX4_next_184 : decode cX4_next 184 = .ok (.aload_n 0, 1) := by decide +kernel
theorem dX4_next_185 : decode cX4_next 185 = .ok (.bipush 6, 2) := by decide +kernel
theorem dX4_next_187 : decode cX4_next 187 = .ok (.putfield 69, 3) := by decide +kernel
theorem dX4_next_190 : decode cX4_next 190 = .ok (.return_, 1) := by decide +kernel
theorem dX4_kindOf_0 : decode cX4_kindOf 0 = .ok (.iload_n 0, 1) := by decide +kernel
theorem dX4_kindOf_1 : decode cX4_kindOf 1 = .ok (.iconst (-1), 1) := by decide +kernel
theorem dX4_kindOf_2 : decode cX4_kindOf 2 = .ok (.if_icmp .ne 5, 3) := by decide +kernel
theorem dX4_kindOf_5 : decode cX4_kindOf 5 = .ok (.iconst 0, 1) := by decide +kernel
theorem dX4_kindOf_6 : decode cX4_kindOf 6 = .ok (.ireturn, 1) := by decide +kernel
theorem dX4_kindOf_7 : decode cX4_kindOf 7 = .ok (.iload_n 0, 1) := by decide +kernel
theorem dX4_kindOf_8 : decode cX4_kindOf 8 = .ok (.bipush 10, 2) := by decide +kernel
theorem dX4_kindOf_10 : decode cX4_kindOf 10 = .ok (.if_icmp .eq 9, 3) := by decide +kernel
theorem dX4_kindOf_13 : decode cX4_kindOf 13 = .ok (.iload_n 0, 1) := by decide +kernel
theorem dX4_kindOf_14 : decode cX4_kindOf 14 = .ok (.bipush 32, 2) := by decide +kernel
theorem dX4_kindOf_16 : decode cX4_kindOf 16 = .ok (.if_icmp .ne 5, 3) := by decide +kernel
theorem dX4_kindOf_19 : decode cX4_kindOf 19 = .ok (.iconst 5, 1) := by decide +kernel
theorem dX4_kindOf_20 : decode cX4_kindOf 20 = .ok (.ireturn, 1) := by decide +kernel
theorem dX4_kindOf_21 : decode cX4_kindOf 21 = .ok (.iload_n 0, 1) := by decide +kernel
theorem dX4_kindOf_22 : decode cX4_kindOf 22 = .ok (.bipush 97, 2) := by decide +kernel
theorem dX4_kindOf_24 : decode cX4_kindOf 24 = .ok (.if_icmp .lt 11, 3) := by decide +kernel
theorem dX4_kindOf_27 : decode cX4_kindOf 27 = .ok (.iload_n 0, 1) := by decide +kernel
theorem dX4_kindOf_28 : decode cX4_kindOf 28 = .ok (.bipush 122, 2) := by decide +kernel
theorem dX4_kindOf_30 : decode cX4_kindOf 30 = .ok (.if_icmp .gt 5, 3) := by decide +kernel
theorem dX4_kindOf_33 : decode cX4_kindOf 33 = .ok (.iconst 1, 1) := by decide +kernel
theorem dX4_kindOf_34 : decode cX4_kindOf 34 = .ok (.ireturn, 1) := by decide +kernel
theorem dX4_kindOf_35 : decode cX4_kindOf 35 = .ok (.iload_n 0, 1) := by decide +kernel
theorem dX4_kindOf_36 : decode cX4_kindOf 36 = .ok (.bipush 48, 2) := by decide +kernel
theorem dX4_kindOf_38 : decode cX4_kindOf 38 = .ok (.if_icmp .lt 11, 3) := by decide +kernel
theorem dX4_kindOf_41 : decode cX4_kindOf 41 = .ok (.iload_n 0, 1) := by decide +kernel
theorem dX4_kindOf_42 : decode cX4_kindOf 42 = .ok (.bipush 57, 2) := by decide +kernel
theorem dX4_kindOf_44 : decode cX4_kindOf 44 = .ok (.if_icmp .gt 5, 3) := by decide +kernel
theorem dX4_kindOf_47 : decode cX4_kindOf 47 = .ok (.iconst 2, 1) := by decide +kernel
theorem dX4_kindOf_48 : decode cX4_kindOf 48 = .ok (.ireturn, 1) := by decide +kernel
theorem dX4_kindOf_49 : decode cX4_kindOf 49 = .ok (.iload_n 0, 1) := by decide +kernel
theorem dX4_kindOf_50 : decode cX4_kindOf 50 = .ok (.bipush 45, 2) := by decide +kernel
theorem dX4_kindOf_52 : decode cX4_kindOf 52 = .ok (.if_icmp .ne 7, 3) := by decide +kernel
theorem dX4_kindOf_55 : decode cX4_kindOf 55 = .ok (.iconst 3, 1) := by decide +kernel
theorem dX4_kindOf_56 : decode cX4_kindOf 56 = .ok (.goto 15, 3) := by decide +kernel
theorem dX4_kindOf_59 : decode cX4_kindOf 59 = .ok (.iload_n 0, 1) := by decide +kernel
theorem dX4_kindOf_60 : decode cX4_kindOf 60 = .ok (.bipush 59, 2) := by decide +kernel
theorem dX4_kindOf_62 : decode cX4_kindOf 62 = .ok (.if_icmp .ne 7, 3) := by decide +kernel
theorem dX4_kindOf_65 : decode cX4_kindOf 65 = .ok (.iconst 4, 1) := by decide +kernel
theorem dX4_kindOf_66 : decode cX4_kindOf 66 = .ok (.goto 5, 3) := by decide +kernel
theorem dX4_kindOf_69 : decode cX4_kindOf 69 = .ok (.bipush 6, 2) := by decide +kernel
theorem dX4_kindOf_71 : decode cX4_kindOf 71 = .ok (.ireturn, 1) := by decide +kernel
theorem dX5_init_0 : decode cX5_init 0 = .ok (.aload_n 0, 1) := by decide +kernel
theorem dX5_init_1 : decode cX5_init 1 = .ok (.invokespecial 3, 3) := by decide +kernel
theorem dX5_init_4 : decode cX5_init 4 = .ok (.aload_n 0, 1) := by decide +kernel
theorem dX5_init_5 : decode cX5_init 5 = .ok (.bipush 12, 2) := by decide +kernel
theorem dX5_init_7 : decode cX5_init 7 = .ok (.newarray .int, 2) := by decide +kernel
theorem dX5_init_9 : decode cX5_init 9 = .ok (.putfield 9, 3) := by decide +kernel
theorem dX5_init_12 : decode cX5_init 12 = .ok (.return_, 1) := by decide +kernel
set_option maxRecDepth 20000 in
theorem dX5_clear_0 : decode cX5_clear 0 = .ok (.aload_n 0, 1) := by decide +kernel
theorem dX5_clear_1 : decode cX5_clear 1 = .ok (.iconst 5, 1) := by decide +kernel
theorem dX5_clear_2 : decode cX5_clear 2 = .ok (.putfield 15, 3) := by decide +kernel
theorem dX5_clear_5 : decode cX5_clear 5 = .ok (.aload_n 0, 1) := by decide +kernel
theorem dX5_clear_6 : decode cX5_clear 6 = .ok (.bipush 10, 2) := by decide +kernel
theorem dX5_clear_8 : decode cX5_clear 8 = .ok (.putfield 19, 3) := by decide +kernel
theorem dX5_clear_11 : decode cX5_clear 11 = .ok (.aload_n 0, 1) := by decide +kernel
theorem dX5_clear_12 : decode cX5_clear 12 = .ok (.iconst 0, 1) := by decide +kernel
theorem dX5_clear_13 : decode cX5_clear 13 = .ok (.putfield 22, 3) := by decide +kernel
theorem dX5_clear_16 : decode cX5_clear 16 = .ok (.aload_n 0, 1) := by decide +kernel
theorem dX5_clear_17 : decode cX5_clear 17 = .ok (.bipush 35, 2) := by decide +kernel
theorem dX5_clear_19 : decode cX5_clear 19 = .ok (.putfield 25, 3) := by decide +kernel
theorem dX5_clear_22 : decode cX5_clear 22 = .ok (.aload_n 0, 1) := by decide +kernel
theorem dX5_clear_23 : decode cX5_clear 23 = .ok (.bipush 35, 2) := by decide +kernel
theorem dX5_clear_25 : decode cX5_clear 25 = .ok (.putfield 28, 3) := by decide +kernel
theorem dX5_clear_28 : decode cX5_clear 28 = .ok (.aload_n 0, 1) := by decide +kernel
theorem dX5_clear_29 : decode cX5_clear 29 = .ok (.iconst 0, 1) := by decide +kernel
theorem dX5_clear_30 : decode cX5_clear 30 = .ok (.putfield 31, 3) := by decide +kernel
theorem dX5_clear_33 : decode cX5_clear 33 = .ok (.aload_n 0, 1) := by decide +kernel
theorem dX5_clear_34 : decode cX5_clear 34 = .ok (.iconst 0, 1) := by decide +kernel
theorem dX5_clear_35 : decode cX5_clear 35 = .ok (.putfield 34, 3) := by decide +kernel
theorem dX5_clear_38 : decode cX5_clear 38 = .ok (.aload_n 0, 1) := by decide +kernel
theorem dX5_clear_39 : decode cX5_clear 39 = .ok (.iconst 0, 1) := by decide +kernel
theorem dX5_clear_40 : decode cX5_clear 40 = .ok (.putfield 37, 3) := by decide +kernel
theorem dX5_clear_43 : decode cX5_clear 43 = .ok (.aload_n 0, 1) := by decide +kernel
theorem dX5_clear_44 : decode cX5_clear 44 = .ok (.iconst 0, 1) := by decide +kernel
theorem dX5_clear_45 : decode cX5_clear 45 = .ok (.putfield 40, 3) := by decide +kernel
theorem dX5_clear_48 : decode cX5_clear 48 = .ok (.aload_n 0, 1) := by decide +kernel
theorem dX5_clear_49 : decode cX5_clear 49 = .ok (.iconst 0, 1) := by decide +kernel
theorem dX5_clear_50 : decode cX5_clear 50 = .ok (.putfield 43, 3) := by decide +kernel
theorem dX5_clear_53 : decode cX5_clear 53 = .ok (.aload_n 0, 1) := by decide +kernel
theorem dX5_clear_54 : decode cX5_clear 54 = .ok (.iconst 1, 1) := by decide +kernel
theorem dX5_clear_55 : decode cX5_clear 55 = .ok (.putfield 46, 3) := by decide +kernel
theorem dX5_clear_58 : decode cX5_clear 58 = .ok (.aload_n 0, 1) := by decide +kernel
theorem dX5_clear_59 : decode cX5_clear 59 = .ok (.getfield 9, 3) := by decide +kernel
theorem dX5_clear_62 : decode cX5_clear 62 = .ok (.iconst 0, 1) := by decide +kernel
theorem dX5_clear_63 : decode cX5_clear 63 = .ok (.iconst 0, 1) := by decide +kernel
theorem dX5_clear_64 : decode cX5_clear 64 = .ok (.invokestatic 49, 3) := by decide +kernel
theorem dX5_clear_67 : decode cX5_clear 67 = .ok (.return_, 1) := by decide +kernel
set_option maxRecDepth 20000 in
theorem dX5_copy_0 : decode cX5_copy 0 = .ok (.aload_n 1, 1) := by decide +kernel
theorem dX5_copy_1 : decode cX5_copy 1 = .ok (.ifnonnull 4, 3) := by decide +kernel
theorem dX5_copy_4 : decode cX5_copy 4 = .ok (.return_, 1) := by decide +kernel
theorem dX5_copy_5 : decode cX5_copy 5 = .ok (.iconst 0, 1) := by decide +kernel
theorem dX5_copy_6 : decode cX5_copy 6 = .ok (.istore_n 2, 1) := by decide +kernel
theorem dX5_copy_7 : decode cX5_copy 7 = .ok (.iload_n 2, 1) := by decide +kernel
theorem dX5_copy_8 : decode cX5_copy 8 = .ok (.bipush 9, 2) := by decide +kernel
theorem dX5_copy_10 : decode cX5_copy 10 = .ok (.if_icmp .gt 19, 3) := by decide +kernel
theorem dX5_copy_13 : decode cX5_copy 13 = .ok (.aload_n 0, 1) := by decide +kernel
theorem dX5_copy_14 : decode cX5_copy 14 = .ok (.iload_n 2, 1) := by decide +kernel
theorem dX5_copy_15 : decode cX5_copy 15 = .ok (.aload_n 1, 1) := by decide +kernel
theorem dX5_copy_16 : decode cX5_copy 16 = .ok (.iload_n 2, 1) := by decide +kernel
theorem dX5_copy_17 : decode cX5_copy 17 = .ok (.invokevirtual 53, 3) := by decide +kernel
theorem dX5_copy_20 : decode cX5_copy 20 = .ok (.invokevirtual 57, 3) := by decide +kernel
theorem dX5_copy_23 : decode cX5_copy 23 = .ok (.iinc 2 1, 3) := by decide +kernel
theorem dX5_copy_26 : decode cX5_copy 26 = .ok (.goto (-19), 3) := by decide +kernel
theorem dX5_copy_29 : decode cX5_copy 29 = .ok (.aload_n 0, 1) := by decide +kernel
theorem dX5_copy_30 : decode cX5_copy 30 = .ok (.aload_n 1, 1) := by decide +kernel
theorem dX5_copy_31 : decode cX5_copy 31 = .ok (.getfield 46, 3) := by decide +kernel
theorem dX5_copy_34 : decode cX5_copy 34 = .ok (.putfield 46, 3) := by decide +kernel
theorem dX5_copy_37 : decode cX5_copy 37 = .ok (.aload_n 1, 1) := by decide +kernel
theorem dX5_copy_38 : decode cX5_copy 38 = .ok (.getfield 9, 3) := by decide +kernel
theorem dX5_copy_41 : decode cX5_copy 41 = .ok (.aload_n 0, 1) := by decide +kernel
theorem dX5_copy_42 : decode cX5_copy 42 = .ok (.getfield 9, 3) := by decide +kernel
theorem dX5_copy_45 : decode cX5_copy 45 = .ok (.invokestatic 61, 3) := by decide +kernel
theorem dX5_copy_48 : decode cX5_copy 48 = .ok (.return_, 1) := by decide +kernel
theorem dX5_write_0 : decode cX5_write 0 = .ok (.iload_n 1, 1) := by decide +kernel
theorem dX5_write_1 : decode cX5_write 1 = .ok (.tableswitch 135 0 9 #[55, 63, 71, 79, 87, 95, 103, 111, 119, 127], 55) := by decide +kernel
theorem dX5_write_56 : decode cX5_write 56 = .ok (.aload_n 0, 1) := by decide +kernel
theorem dX5_write_57 : decode cX5_write 57 = .ok (.iload_n 2, 1) := by decide +kernel
theorem dX5_write_58 : decode cX5_write 58 = .ok (.putfield 15, 3) := by decide +kernel
theorem dX5_write_61 : decode cX5_write 61 = .ok (.goto 75, 3) := by decide +kernel
theorem dX5_write_64 : decode cX5_write 64 = .ok (.aload_n 0, 1) := by decide +kernel
theorem dX5_write_65 : decode cX5_write 65 = .ok (.iload_n 2, 1) := by decide +kernel
theorem dX5_write_66 : decode cX5_write 66 = .ok (.putfield 19, 3) := by decide +kernel
theorem dX5_write_69 : decode cX5_write 69 = .ok (.goto 67, 3) := by decide +kernel
theorem dX5_write_72 : decode cX5_write 72 = .ok (.aload_n 0, 1) := by decide +kernel
theorem dX5_write_73 : decode cX5_write 73 = .ok (.iload_n 2, 1) := by decide +kernel
theorem dX5_write_74 : decode cX5_write 74 = .ok (.putfield 22, 3) := by decide +kernel
theorem dX5_write_77 : decode cX5_write 77 = .ok (.goto 59, 3) := by decide +kernel
theorem dX5_write_80 : decode cX5_write 80 = .ok (.aload_n 0, 1) := by decide +kernel
theorem dX5_write_81 : decode cX5_write 81 = .ok (.iload_n 2, 1) := by decide +kernel
theorem dX5_write_82 : decode cX5_write 82 = .ok (.putfield 25, 3) := by decide +kernel
theorem dX5_write_85 : decode cX5_write 85 = .ok (.goto 51, 3) := by decide +kernel
theorem dX5_write_88 : decode cX5_write 88 = .ok (.aload_n 0, 1) := by decide +kernel
theorem dX5_write_89 : decode cX5_write 89 = .ok (.iload_n 2, 1) := by decide +kernel
theorem dX5_write_90 : decode cX5_write 90 = .ok (.putfield 28, 3) := by decide +kernel
theorem dX5_write_93 : decode cX5_write 93 = .ok (.goto 43, 3) := by decide +kernel
theorem dX5_write_96 : decode cX5_write 96 = .ok (.aload_n 0, 1) := by decide +kernel
theorem dX5_write_97 : decode cX5_write 97 = .ok (.iload_n 2, 1) := by decide +kernel
theorem dX5_write_98 : decode cX5_write 98 = .ok (.putfield 31, 3) := by decide +kernel
theorem dX5_write_101 : decode cX5_write 101 = .ok (.goto 35, 3) := by decide +kernel
theorem dX5_write_104 : decode cX5_write 104 = .ok (.aload_n 0, 1) := by decide +kernel
theorem dX5_write_105 : decode cX5_write 105 = .ok (.iload_n 2, 1) := by decide +kernel
theorem dX5_write_106 : decode cX5_write 106 = .ok (.putfield 34, 3) := by decide +kernel
theorem dX5_write_109 : decode cX5_write 109 = .ok (.goto 27, 3) := by decide +kernel
theorem dX5_write_112 : decode cX5_write 112 = .ok (.aload_n 0, 1) := by decide +kernel
theorem dX5_write_113 : decode cX5_write 113 = .ok (.iload_n 2, 1) := by decide +kernel
theorem dX5_write_114 : decode cX5_write 114 = .ok (.putfield 37, 3) := by decide +kernel
theorem dX5_write_117 : decode cX5_write 117 = .ok (.goto 19, 3) := by decide +kernel
theorem dX5_write_120 : decode cX5_write 120 = .ok (.aload_n 0, 1) := by decide +kernel
theorem dX5_write_121 : decode cX5_write 121 = .ok (.iload_n 2, 1) := by decide +kernel
theorem dX5_write_122 : decode cX5_write 122 = .ok (.putfield 40, 3) := by decide +kernel
theorem dX5_write_125 : decode cX5_write 125 = .ok (.goto 11, 3) := by decide +kernel
theorem dX5_write_128 : decode cX5_write 128 = .ok (.aload_n 0, 1) := by decide +kernel
theorem dX5_write_129 : decode cX5_write 129 = .ok (.iload_n 2, 1) := by decide +kernel
theorem dX5_write_130 : decode cX5_write 130 = .ok (.putfield 43, 3) := by decide +kernel
theorem dX5_write_133 : decode cX5_write 133 = .ok (.goto 3, 3) := by decide +kernel
theorem dX5_write_136 : decode cX5_write 136 = .ok (.return_, 1) := by decide +kernel
set_option maxRecDepth 20000 in
theorem dX5_look_0 : decode cX5_look 0 = .ok (.iload_n 1, 1) := by decide +kernel
theorem dX5_look_1 : decode cX5_look 1 = .ok (.tableswitch 114 0 10 #[59, 64, 69, 74, 79, 84, 89, 94, 99, 104, 109], 59) := by decide +kernel
theorem dX5_look_60 : decode cX5_look 60 = .ok (.aload_n 0, 1) := by decide +kernel
theorem dX5_look_61 : decode cX5_look 61 = .ok (.getfield 15, 3) := by decide +kernel
theorem dX5_look_64 : decode cX5_look 64 = .ok (.ireturn, 1) := by decide +kernel
theorem dX5_look_65 : decode cX5_look 65 = .ok (.aload_n 0, 1) := by decide +kernel
theorem dX5_look_66 : decode cX5_look 66 = .ok (.getfield 19, 3) := by decide +kernel
theorem dX5_look_69 : decode cX5_look 69 = .ok (.ireturn, 1) := by decide +kernel
theorem dX5_look_70 : decode cX5_look 70 = .ok (.aload_n 0, 1) := by decide +kernel
theorem dX5_look_71 : decode cX5_look 71 = .ok (.getfield 22, 3) := by decide +kernel
theorem dX5_look_74 : decode cX5_look 74 = .ok (.ireturn, 1) := by decide +kernel
theorem dX5_look_75 : decode cX5_look 75 = .ok (.aload_n 0, 1) := by decide +kernel
theorem dX5_look_76 : decode cX5_look 76 = .ok (.getfield 25, 3) := by decide +kernel
theorem dX5_look_79 : decode cX5_look 79 = .ok (.ireturn, 1) := by decide +kernel
theorem dX5_look_80 : decode cX5_look 80 = .ok (.aload_n 0, 1) := by decide +kernel
theorem dX5_look_81 : decode cX5_look 81 = .ok (.getfield 28, 3) := by decide +kernel
theorem dX5_look_84 : decode cX5_look 84 = .ok (.ireturn, 1) := by decide +kernel
theorem dX5_look_85 : decode cX5_look 85 = .ok (.aload_n 0, 1) := by decide +kernel
theorem dX5_look_86 : decode cX5_look 86 = .ok (.getfield 31, 3) := by decide +kernel
theorem dX5_look_89 : decode cX5_look 89 = .ok (.ireturn, 1) := by decide +kernel
theorem dX5_look_90 : decode cX5_look 90 = .ok (.aload_n 0, 1) := by decide +kernel
theorem dX5_look_91 : decode cX5_look 91 = .ok (.getfield 34, 3) := by decide +kernel
theorem dX5_look_94 : decode cX5_look 94 = .ok (.ireturn, 1) := by decide +kernel
theorem dX5_look_95 : decode cX5_look 95 = .ok (.aload_n 0, 1) := by decide +kernel
theorem dX5_look_96 : decode cX5_look 96 = .ok (.getfield 37, 3) := by decide +kernel
theorem dX5_look_99 : decode cX5_look 99 = .ok (.ireturn, 1) := by decide +kernel
theorem dX5_look_100 : decode cX5_look 100 = .ok (.aload_n 0, 1) := by decide +kernel
theorem dX5_look_101 : decode cX5_look 101 = .ok (.getfield 40, 3) := by decide +kernel
theorem dX5_look_104 : decode cX5_look 104 = .ok (.ireturn, 1) := by decide +kernel
theorem dX5_look_105 : decode cX5_look 105 = .ok (.aload_n 0, 1) := by decide +kernel
theorem dX5_look_106 : decode cX5_look 106 = .ok (.getfield 43, 3) := by decide +kernel
theorem dX5_look_109 : decode cX5_look 109 = .ok (.ireturn, 1) := by decide +kernel
theorem dX5_look_110 : decode cX5_look 110 = .ok (.aload_n 0, 1) := by decide +kernel
theorem dX5_look_111 : decode cX5_look 111 = .ok (.getfield 46, 3) := by decide +kernel
theorem dX5_look_114 : decode cX5_look 114 = .ok (.ireturn, 1) := by decide +kernel
theorem dX5_look_115 : decode cX5_look 115 = .ok (.iload_n 1, 1) := by decide +kernel
theorem dX5_look_116 : decode cX5_look 116 = .ok (.bipush 20, 2) := by decide +kernel
theorem dX5_look_118 : decode cX5_look 118 = .ok (.if_icmp .lt 28, 3) := by decide +kernel
theorem dX5_look_121 : decode cX5_look 121 = .ok (.iload_n 1, 1) := by decide +kernel
theorem dX5_look_122 : decode cX5_look 122 = .ok (.bipush 20, 2) := by decide +kernel
theorem dX5_look_124 : decode cX5_look 124 = .ok (.aload_n 0, 1) := by decide +kernel
theorem dX5_look_125 : decode cX5_look 125 = .ok (.getfield 46, 3) := by decide +kernel
theorem dX5_look_128 : decode cX5_look 128 = .ok (.iadd, 1) := by decide +kernel
theorem dX5_look_129 : decode cX5_look 129 = .ok (.if_icmp .ge 17, 3) := by decide +kernel
theorem dX5_look_132 : decode cX5_look 132 = .ok (.aload_n 0, 1) := by decide +kernel
theorem dX5_look_133 : decode cX5_look 133 = .ok (.getfield 9, 3) := by decide +kernel
theorem dX5_look_136 : decode cX5_look 136 = .ok (.iload_n 1, 1) := by decide +kernel
theorem dX5_look_137 : decode cX5_look 137 = .ok (.bipush 20, 2) := by decide +kernel
theorem dX5_look_139 : decode cX5_look 139 = .ok (.isub, 1) := by decide +kernel
theorem dX5_look_140 : decode cX5_look 140 = .ok (.invokestatic 65, 3) := by decide +kernel
theorem dX5_look_143 : decode cX5_look 143 = .ok (.goto 5, 3) := by decide +kernel
theorem dX5_look_146 : decode cX5_look 146 = .ok (.ldc 69, 2) := by decide +kernel
theorem dX5_look_148 : decode cX5_look 148 = .ok (.ireturn, 1) := by decide +kernel
set_option maxRecDepth 20000 in
theorem dX5_addSea_0 : decode cX5_addSea 0 = .ok (.aload_n 0, 1) := by decide +kernel
theorem dX5_addSea_1 : decode cX5_addSea 1 = .ok (.getfield 46, 3) := by decide +kernel
theorem dX5_addSea_4 : decode cX5_addSea 4 = .ok (.bipush 12, 2) := by decide +kernel
theorem dX5_addSea_6 : decode cX5_addSea 6 = .ok (.if_icmp .lt 5, 3) := by decide +kernel
theorem dX5_addSea_9 : decode cX5_addSea 9 = .ok (.iconst 0, 1) := by decide +kernel
theorem dX5_addSea_10 : decode cX5_addSea 10 = .ok (.ireturn, 1) := by decide +kernel
theorem dX5_addSea_11 : decode cX5_addSea 11 = .ok (.aload_n 0, 1) := by decide +kernel
theorem dX5_addSea_12 : decode cX5_addSea 12 = .ok (.getfield 9, 3) := by decide +kernel
theorem dX5_addSea_15 : decode cX5_addSea 15 = .ok (.aload_n 0, 1) := by decide +kernel
theorem dX5_addSea_16 : decode cX5_addSea 16 = .ok (.getfield 46, 3) := by decide +kernel
theorem dX5_addSea_19 : decode cX5_addSea 19 = .ok (.iload_n 1, 1) := by decide +kernel
theorem dX5_addSea_20 : decode cX5_addSea 20 = .ok (.invokestatic 49, 3) := by decide +kernel
theorem dX5_addSea_23 : decode cX5_addSea 23 = .ok (.aload_n 0, 1) := by decide +kernel
theorem dX5_addSea_24 : decode cX5_addSea 24 = .ok (.dup, 1) := by decide +kernel
theorem dX5_addSea_25 : decode cX5_addSea 25 = .ok (.getfield 46, 3) := by decide +kernel
theorem dX5_addSea_28 : decode cX5_addSea 28 = .ok (.iconst 1, 1) := by decide +kernel
theorem dX5_addSea_29 : decode cX5_addSea 29 = .ok (.iadd, 1) := by decide +kernel
theorem dX5_addSea_30 : decode cX5_addSea 30 = .ok (.putfield 46, 3) := by decide +kernel
theorem dX5_addSea_33 : decode cX5_addSea 33 = .ok (.iconst 1, 1) := by decide +kernel
theorem dX5_addSea_34 : decode cX5_addSea 34 = .ok (.ireturn, 1) := by decide +kernel
set_option maxRecDepth 20000 in
theorem dX5_takeSeas_0 : decode cX5_takeSeas 0 = .ok (.aload_n 1, 1) := by decide +kernel
theorem dX5_takeSeas_1 : decode cX5_takeSeas 1 = .ok (.ifnonnull 4, 3) := by decide +kernel
theorem dX5_takeSeas_4 : decode cX5_takeSeas 4 = .ok (.return_, 1) := by decide +kernel
theorem dX5_takeSeas_5 : decode cX5_takeSeas 5 = .ok (.aload_n 0, 1) := by decide +kernel
theorem dX5_takeSeas_6 : decode cX5_takeSeas 6 = .ok (.aload_n 1, 1) := by decide +kernel
theorem dX5_takeSeas_7 : decode cX5_takeSeas 7 = .ok (.getfield 46, 3) := by decide +kernel
theorem dX5_takeSeas_10 : decode cX5_takeSeas 10 = .ok (.putfield 46, 3) := by decide +kernel
theorem dX5_takeSeas_13 : decode cX5_takeSeas 13 = .ok (.iconst 0, 1) := by decide +kernel
theorem dX5_takeSeas_14 : decode cX5_takeSeas 14 = .ok (.istore_n 3, 1) := by decide +kernel
theorem dX5_takeSeas_15 : decode cX5_takeSeas 15 = .ok (.iload_n 3, 1) := by decide +kernel
theorem dX5_takeSeas_16 : decode cX5_takeSeas 16 = .ok (.aload_n 0, 1) := by decide +kernel
theorem dX5_takeSeas_17 : decode cX5_takeSeas 17 = .ok (.getfield 46, 3) := by decide +kernel
theorem dX5_takeSeas_20 : decode cX5_takeSeas 20 = .ok (.if_icmp .ge 27, 3) := by decide +kernel
theorem dX5_takeSeas_23 : decode cX5_takeSeas 23 = .ok (.aload_n 0, 1) := by decide +kernel
theorem dX5_takeSeas_24 : decode cX5_takeSeas 24 = .ok (.getfield 9, 3) := by decide +kernel
theorem dX5_takeSeas_27 : decode cX5_takeSeas 27 = .ok (.iload_n 3, 1) := by decide +kernel
theorem dX5_takeSeas_28 : decode cX5_takeSeas 28 = .ok (.iload_n 2, 1) := by decide +kernel
theorem dX5_takeSeas_29 : decode cX5_takeSeas 29 = .ok (.aload_n 1, 1) := by decide +kernel
theorem dX5_takeSeas_30 : decode cX5_takeSeas 30 = .ok (.getfield 9, 3) := by decide +kernel
theorem dX5_takeSeas_33 : decode cX5_takeSeas 33 = .ok (.iload_n 3, 1) := by decide +kernel
theorem dX5_takeSeas_34 : decode cX5_takeSeas 34 = .ok (.invokestatic 65, 3) := by decide +kernel
theorem dX5_takeSeas_37 : decode cX5_takeSeas 37 = .ok (.imul, 1) := by decide +kernel
theorem dX5_takeSeas_38 : decode cX5_takeSeas 38 = .ok (.invokestatic 49, 3) := by decide +kernel
theorem dX5_takeSeas_41 : decode cX5_takeSeas 41 = .ok (.iinc 3 1, 3) := by decide +kernel
theorem dX5_takeSeas_44 : decode cX5_takeSeas 44 = .ok (.goto (-29), 3) := by decide +kernel
theorem dX5_takeSeas_47 : decode cX5_takeSeas 47 = .ok (.return_, 1) := by decide +kernel
set_option maxRecDepth 20000 in
theorem dX5_seaOf_0 : decode cX5_seaOf 0 = .ok (.aload_n 0, 1) := by decide +kernel
theorem dX5_seaOf_1 : decode cX5_seaOf 1 = .ok (.getfield 46, 3) := by decide +kernel
theorem dX5_seaOf_4 : decode cX5_seaOf 4 = .ok (.ifCond .le 21, 3) := by decide +kernel
theorem dX5_seaOf_7 : decode cX5_seaOf 7 = .ok (.aload_n 0, 1) := by decide +kernel
theorem dX5_seaOf_8 : decode cX5_seaOf 8 = .ok (.getfield 9, 3) := by decide +kernel
theorem dX5_seaOf_11 : decode cX5_seaOf 11 = .ok (.iload_n 1, 1) := by decide +kernel
theorem dX5_seaOf_12 : decode cX5_seaOf 12 = .ok (.iconst 1, 1) := by decide +kernel
theorem dX5_seaOf_13 : decode cX5_seaOf 13 = .ok (.isub, 1) := by decide +kernel
theorem dX5_seaOf_14 : decode cX5_seaOf 14 = .ok (.aload_n 0, 1) := by decide +kernel
theorem dX5_seaOf_15 : decode cX5_seaOf 15 = .ok (.getfield 46, 3) := by decide +kernel
theorem dX5_seaOf_18 : decode cX5_seaOf 18 = .ok (.irem, 1) := by decide +kernel
theorem dX5_seaOf_19 : decode cX5_seaOf 19 = .ok (.invokestatic 65, 3) := by decide +kernel
theorem dX5_seaOf_22 : decode cX5_seaOf 22 = .ok (.goto 4, 3) := by decide +kernel
theorem dX5_seaOf_25 : decode cX5_seaOf 25 = .ok (.iconst 0, 1) := by decide +kernel
theorem dX5_seaOf_26 : decode cX5_seaOf 26 = .ok (.ireturn, 1) := by decide +kernel
theorem dX6_init_0 : decode cX6_init 0 = .ok (.aload_n 0, 1) := by decide +kernel
theorem dX6_init_1 : decode cX6_init 1 = .ok (.invokespecial 3, 3) := by decide +kernel
theorem dX6_init_4 : decode cX6_init 4 = .ok (.aload_n 0, 1) := by decide +kernel
theorem dX6_init_5 : decode cX6_init 5 = .ok (.sipush 600, 3) := by decide +kernel
theorem dX6_init_8 : decode cX6_init 8 = .ok (.newarray .byte, 2) := by decide +kernel
theorem dX6_init_10 : decode cX6_init 10 = .ok (.putfield 9, 3) := by decide +kernel
theorem dX6_init_13 : decode cX6_init 13 = .ok (.return_, 1) := by decide +kernel
set_option maxRecDepth 20000 in
theorem dX6_addWord_0 : decode cX6_addWord 0 = .ok (.aload_n 0, 1) := by decide +kernel
theorem dX6_addWord_1 : decode cX6_addWord 1 = .ok (.iload_n 1, 1) := by decide +kernel
theorem dX6_addWord_2 : decode cX6_addWord 2 = .ok (.bipush 24, 2) := by decide +kernel
theorem dX6_addWord_4 : decode cX6_addWord 4 = .ok (.iushr, 1) := by decide +kernel
theorem dX6_addWord_5 : decode cX6_addWord 5 = .ok (.invokevirtual 15, 3) := by decide +kernel
theorem dX6_addWord_8 : decode cX6_addWord 8 = .ok (.aload_n 0, 1) := by decide +kernel
theorem dX6_addWord_9 : decode cX6_addWord 9 = .ok (.iload_n 1, 1) := by decide +kernel
theorem dX6_addWord_10 : decode cX6_addWord 10 = .ok (.bipush 16, 2) := by decide +kernel
theorem dX6_addWord_12 : decode cX6_addWord 12 = .ok (.iushr, 1) := by decide +kernel
theorem dX6_addWord_13 : decode cX6_addWord 13 = .ok (.invokevirtual 15, 3) := by decide +kernel
theorem dX6_addWord_16 : decode cX6_addWord 16 = .ok (.aload_n 0, 1) := by decide +kernel
theorem dX6_addWord_17 : decode cX6_addWord 17 = .ok (.iload_n 1, 1) := by decide +kernel
theorem dX6_addWord_18 : decode cX6_addWord 18 = .ok (.bipush 8, 2) := by decide +kernel
theorem dX6_addWord_20 : decode cX6_addWord 20 = .ok (.iushr, 1) := by decide +kernel
theorem dX6_addWord_21 : decode cX6_addWord 21 = .ok (.invokevirtual 15, 3) := by decide +kernel
theorem dX6_addWord_24 : decode cX6_addWord 24 = .ok (.aload_n 0, 1) := by decide +kernel
theorem dX6_addWord_25 : decode cX6_addWord 25 = .ok (.iload_n 1, 1) := by decide +kernel
theorem dX6_addWord_26 : decode cX6_addWord 26 = .ok (.invokevirtual 15, 3) := by decide +kernel
theorem dX6_addWord_29 : decode cX6_addWord 29 = .ok (.return_, 1) := by decide +kernel
theorem dX6_addByte_0 : decode cX6_addByte 0 = .ok (.aload_n 0, 1) := by decide +kernel
theorem dX6_addByte_1 : decode cX6_addByte 1 = .ok (.getfield 19, 3) := by decide +kernel
theorem dX6_addByte_4 : decode cX6_addByte 4 = .ok (.ifCond .lt 36, 3) := by decide +kernel
theorem dX6_addByte_7 : decode cX6_addByte 7 = .ok (.aload_n 0, 1) := by decide +kernel
theorem dX6_addByte_8 : decode cX6_addByte 8 = .ok (.getfield 19, 3) := by decide +kernel
theorem dX6_addByte_11 : decode cX6_addByte 11 = .ok (.aload_n 0, 1) := by decide +kernel
theorem dX6_addByte_12 : decode cX6_addByte 12 = .ok (.getfield 9, 3) := by decide +kernel
theorem dX6_addByte_15 : decode cX6_addByte 15 = .ok (.arraylength, 1) := by decide +kernel
theorem dX6_addByte_16 : decode cX6_addByte 16 = .ok (.if_icmp .ge 24, 3) := by decide +kernel
theorem dX6_addByte_19 : decode cX6_addByte 19 = .ok (.aload_n 0, 1) := by decide +kernel
theorem dX6_addByte_20 : decode cX6_addByte 20 = .ok (.getfield 9, 3) := by decide +kernel
theorem dX6_addByte_23 : decode cX6_addByte 23 = .ok (.aload_n 0, 1) := by decide +kernel
theorem dX6_addByte_24 : decode cX6_addByte 24 = .ok (.getfield 19, 3) := by decide +kernel
theorem dX6_addByte_27 : decode cX6_addByte 27 = .ok (.iload_n 1, 1) := by decide +kernel
theorem dX6_addByte_28 : decode cX6_addByte 28 = .ok (.i2b, 1) := by decide +kernel
theorem dX6_addByte_29 : decode cX6_addByte 29 = .ok (.bastore, 1) := by decide +kernel
theorem dX6_addByte_30 : decode cX6_addByte 30 = .ok (.aload_n 0, 1) := by decide +kernel
theorem dX6_addByte_31 : decode cX6_addByte 31 = .ok (.dup, 1) := by decide +kernel
theorem dX6_addByte_32 : decode cX6_addByte 32 = .ok (.getfield 19, 3) := by decide +kernel
theorem dX6_addByte_35 : decode cX6_addByte 35 = .ok (.iconst 1, 1) := by decide +kernel
theorem dX6_addByte_36 : decode cX6_addByte 36 = .ok (.iadd, 1) := by decide +kernel
theorem dX6_addByte_37 : decode cX6_addByte 37 = .ok (.putfield 19, 3) := by decide +kernel
theorem dX6_addByte_40 : decode cX6_addByte 40 = .ok (.return_, 1) := by decide +kernel
theorem dX6_byteAt_0 : decode cX6_byteAt 0 = .ok (.iload_n 1, 1) := by decide +kernel
theorem dX6_byteAt_1 : decode cX6_byteAt 1 = .ok (.ifCond .lt 33, 3) := by decide +kernel
theorem dX6_byteAt_4 : decode cX6_byteAt 4 = .ok (.iload_n 1, 1) := by decide +kernel
theorem dX6_byteAt_5 : decode cX6_byteAt 5 = .ok (.aload_n 0, 1) := by decide +kernel
theorem dX6_byteAt_6 : decode cX6_byteAt 6 = .ok (.getfield 19, 3) := by decide +kernel
theorem dX6_byteAt_9 : decode cX6_byteAt 9 = .ok (.if_icmp .ge 25, 3) := by decide +kernel
theorem dX6_byteAt_12 : decode cX6_byteAt 12 = .ok (.iload_n 1, 1) := by decide +kernel
theorem dX6_byteAt_13 : decode cX6_byteAt 13 = .ok (.aload_n 0, 1) := by decide +kernel
theorem dX6_byteAt_14 : decode cX6_byteAt 14 = .ok (.getfield 9, 3) := by decide +kernel
theorem dX6_byteAt_17 : decode cX6_byteAt 17 = .ok (.arraylength, 1) := by decide +kernel
theorem dX6_byteAt_18 : decode cX6_byteAt 18 = .ok (.if_icmp .ge 16, 3) := by decide +kernel
theorem dX6_byteAt_21 : decode cX6_byteAt 21 = .ok (.aload_n 0, 1) := by decide +kernel
theorem dX6_byteAt_22 : decode cX6_byteAt 22 = .ok (.getfield 9, 3) := by decide +kernel
theorem dX6_byteAt_25 : decode cX6_byteAt 25 = .ok (.iload_n 1, 1) := by decide +kernel
theorem dX6_byteAt_26 : decode cX6_byteAt 26 = .ok (.baload, 1) := by decide +kernel
theorem dX6_byteAt_27 : decode cX6_byteAt 27 = .ok (.sipush 255, 3) := by decide +kernel
theorem dX6_byteAt_30 : decode cX6_byteAt 30 = .ok (.iand, 1) := by decide +kernel
theorem dX6_byteAt_31 : decode cX6_byteAt 31 = .ok (.goto 4, 3) := by decide +kernel
theorem dX6_byteAt_34 : decode cX6_byteAt 34 = .ok (.iconst (-1), 1) := by decide +kernel
theorem dX6_byteAt_35 : decode cX6_byteAt 35 = .ok (.ireturn, 1) := by decide +kernel
theorem dX6_copy_0 : decode cX6_copy 0 = .ok (.aload_n 1, 1) := by decide +kernel
theorem dX6_copy_1 : decode cX6_copy 1 = .ok (.ifnull 37, 3) := by decide +kernel
theorem dX6_copy_4 : decode cX6_copy 4 = .ok (.aload_n 1, 1) := by decide +kernel
theorem dX6_copy_5 : decode cX6_copy 5 = .ok (.getfield 9, 3) := by decide +kernel
theorem dX6_copy_8 : decode cX6_copy 8 = .ok (.iconst 0, 1) := by decide +kernel
theorem dX6_copy_9 : decode cX6_copy 9 = .ok (.aload_n 0, 1) := by decide +kernel
theorem dX6_copy_10 : decode cX6_copy 10 = .ok (.getfield 9, 3) := by decide +kernel
theorem dX6_copy_13 : decode cX6_copy 13 = .ok (.iconst 0, 1) := by decide +kernel
theorem dX6_copy_14 : decode cX6_copy 14 = .ok (.aload_n 1, 1) := by decide +kernel
theorem dX6_copy_15 : decode cX6_copy 15 = .ok (.getfield 9, 3) := by decide +kernel
theorem dX6_copy_18 : decode cX6_copy 18 = .ok (.arraylength, 1) := by decide +kernel
theorem dX6_copy_19 : decode cX6_copy 19 = .ok (.aload_n 0, 1) := by decide +kernel
theorem dX6_copy_20 : decode cX6_copy 20 = .ok (.getfield 9, 3) := by decide +kernel
theorem dX6_copy_23 : decode cX6_copy 23 = .ok (.arraylength, 1) := by decide +kernel
theorem dX6_copy_24 : decode cX6_copy 24 = .ok (.invokestatic 23, 3) := by decide +kernel
theorem dX6_copy_27 : decode cX6_copy 27 = .ok (.invokestatic 29, 3) := by decide +kernel
theorem dX6_copy_30 : decode cX6_copy 30 = .ok (.aload_n 0, 1) := by decide +kernel
theorem dX6_copy_31 : decode cX6_copy 31 = .ok (.aload_n 1, 1) := by decide +kernel
theorem dX6_copy_32 : decode cX6_copy 32 = .ok (.getfield 19, 3) := by decide +kernel
theorem dX6_copy_35 : decode cX6_copy 35 = .ok (.putfield 19, 3) := by decide +kernel
theorem dX6_copy_38 : decode cX6_copy 38 = .ok (.return_, 1) := by decide +kernel
theorem dX7_init_0 : decode cX7_init 0 = .ok (.aload_n 0, 1) := by decide +kernel
theorem dX7_init_1 : decode cX7_init 1 = .ok (.invokespecial 3, 3) := by decide +kernel
theorem dX7_init_4 : decode cX7_init 4 = .ok (.aload_n 0, 1) := by decide +kernel
theorem dX7_init_5 : decode cX7_init 5 = .ok (.bipush 8, 2) := by decide +kernel
theorem dX7_init_7 : decode cX7_init 7 = .ok (.newarray .int, 2) := by decide +kernel
theorem dX7_init_9 : decode cX7_init 9 = .ok (.putfield 9, 3) := by decide +kernel
theorem dX7_init_12 : decode cX7_init 12 = .ok (.aload_n 0, 1) := by decide +kernel
theorem dX7_init_13 : decode cX7_init 13 = .ok (.bipush 8, 2) := by decide +kernel
theorem dX7_init_15 : decode cX7_init 15 = .ok (.newarray .int, 2) := by decide +kernel
theorem dX7_init_17 : decode cX7_init 17 = .ok (.putfield 15, 3) := by decide +kernel
theorem dX7_init_20 : decode cX7_init 20 = .ok (.return_, 1) := by decide +kernel
theorem dX7_clear_0 : decode cX7_clear 0 = .ok (.aload_n 0, 1) := by decide +kernel
theorem dX7_clear_1 : decode cX7_clear 1 = .ok (.iconst 0, 1) := by decide +kernel
theorem dX7_clear_2 : decode cX7_clear 2 = .ok (.putfield 18, 3) := by decide +kernel
theorem dX7_clear_5 : decode cX7_clear 5 = .ok (.return_, 1) := by decide +kernel
set_option maxRecDepth 20000 in
theorem dX7_copy_0 : decode cX7_copy 0 = .ok (.aload_n 1, 1) := by decide +kernel
theorem dX7_copy_1 : decode cX7_copy 1 = .ok (.ifnull 33, 3) := by decide +kernel
theorem dX7_copy_4 : decode cX7_copy 4 = .ok (.aload_n 0, 1) := by decide +kernel
theorem dX7_copy_5 : decode cX7_copy 5 = .ok (.aload_n 1, 1) := by decide +kernel
theorem dX7_copy_6 : decode cX7_copy 6 = .ok (.getfield 18, 3) := by decide +kernel
theorem dX7_copy_9 : decode cX7_copy 9 = .ok (.putfield 18, 3) := by decide +kernel
theorem dX7_copy_12 : decode cX7_copy 12 = .ok (.aload_n 1, 1) := by decide +kernel
theorem dX7_copy_13 : decode cX7_copy 13 = .ok (.getfield 9, 3) := by decide +kernel
theorem dX7_copy_16 : decode cX7_copy 16 = .ok (.aload_n 0, 1) := by decide +kernel
theorem dX7_copy_17 : decode cX7_copy 17 = .ok (.getfield 9, 3) := by decide +kernel
theorem dX7_copy_20 : decode cX7_copy 20 = .ok (.invokestatic 22, 3) := by decide +kernel
theorem dX7_copy_23 : decode cX7_copy 23 = .ok (.aload_n 1, 1) := by decide +kernel
theorem dX7_copy_24 : decode cX7_copy 24 = .ok (.getfield 15, 3) := by decide +kernel
theorem dX7_copy_27 : decode cX7_copy 27 = .ok (.aload_n 0, 1) := by decide +kernel
theorem dX7_copy_28 : decode cX7_copy 28 = .ok (.getfield 15, 3) := by decide +kernel
theorem dX7_copy_31 : decode cX7_copy 31 = .ok (.invokestatic 22, 3) := by decide +kernel
theorem dX7_copy_34 : decode cX7_copy 34 = .ok (.return_, 1) := by decide +kernel
set_option maxRecDepth 20000 in
theorem dX7_addMan_0 : decode cX7_addMan 0 = .ok (.aload_n 0, 1) := by decide +kernel
theorem dX7_addMan_1 : decode cX7_addMan 1 = .ok (.getfield 18, 3) := by decide +kernel
theorem dX7_addMan_4 : decode cX7_addMan 4 = .ok (.bipush 8, 2) := by decide +kernel
theorem dX7_addMan_6 : decode cX7_addMan 6 = .ok (.if_icmp .lt 5, 3) := by decide +kernel
theorem dX7_addMan_9 : decode cX7_addMan 9 = .ok (.iconst 0, 1) := by decide +kernel
theorem dX7_addMan_10 : decode cX7_addMan 10 = .ok (.ireturn, 1) := by decide +kernel
theorem dX7_addMan_11 : decode cX7_addMan 11 = .ok (.aload_n 0, 1) := by decide +kernel
theorem dX7_addMan_12 : decode cX7_addMan 12 = .ok (.getfield 9, 3) := by decide +kernel
theorem dX7_addMan_15 : decode cX7_addMan 15 = .ok (.aload_n 0, 1) := by decide +kernel
theorem dX7_addMan_16 : decode cX7_addMan 16 = .ok (.getfield 18, 3) := by decide +kernel
theorem dX7_addMan_19 : decode cX7_addMan 19 = .ok (.iload_n 1, 1) := by decide +kernel
theorem dX7_addMan_20 : decode cX7_addMan 20 = .ok (.invokestatic 26, 3) := by decide +kernel
theorem dX7_addMan_23 : decode cX7_addMan 23 = .ok (.aload_n 0, 1) := by decide +kernel
theorem dX7_addMan_24 : decode cX7_addMan 24 = .ok (.getfield 15, 3) := by decide +kernel
theorem dX7_addMan_27 : decode cX7_addMan 27 = .ok (.aload_n 0, 1) := by decide +kernel
theorem dX7_addMan_28 : decode cX7_addMan 28 = .ok (.getfield 18, 3) := by decide +kernel
theorem dX7_addMan_31 : decode cX7_addMan 31 = .ok (.iload_n 2, 1) := by decide +kernel
theorem dX7_addMan_32 : decode cX7_addMan 32 = .ok (.invokestatic 26, 3) := by decide +kernel
theorem dX7_addMan_35 : decode cX7_addMan 35 = .ok (.aload_n 0, 1) := by decide +kernel
theorem dX7_addMan_36 : decode cX7_addMan 36 = .ok (.dup, 1) := by decide +kernel
theorem dX7_addMan_37 : decode cX7_addMan 37 = .ok (.getfield 18, 3) := by decide +kernel
theorem dX7_addMan_40 : decode cX7_addMan 40 = .ok (.iconst 1, 1) := by decide +kernel
theorem dX7_addMan_41 : decode cX7_addMan 41 = .ok (.iadd, 1) := by decide +kernel
theorem dX7_addMan_42 : decode cX7_addMan 42 = .ok (.putfield 18, 3) := by decide +kernel
theorem dX7_addMan_45 : decode cX7_addMan 45 = .ok (.iconst 1, 1) := by decide +kernel
theorem dX7_addMan_46 : decode cX7_addMan 46 = .ok (.ireturn, 1) := by decide +kernel
set_option maxRecDepth 20000 in
theorem dX8_init_0 : decode cX8_init 0 = .ok (.aload_n 0, 1) := by decide +kernel
theorem dX8_init_1 : decode cX8_init 1 = .ok (.invokespecial 3, 3) := by decide +kernel
theorem dX8_init_4 : decode cX8_init 4 = .ok (.aload_n 0, 1) := by decide +kernel
theorem dX8_init_5 : decode cX8_init 5 = .ok (.sipush 401, 3) := by decide +kernel
theorem dX8_init_8 : decode cX8_init 8 = .ok (.newarray .int, 2) := by decide +kernel
theorem dX8_init_10 : decode cX8_init 10 = .ok (.putfield 9, 3) := by decide +kernel
theorem dX8_init_13 : decode cX8_init 13 = .ok (.aload_n 0, 1) := by decide +kernel
theorem dX8_init_14 : decode cX8_init 14 = .ok (.sipush 401, 3) := by decide +kernel
theorem dX8_init_17 : decode cX8_init 17 = .ok (.newarray .int, 2) := by decide +kernel
theorem dX8_init_19 : decode cX8_init 19 = .ok (.putfield 15, 3) := by decide +kernel
theorem dX8_init_22 : decode cX8_init 22 = .ok (.aload_n 0, 1) := by decide +kernel
theorem dX8_init_23 : decode cX8_init 23 = .ok (.sipush 401, 3) := by decide +kernel
theorem dX8_init_26 : decode cX8_init 26 = .ok (.newarray .int, 2) := by decide +kernel
theorem dX8_init_28 : decode cX8_init 28 = .ok (.putfield 18, 3) := by decide +kernel
theorem dX8_init_31 : decode cX8_init 31 = .ok (.aload_n 0, 1) := by decide +kernel
theorem dX8_init_32 : decode cX8_init 32 = .ok (.sipush 401, 3) := by decide +kernel
theorem dX8_init_35 : decode cX8_init 35 = .ok (.newarray .int, 2) := by decide +kernel
theorem dX8_init_37 : decode cX8_init 37 = .ok (.putfield 21, 3) := by decide +kernel
theorem dX8_init_40 : decode cX8_init 40 = .ok (.aload_n 0, 1) := by decide +kernel
theorem dX8_init_41 : decode cX8_init 41 = .ok (.new 24, 3) := by decide +kernel
theorem dX8_init_44 : decode cX8_init 44 = .ok (.dup, 1) := by decide +kernel
theorem dX8_init_45 : decode cX8_init 45 = .ok (.invokespecial 26, 3) := by decide +kernel
theorem dX8_init_48 : decode cX8_init 48 = .ok (.putfield 27, 3) := by decide +kernel
theorem dX8_init_51 : decode cX8_init 51 = .ok (.aload_n 0, 1) := by decide +kernel
theorem dX8_init_52 : decode cX8_init 52 = .ok (.new 24, 3) := by decide +kernel
theorem dX8_init_55 : decode cX8_init 55 = .ok (.dup, 1) := by decide +kernel
theorem dX8_init_56 : decode cX8_init 56 = .ok (.invokespecial 26, 3) := by decide +kernel
theorem dX8_init_59 : decode cX8_init 59 = .ok (.putfield 31, 3) := by decide +kernel
theorem dX8_init_62 : decode cX8_init 62 = .ok (.return_, 1) := by decide +kernel
set_option maxRecDepth 20000 in
theorem dX8_sail_0 : decode cX8_sail 0 = .ok (.aload_n 0, 1) := by decide +kernel
theorem dX8_sail_1 : decode cX8_sail 1 = .ok (.aload_n 1, 1) := by decide +kernel
theorem dX8_sail_2 : decode cX8_sail 2 = .ok (.iload_n 3, 1) := by decide +kernel
theorem dX8_sail_3 : decode cX8_sail 3 = .ok (.invokevirtual 34, 3) := by decide +kernel
theorem dX8_sail_6 : decode cX8_sail 6 = .ok (.aload_n 0, 1) := by decide +kernel
theorem dX8_sail_7 : decode cX8_sail 7 = .ok (.aload_n 2, 1) := by decide +kernel
theorem dX8_sail_8 : decode cX8_sail 8 = .ok (.iload 4, 2) := by decide +kernel
theorem dX8_sail_10 : decode cX8_sail 10 = .ok (.invokevirtual 38, 3) := by decide +kernel
theorem dX8_sail_13 : decode cX8_sail 13 = .ok (.return_, 1) := by decide +kernel
set_option maxRecDepth 20000 in
theorem dX8_begin_0 : decode cX8_begin 0 = .ok (.aload_n 0, 1) := by decide +kernel
theorem dX8_begin_1 : decode cX8_begin 1 = .ok (.aload_n 1, 1) := by decide +kernel
theorem dX8_begin_2 : decode cX8_begin 2 = .ok (.putfield 42, 3) := by decide +kernel
theorem dX8_begin_5 : decode cX8_begin 5 = .ok (.aload_n 0, 1) := by decide +kernel
theorem dX8_begin_6 : decode cX8_begin 6 = .ok (.iload_n 2, 1) := by decide +kernel
theorem dX8_begin_7 : decode cX8_begin 7 = .ok (.putfield 46, 3) := by decide +kernel
theorem dX8_begin_10 : decode cX8_begin 10 = .ok (.aload_n 0, 1) := by decide +kernel
theorem dX8_begin_11 : decode cX8_begin 11 = .ok (.iconst 0, 1) := by decide +kernel
theorem dX8_begin_12 : decode cX8_begin 12 = .ok (.putfield 50, 3) := by decide +kernel
theorem dX8_begin_15 : decode cX8_begin 15 = .ok (.aload_n 0, 1) := by decide +kernel
theorem dX8_begin_16 : decode cX8_begin 16 = .ok (.getfield 9, 3) := by decide +kernel
theorem dX8_begin_19 : decode cX8_begin 19 = .ok (.iconst 0, 1) := by decide +kernel
theorem dX8_begin_20 : decode cX8_begin 20 = .ok (.aload_n 1, 1) := by decide +kernel
theorem dX8_begin_21 : decode cX8_begin 21 = .ok (.ifnonnull 7, 3) := by decide +kernel
theorem dX8_begin_24 : decode cX8_begin 24 = .ok (.iconst 0, 1) := by decide +kernel
theorem dX8_begin_25 : decode cX8_begin 25 = .ok (.goto 7, 3) := by decide +kernel
theorem dX8_begin_28 : decode cX8_begin 28 = .ok (.aload_n 1, 1) := by decide +kernel
theorem dX8_begin_29 : decode cX8_begin 29 = .ok (.getfield 53, 3) := by decide +kernel
theorem dX8_begin_32 : decode cX8_begin 32 = .ok (.invokestatic 58, 3) := by decide +kernel
theorem dX8_begin_35 : decode cX8_begin 35 = .ok (.aload_n 0, 1) := by decide +kernel
theorem dX8_begin_36 : decode cX8_begin 36 = .ok (.getfield 15, 3) := by decide +kernel
theorem dX8_begin_39 : decode cX8_begin 39 = .ok (.iconst 0, 1) := by decide +kernel
theorem dX8_begin_40 : decode cX8_begin 40 = .ok (.aload_n 1, 1) := by decide +kernel
theorem dX8_begin_41 : decode cX8_begin 41 = .ok (.ifnonnull 7, 3) := by decide +kernel
theorem dX8_begin_44 : decode cX8_begin 44 = .ok (.iconst 0, 1) := by decide +kernel
theorem dX8_begin_45 : decode cX8_begin 45 = .ok (.goto 7, 3) := by decide +kernel
theorem dX8_begin_48 : decode cX8_begin 48 = .ok (.aload_n 1, 1) := by decide +kernel
theorem dX8_begin_49 : decode cX8_begin 49 = .ok (.getfield 62, 3) := by decide +kernel
theorem dX8_begin_52 : decode cX8_begin 52 = .ok (.invokestatic 58, 3) := by decide +kernel
theorem dX8_begin_55 : decode cX8_begin 55 = .ok (.aload_n 0, 1) := by decide +kernel
theorem dX8_begin_56 : decode cX8_begin 56 = .ok (.getfield 18, 3) := by decide +kernel
theorem dX8_begin_59 : decode cX8_begin 59 = .ok (.iconst 0, 1) := by decide +kernel
theorem dX8_begin_60 : decode cX8_begin 60 = .ok (.iconst 0, 1) := by decide +kernel
theorem dX8_begin_61 : decode cX8_begin 61 = .ok (.invokestatic 58, 3) := by decide +kernel
theorem dX8_begin_64 : decode cX8_begin 64 = .ok (.aload_n 0, 1) := by decide +kernel
theorem dX8_begin_65 : decode cX8_begin 65 = .ok (.getfield 21, 3) := by decide +kernel
theorem dX8_begin_68 : decode cX8_begin 68 = .ok (.iconst 0, 1) := by decide +kernel
theorem dX8_begin_69 : decode cX8_begin 69 = .ok (.iconst 0, 1) := by decide +kernel
theorem dX8_begin_70 : decode cX8_begin 70 = .ok (.invokestatic 58, 3) := by decide +kernel
theorem dX8_begin_73 : decode cX8_begin 73 = .ok (.return_, 1) := by decide +kernel
set_option maxRecDepth 20000 in
theorem dX8_steer_0 : decode cX8_steer 0 = .ok (.aload_n 0, 1) := by decide +kernel
theorem dX8_steer_1 : decode cX8_steer 1 = .ok (.getfield 27, 3) := by decide +kernel
theorem dX8_steer_4 : decode cX8_steer 4 = .ok (.aload_n 1, 1) := by decide +kernel
theorem dX8_steer_5 : decode cX8_steer 5 = .ok (.invokevirtual 65, 3) := by decide +kernel
theorem dX8_steer_8 : decode cX8_steer 8 = .ok (.iconst 0, 1) := by decide +kernel
theorem dX8_steer_9 : decode cX8_steer 9 = .ok (.istore_n 3, 1) := by decide +kernel
theorem dX8_steer_10 : decode cX8_steer 10 = .ok (.iload_n 3, 1) := by decide +kernel
theorem dX8_steer_11 : decode cX8_steer 11 = .ok (.iload_n 2, 1) := by decide +kernel
theorem dX8_steer_12 : decode cX8_steer 12 = .ok (.if_icmp .ge 31, 3) := by decide +kernel
theorem dX8_steer_15 : decode cX8_steer 15 = .ok (.aload_n 0, 1) := by decide +kernel
theorem dX8_steer_16 : decode cX8_steer 16 = .ok (.getfield 50, 3) := by decide +kernel
theorem dX8_steer_19 : decode cX8_steer 19 = .ok (.sipush 400, 3) := by decide +kernel
theorem dX8_steer_22 : decode cX8_steer 22 = .ok (.if_icmp .ge 21, 3) := by decide +kernel
theorem dX8_steer_25 : decode cX8_steer 25 = .ok (.aload_n 0, 1) := by decide +kernel
theorem dX8_steer_26 : decode cX8_steer 26 = .ok (.aload_n 0, 1) := by decide +kernel
theorem dX8_steer_27 : decode cX8_steer 27 = .ok (.getfield 27, 3) := by decide +kernel
theorem dX8_steer_30 : decode cX8_steer 30 = .ok (.aload_n 0, 1) := by decide +kernel
theorem dX8_steer_31 : decode cX8_steer 31 = .ok (.invokevirtual 69, 3) := by decide +kernel
theorem dX8_steer_34 : decode cX8_steer 34 = .ok (.invokevirtual 73, 3) := by decide +kernel
theorem dX8_steer_37 : decode cX8_steer 37 = .ok (.iinc 3 1, 3) := by decide +kernel
theorem dX8_steer_40 : decode cX8_steer 40 = .ok (.goto (-30), 3) := by decide +kernel
theorem dX8_steer_43 : decode cX8_steer 43 = .ok (.return_, 1) := by decide +kernel
set_option maxRecDepth 20000 in
theorem dX8_steerTogether_0 : decode cX8_steerTogether 0 = .ok (.aload_n 0, 1) := by decide +kernel
theorem dX8_steerTogether_1 : decode cX8_steerTogether 1 = .ok (.getfield 27, 3) := by decide +kernel
theorem dX8_steerTogether_4 : decode cX8_steerTogether 4 = .ok (.aload_n 1, 1) := by decide +kernel
theorem dX8_steerTogether_5 : decode cX8_steerTogether 5 = .ok (.invokevirtual 65, 3) := by decide +kernel
theorem dX8_steerTogether_8 : decode cX8_steerTogether 8 = .ok (.aload_n 0, 1) := by decide +kernel
theorem dX8_steerTogether_9 : decode cX8_steerTogether 9 = .ok (.getfield 31, 3) := by decide +kernel
theorem dX8_steerTogether_12 : decode cX8_steerTogether 12 = .ok (.aload_n 2, 1) := by decide +kernel
theorem dX8_steerTogether_13 : decode cX8_steerTogether 13 = .ok (.invokevirtual 65, 3) := by decide +kernel
theorem dX8_steerTogether_16 : decode cX8_steerTogether 16 = .ok (.iconst 0, 1) := by decide +kernel
theorem dX8_steerTogether_17 : decode cX8_steerTogether 17 = .ok (.istore 4, 2) := by decide +kernel
theorem dX8_steerTogether_19 : decode cX8_steerTogether 19 = .ok (.iload 4, 2) := by decide +kernel
theorem dX8_steerTogether_21 : decode cX8_steerTogether 21 = .ok (.iload_n 3, 1) := by decide +kernel
theorem dX8_steerTogether_22 : decode cX8_steerTogether 22 = .ok (.if_icmp .ge 46, 3) := by decide +kernel
theorem dX8_steerTogether_25 : decode cX8_steerTogether 25 = .ok (.aload_n 0, 1) := by decide +kernel
theorem dX8_steerTogether_26 : decode cX8_steerTogether 26 = .ok (.getfield 50, 3) := by decide +kernel
theorem dX8_steerTogether_29 : decode cX8_steerTogether 29 = .ok (.sipush 400, 3) := by decide +kernel
theorem dX8_steerTogether_32 : decode cX8_steerTogether 32 = .ok (.if_icmp .ge 36, 3) := by decide +kernel
theorem dX8_steerTogether_35 : decode cX8_steerTogether 35 = .ok (.aload_n 0, 1) := by decide +kernel
theorem dX8_steerTogether_36 : decode cX8_steerTogether 36 = .ok (.getfield 27, 3) := by decide +kernel
theorem dX8_steerTogether_39 : decode cX8_steerTogether 39 = .ok (.aload_n 0, 1) := by decide +kernel
theorem dX8_steerTogether_40 : decode cX8_steerTogether 40 = .ok (.invokevirtual 69, 3) := by decide +kernel
theorem dX8_steerTogether_43 : decode cX8_steerTogether 43 = .ok (.istore 5, 2) := by decide +kernel
theorem dX8_steerTogether_45 : decode cX8_steerTogether 45 = .ok (.aload_n 0, 1) := by decide +kernel
theorem dX8_steerTogether_46 : decode cX8_steerTogether 46 = .ok (.iload 5, 2) := by decide +kernel
theorem dX8_steerTogether_48 : decode cX8_steerTogether 48 = .ok (.aload_n 0, 1) := by decide +kernel
theorem dX8_steerTogether_49 : decode cX8_steerTogether 49 = .ok (.getfield 31, 3) := by decide +kernel
theorem dX8_steerTogether_52 : decode cX8_steerTogether 52 = .ok (.aload_n 0, 1) := by decide +kernel
theorem dX8_steerTogether_53 : decode cX8_steerTogether 53 = .ok (.invokevirtual 69, 3) := by decide +kernel
theorem dX8_steerTogether_56 : decode cX8_steerTogether 56 = .ok (.iadd, 1) := by decide +kernel
theorem dX8_steerTogether_57 : decode cX8_steerTogether 57 = .ok (.iconst 2, 1) := by decide +kernel
theorem dX8_steerTogether_58 : decode cX8_steerTogether 58 = .ok (.idiv, 1) := by decide +kernel
theorem dX8_steerTogether_59 : decode cX8_steerTogether 59 = .ok (.invokevirtual 73, 3) := by decide +kernel
theorem dX8_steerTogether_62 : decode cX8_steerTogether 62 = .ok (.iinc 4 1, 3) := by decide +kernel
theorem dX8_steerTogether_65 : decode cX8_steerTogether 65 = .ok (.goto (-46), 3) := by decide +kernel
theorem dX8_steerTogether_68 : decode cX8_steerTogether 68 = .ok (.return_, 1) := by decide +kernel
set_option maxRecDepth 20000 in
theorem dX8_move_0 : decode cX8_move 0 = .ok (.aload_n 0, 1) := by decide +kernel
theorem dX8_move_1 : decode cX8_move 1 = .ok (.getfield 42, 3) := by decide +kernel
theorem dX8_move_4 : decode cX8_move 4 = .ok (.ifnonnull 4, 3) := by decide +kernel
theorem dX8_move_7 : decode cX8_move 7 = .ok (.return_, 1) := by decide +kernel
theorem dX8_move_8 : decode cX8_move 8 = .ok (.aload_n 0, 1) := by decide +kernel
theorem dX8_move_9 : decode cX8_move 9 = .ok (.getfield 9, 3) := by decide +kernel
theorem dX8_move_12 : decode cX8_move 12 = .ok (.aload_n 0, 1) := by decide +kernel
theorem dX8_move_13 : decode cX8_move 13 = .ok (.getfield 50, 3) := by decide +kernel
theorem dX8_move_16 : decode cX8_move 16 = .ok (.invokestatic 77, 3) := by decide +kernel
theorem dX8_move_19 : decode cX8_move 19 = .ok (.istore_n 2, 1) := by decide +kernel
theorem dX8_move_20 : decode cX8_move 20 = .ok (.aload_n 0, 1) := by decide +kernel
theorem dX8_move_21 : decode cX8_move 21 = .ok (.getfield 15, 3) := by decide +kernel
theorem dX8_move_24 : decode cX8_move 24 = .ok (.aload_n 0, 1) := by decide +kernel
theorem dX8_move_25 : decode cX8_move 25 = .ok (.getfield 50, 3) := by decide +kernel
theorem dX8_move_28 : decode cX8_move 28 = .ok (.invokestatic 77, 3) := by decide +kernel
theorem dX8_move_31 : decode cX8_move 31 = .ok (.istore_n 3, 1) := by decide +kernel
theorem dX8_move_32 : decode cX8_move 32 = .ok (.aload_n 0, 1) := by decide +kernel
theorem dX8_move_33 : decode cX8_move 33 = .ok (.invokevirtual 81, 3) := by decide +kernel
theorem dX8_move_36 : decode cX8_move 36 = .ok (.iload_n 1, 1) := by decide +kernel
theorem dX8_move_37 : decode cX8_move 37 = .ok (.aload_n 0, 1) := by decide +kernel
theorem dX8_move_38 : decode cX8_move 38 = .ok (.invokevirtual 81, 3) := by decide +kernel
theorem dX8_move_41 : decode cX8_move 41 = .ok (.isub, 1) := by decide +kernel
theorem dX8_move_42 : decode cX8_move 42 = .ok (.aload_n 0, 1) := by decide +kernel
theorem dX8_move_43 : decode cX8_move 43 = .ok (.getfield 42, 3) := by decide +kernel
theorem dX8_move_46 : decode cX8_move 46 = .ok (.getfield 85, 3) := by decide +kernel
theorem dX8_move_49 : decode cX8_move 49 = .ok (.invokestatic 88, 3) := by decide +kernel
theorem dX8_move_52 : decode cX8_move 52 = .ok (.iadd, 1) := by decide +kernel
theorem dX8_move_53 : decode cX8_move 53 = .ok (.istore 4, 2) := by decide +kernel
theorem dX8_move_55 : decode cX8_move 55 = .ok (.aload_n 0, 1) := by decide +kernel
theorem dX8_move_56 : decode cX8_move 56 = .ok (.dup, 1) := by decide +kernel
theorem dX8_move_57 : decode cX8_move 57 = .ok (.getfield 50, 3) := by decide +kernel
theorem dX8_move_60 : decode cX8_move 60 = .ok (.iconst 1, 1) := by decide +kernel
theorem dX8_move_61 : decode cX8_move 61 = .ok (.iadd, 1) := by decide +kernel
theorem dX8_move_62 : decode cX8_move 62 = .ok (.putfield 50, 3) := by decide +kernel
theorem dX8_move_65 : decode cX8_move 65 = .ok (.iload_n 3, 1) := by decide +kernel
theorem dX8_move_66 : decode cX8_move 66 = .ok (.iload_n 3, 1) := by decide +kernel
theorem dX8_move_67 : decode cX8_move 67 = .ok (.aload_n 0, 1) := by decide +kernel
theorem dX8_move_68 : decode cX8_move 68 = .ok (.getfield 42, 3) := by decide +kernel
theorem dX8_move_71 : decode cX8_move 71 = .ok (.getfield 92, 3) := by decide +kernel
theorem dX8_move_74 : decode cX8_move 74 = .ok (.imul, 1) := by decide +kernel
theorem dX8_move_75 : decode cX8_move 75 = .ok (.bipush 100, 2) := by decide +kernel
theorem dX8_move_77 : decode cX8_move 77 = .ok (.idiv, 1) := by decide +kernel
theorem dX8_move_78 : decode cX8_move 78 = .ok (.isub, 1) := by decide +kernel
theorem dX8_move_79 : decode cX8_move 79 = .ok (.aload_n 0, 1) := by decide +kernel
theorem dX8_move_80 : decode cX8_move 80 = .ok (.getfield 42, 3) := by decide +kernel
theorem dX8_move_83 : decode cX8_move 83 = .ok (.getfield 95, 3) := by decide +kernel
theorem dX8_move_86 : decode cX8_move 86 = .ok (.iload 4, 2) := by decide +kernel
theorem dX8_move_88 : decode cX8_move 88 = .ok (.imul, 1) := by decide +kernel
theorem dX8_move_89 : decode cX8_move 89 = .ok (.iadd, 1) := by decide +kernel
theorem dX8_move_90 : decode cX8_move 90 = .ok (.aload_n 0, 1) := by decide +kernel
theorem dX8_move_91 : decode cX8_move 91 = .ok (.getfield 42, 3) := by decide +kernel
theorem dX8_move_94 : decode cX8_move 94 = .ok (.getfield 98, 3) := by decide +kernel
theorem dX8_move_97 : decode cX8_move 97 = .ok (.iadd, 1) := by decide +kernel
theorem dX8_move_98 : decode cX8_move 98 = .ok (.aload_n 0, 1) := by decide +kernel
theorem dX8_move_99 : decode cX8_move 99 = .ok (.getfield 42, 3) := by decide +kernel
theorem dX8_move_102 : decode cX8_move 102 = .ok (.aload_n 0, 1) := by decide +kernel
theorem dX8_move_103 : decode cX8_move 103 = .ok (.getfield 50, 3) := by decide +kernel
theorem dX8_move_106 : decode cX8_move 106 = .ok (.invokevirtual 101, 3) := by decide +kernel
theorem dX8_move_109 : decode cX8_move 109 = .ok (.iadd, 1) := by decide +kernel
theorem dX8_move_110 : decode cX8_move 110 = .ok (.aload_n 0, 1) := by decide +kernel
theorem dX8_move_111 : decode cX8_move 111 = .ok (.getfield 42, 3) := by decide +kernel
theorem dX8_move_114 : decode cX8_move 114 = .ok (.getfield 105, 3) := by decide +kernel
theorem dX8_move_117 : decode cX8_move 117 = .ok (.iload_n 2, 1) := by decide +kernel
theorem dX8_move_118 : decode cX8_move 118 = .ok (.imul, 1) := by decide +kernel
theorem dX8_move_119 : decode cX8_move 119 = .ok (.bipush 100, 2) := by decide +kernel
theorem dX8_move_121 : decode cX8_move 121 = .ok (.idiv, 1) := by decide +kernel
theorem dX8_move_122 : decode cX8_move 122 = .ok (.isub, 1) := by decide +kernel
theorem dX8_move_123 : decode cX8_move 123 = .ok (.sipush 9999, 3) := by decide +kernel
theorem dX8_move_126 : decode cX8_move 126 = .ok (.invokestatic 88, 3) := by decide +kernel
theorem dX8_move_129 : decode cX8_move 129 = .ok (.istore_n 3, 1) := by decide +kernel
theorem dX8_move_130 : decode cX8_move 130 = .ok (.aload_n 0, 1) := by decide +kernel
theorem dX8_move_131 : decode cX8_move 131 = .ok (.getfield 9, 3) := by decide +kernel
theorem dX8_move_134 : decode cX8_move 134 = .ok (.aload_n 0, 1) := by decide +kernel
theorem dX8_move_135 : decode cX8_move 135 = .ok (.getfield 50, 3) := by decide +kernel
theorem dX8_move_138 : decode cX8_move 138 = .ok (.iload_n 2, 1) := by decide +kernel
theorem dX8_move_139 : decode cX8_move 139 = .ok (.iload_n 3, 1) := by decide +kernel
theorem dX8_move_140 : decode cX8_move 140 = .ok (.iadd, 1) := by decide +kernel
theorem dX8_move_141 : decode cX8_move 141 = .ok (.sipush 18000, 3) := by decide +kernel
theorem dX8_move_144 : decode cX8_move 144 = .ok (.invokestatic 88, 3) := by decide +kernel
theorem dX8_move_147 : decode cX8_move 147 = .ok (.invokestatic 58, 3) := by decide +kernel
theorem dX8_move_150 : decode cX8_move 150 = .ok (.aload_n 0, 1) := by decide +kernel
theorem dX8_move_151 : decode cX8_move 151 = .ok (.getfield 15, 3) := by decide +kernel
theorem dX8_move_154 : decode cX8_move 154 = .ok (.aload_n 0, 1) := by decide +kernel
theorem dX8_move_155 : decode cX8_move 155 = .ok (.getfield 50, 3) := by decide +kernel
theorem dX8_move_158 : decode cX8_move 158 = .ok (.iload_n 3, 1) := by decide +kernel
theorem dX8_move_159 : decode cX8_move 159 = .ok (.invokestatic 58, 3) := by decide +kernel
theorem dX8_move_162 : decode cX8_move 162 = .ok (.aload_n 0, 1) := by decide +kernel
theorem dX8_move_163 : decode cX8_move 163 = .ok (.getfield 18, 3) := by decide +kernel
theorem dX8_move_166 : decode cX8_move 166 = .ok (.aload_n 0, 1) := by decide +kernel
theorem dX8_move_167 : decode cX8_move 167 = .ok (.getfield 50, 3) := by decide +kernel
theorem dX8_move_170 : decode cX8_move 170 = .ok (.iload 4, 2) := by decide +kernel
theorem dX8_move_172 : decode cX8_move 172 = .ok (.invokestatic 58, 3) := by decide +kernel
theorem dX8_move_175 : decode cX8_move 175 = .ok (.aload_n 0, 1) := by decide +kernel
theorem dX8_move_176 : decode cX8_move 176 = .ok (.getfield 21, 3) := by decide +kernel
theorem dX8_move_179 : decode cX8_move 179 = .ok (.aload_n 0, 1) := by decide +kernel
theorem dX8_move_180 : decode cX8_move 180 = .ok (.getfield 50, 3) := by decide +kernel
theorem dX8_move_183 : decode cX8_move 183 = .ok (.aload_n 0, 1) := by decide +kernel
theorem dX8_move_184 : decode cX8_move 184 = .ok (.getfield 27, 3) := by decide +kernel
theorem dX8_move_187 : decode cX8_move 187 = .ok (.getfield 108, 3) := by decide +kernel
theorem dX8_move_190 : decode cX8_move 190 = .ok (.invokestatic 58, 3) := by decide +kernel
theorem dX8_move_193 : decode cX8_move 193 = .ok (.return_, 1) := by decide +kernel
set_option maxRecDepth 20000 in
theorem dX8_headingAgo_0 : decode cX8_headingAgo 0 = .ok (.aload_n 0, 1) := by decide +kernel
theorem dX8_headingAgo_1 : decode cX8_headingAgo 1 = .ok (.getfield 9, 3) := by decide +kernel
theorem dX8_headingAgo_4 : decode cX8_headingAgo 4 = .ok (.iconst 0, 1) := by decide +kernel
theorem dX8_headingAgo_5 : decode cX8_headingAgo 5 = .ok (.aload_n 0, 1) := by decide +kernel
theorem dX8_headingAgo_6 : decode cX8_headingAgo 6 = .ok (.getfield 50, 3) := by decide +kernel
theorem dX8_headingAgo_9 : decode cX8_headingAgo 9 = .ok (.iload_n 1, 1) := by decide +kernel
theorem dX8_headingAgo_10 : decode cX8_headingAgo 10 = .ok (.isub, 1) := by decide +kernel
theorem dX8_headingAgo_11 : decode cX8_headingAgo 11 = .ok (.invokestatic 111, 3) := by decide +kernel
theorem dX8_headingAgo_14 : decode cX8_headingAgo 14 = .ok (.invokestatic 77, 3) := by decide +kernel
theorem dX8_headingAgo_17 : decode cX8_headingAgo 17 = .ok (.ireturn, 1) := by decide +kernel
set_option maxRecDepth 20000 in
theorem dX8_rudderNow_0 : decode cX8_rudderNow 0 = .ok (.aload_n 0, 1) := by decide +kernel
theorem dX8_rudderNow_1 : decode cX8_rudderNow 1 = .ok (.getfield 18, 3) := by decide +kernel
theorem dX8_rudderNow_4 : decode cX8_rudderNow 4 = .ok (.aload_n 0, 1) := by decide +kernel
theorem dX8_rudderNow_5 : decode cX8_rudderNow 5 = .ok (.getfield 50, 3) := by decide +kernel
theorem dX8_rudderNow_8 : decode cX8_rudderNow 8 = .ok (.invokestatic 77, 3) := by decide +kernel
theorem dX8_rudderNow_11 : decode cX8_rudderNow 11 = .ok (.ireturn, 1) := by decide +kernel
theorem dX8_drawn_0 : decode cX8_drawn 0 = .ok (.aload_n 0, 1) := by decide +kernel
theorem dX8_drawn_1 : decode cX8_drawn 1 = .ok (.aload_n 0, 1) := by decide +kernel
theorem dX8_drawn_2 : decode cX8_drawn 2 = .ok (.getfield 46, 3) := by decide +kernel
theorem dX8_drawn_5 : decode cX8_drawn 5 = .ok (.ldc 116, 2) := by decide +kernel
theorem dX8_drawn_7 : decode cX8_drawn 7 = .ok (.imul, 1) := by decide +kernel
theorem dX8_drawn_8 : decode cX8_drawn 8 = .ok (.sipush 12345, 3) := by decide +kernel
theorem dX8_drawn_11 : decode cX8_drawn 11 = .ok (.iadd, 1) := by decide +kernel
theorem dX8_drawn_12 : decode cX8_drawn 12 = .ok (.putfield 46, 3) := by decide +kernel
theorem dX8_drawn_15 : decode cX8_drawn 15 = .ok (.aload_n 0, 1) := by decide +kernel
theorem dX8_drawn_16 : decode cX8_drawn 16 = .ok (.getfield 46, 3) := by decide +kernel
theorem dX8_drawn_19 : decode cX8_drawn 19 = .ok (.bipush 16, 2) := by decide +kernel
theorem dX8_drawn_21 : decode cX8_drawn 21 = .ok (.iushr, 1) := by decide +kernel
theorem dX8_drawn_22 : decode cX8_drawn 22 = .ok (.bipush 100, 2) := by decide +kernel
theorem dX8_drawn_24 : decode cX8_drawn 24 = .ok (.irem, 1) := by decide +kernel
theorem dX8_drawn_25 : decode cX8_drawn 25 = .ok (.ireturn, 1) := by decide +kernel
set_option maxRecDepth 20000 in
theorem dX8_tally_0 : decode cX8_tally 0 = .ok (.iload_n 1, 1) := by decide +kernel
theorem dX8_tally_1 : decode cX8_tally 1 = .ok (.tableswitch 113 0 9 #[55, 60, 65, 70, 75, 80, 85, 90, 103, 108], 55) := by decide +kernel
theorem dX8_tally_56 : decode cX8_tally 56 = .ok (.aload_n 0, 1) := by decide +kernel
theorem dX8_tally_57 : decode cX8_tally 57 = .ok (.invokevirtual 117, 3) := by decide +kernel
theorem dX8_tally_60 : decode cX8_tally 60 = .ok (.lreturn, 1) := by decide +kernel
theorem dX8_tally_61 : decode cX8_tally 61 = .ok (.aload_n 0, 1) := by decide +kernel
theorem dX8_tally_62 : decode cX8_tally 62 = .ok (.invokevirtual 121, 3) := by decide +kernel
theorem dX8_tally_65 : decode cX8_tally 65 = .ok (.lreturn, 1) := by decide +kernel
theorem dX8_tally_66 : decode cX8_tally 66 = .ok (.aload_n 0, 1) := by decide +kernel
theorem dX8_tally_67 : decode cX8_tally 67 = .ok (.invokevirtual 124, 3) := by decide +kernel
theorem dX8_tally_70 : decode cX8_tally 70 = .ok (.lreturn, 1) := by decide +kernel
theorem dX8_tally_71 : decode cX8_tally 71 = .ok (.aload_n 0, 1) := by decide +kernel
theorem dX8_tally_72 : decode cX8_tally 72 = .ok (.invokevirtual 127, 3) := by decide +kernel
theorem dX8_tally_75 : decode cX8_tally 75 = .ok (.lreturn, 1) := by decide +kernel
theorem dX8_tally_76 : decode cX8_tally 76 = .ok (.aload_n 0, 1) := by decide +kernel
theorem dX8_tally_77 : decode cX8_tally 77 = .ok (.invokevirtual 130, 3) := by decide +kernel
theorem dX8_tally_80 : decode cX8_tally 80 = .ok (.lreturn, 1) := by decide +kernel
theorem dX8_tally_81 : decode cX8_tally 81 = .ok (.aload_n 0, 1) := by decide +kernel
theorem dX8_tally_82 : decode cX8_tally 82 = .ok (.invokevirtual 133, 3) := by decide +kernel
theorem dX8_tally_85 : decode cX8_tally 85 = .ok (.lreturn, 1) := by decide +kernel
theorem dX8_tally_86 : decode cX8_tally 86 = .ok (.aload_n 0, 1) := by decide +kernel
theorem dX8_tally_87 : decode cX8_tally 87 = .ok (.invokevirtual 136, 3) := by decide +kernel
theorem dX8_tally_90 : decode cX8_tally 90 = .ok (.lreturn, 1) := by decide +kernel
theorem dX8_tally_91 : decode cX8_tally 91 = .ok (.aload_n 0, 1) := by decide +kernel
theorem dX8_tally_92 : decode cX8_tally 92 = .ok (.invokevirtual 139, 3) := by decide +kernel
theorem dX8_tally_95 : decode cX8_tally 95 = .ok (.ifCond .eq 7, 3) := by decide +kernel
theorem dX8_tally_98 : decode cX8_tally 98 = .ok (.lconst 1, 1) := by decide +kernel
theorem dX8_tally_99 : decode cX8_tally 99 = .ok (.goto 4, 3) := by decide +kernel
theorem dX8_tally_102 : decode cX8_tally 102 = .ok (.lconst 0, 1) := by decide +kernel
theorem dX8_tally_103 : decode cX8_tally 103 = .ok (.lreturn, 1) := by decide +kernel
theorem dX8_tally_104 : decode cX8_tally 104 = .ok (.aload_n 0, 1) := by decide +kernel
theorem dX8_tally_105 : decode cX8_tally 105 = .ok (.invokevirtual 143, 3) := by decide +kernel
theorem dX8_tally_108 : decode cX8_tally 108 = .ok (.lreturn, 1) := by decide +kernel
theorem dX8_tally_109 : decode cX8_tally 109 = .ok (.aload_n 0, 1) := by decide +kernel
theorem dX8_tally_110 : decode cX8_tally 110 = .ok (.invokevirtual 146, 3) := by decide +kernel
theorem dX8_tally_113 : decode cX8_tally 113 = .ok (.lreturn, 1) := by decide +kernel
theorem dX8_tally_114 : decode cX8_tally 114 = .ok (.ldc2_w 149, 3) := by decide +kernel
theorem dX8_tally_117 : decode cX8_tally 117 = .ok (.lreturn, 1) := by decide +kernel
set_option maxRecDepth 20000 in
theorem dX8_offAt_0 : decode cX8_offAt 0 = .ok (.aload_n 0, 1) := by decide +kernel
theorem dX8_offAt_1 : decode cX8_offAt 1 = .ok (.getfield 9, 3) := by decide +kernel
theorem dX8_offAt_4 : decode cX8_offAt 4 = .ok (.iload_n 1, 1) := by decide +kernel
theorem dX8_offAt_5 : decode cX8_offAt 5 = .ok (.invokestatic 77, 3) := by decide +kernel
theorem dX8_offAt_8 : decode cX8_offAt 8 = .ok (.invokestatic 151, 3) := by decide +kernel
theorem dX8_offAt_11 : decode cX8_offAt 11 = .ok (.ireturn, 1) := by decide +kernel
set_option maxRecDepth 20000 in
theorem dX8_turnedAt_0 : decode cX8_turnedAt 0 = .ok (.aload_n 0, 1) := by decide +kernel
theorem dX8_turnedAt_1 : decode cX8_turnedAt 1 = .ok (.getfield 18, 3) := by decide +kernel
theorem dX8_turnedAt_4 : decode cX8_turnedAt 4 = .ok (.iload_n 1, 1) := by decide +kernel
theorem dX8_turnedAt_5 : decode cX8_turnedAt 5 = .ok (.invokestatic 77, 3) := by decide +kernel
theorem dX8_turnedAt_8 : decode cX8_turnedAt 8 = .ok (.aload_n 0, 1) := by decide +kernel
theorem dX8_turnedAt_9 : decode cX8_turnedAt 9 = .ok (.getfield 18, 3) := by decide +kernel
theorem dX8_turnedAt_12 : decode cX8_turnedAt 12 = .ok (.iload_n 1, 1) := by decide +kernel
theorem dX8_turnedAt_13 : decode cX8_turnedAt 13 = .ok (.iconst 1, 1) := by decide +kernel
theorem dX8_turnedAt_14 : decode cX8_turnedAt 14 = .ok (.isub, 1) := by decide +kernel
theorem dX8_turnedAt_15 : decode cX8_turnedAt 15 = .ok (.invokestatic 77, 3) := by decide +kernel
theorem dX8_turnedAt_18 : decode cX8_turnedAt 18 = .ok (.isub, 1) := by decide +kernel
theorem dX8_turnedAt_19 : decode cX8_turnedAt 19 = .ok (.invokestatic 151, 3) := by decide +kernel
theorem dX8_turnedAt_22 : decode cX8_turnedAt 22 = .ok (.ireturn, 1) := by decide +kernel
set_option maxRecDepth 20000 in
theorem dX8_costAt_0 : decode cX8_costAt 0 = .ok (.aload_n 0, 1) := by decide +kernel
theorem dX8_costAt_1 : decode cX8_costAt 1 = .ok (.getfield 42, 3) := by decide +kernel
theorem dX8_costAt_4 : decode cX8_costAt 4 = .ok (.ifnonnull 7, 3) := by decide +kernel
theorem dX8_costAt_7 : decode cX8_costAt 7 = .ok (.lconst 0, 1) := by decide +kernel
theorem dX8_costAt_8 : decode cX8_costAt 8 = .ok (.goto 23, 3) := by decide +kernel
theorem dX8_costAt_11 : decode cX8_costAt 11 = .ok (.aload_n 0, 1) := by decide +kernel
theorem dX8_costAt_12 : decode cX8_costAt 12 = .ok (.iload_n 1, 1) := by decide +kernel
theorem dX8_costAt_13 : decode cX8_costAt 13 = .ok (.invokevirtual 154, 3) := by decide +kernel
theorem dX8_costAt_16 : decode cX8_costAt 16 = .ok (.aload_n 0, 1) := by decide +kernel
theorem dX8_costAt_17 : decode cX8_costAt 17 = .ok (.getfield 42, 3) := by decide +kernel
theorem dX8_costAt_20 : decode cX8_costAt 20 = .ok (.getfield 157, 3) := by decide +kernel
theorem dX8_costAt_23 : decode cX8_costAt 23 = .ok (.aload_n 0, 1) := by decide +kernel
theorem dX8_costAt_24 : decode cX8_costAt 24 = .ok (.iload_n 1, 1) := by decide +kernel
theorem dX8_costAt_25 : decode cX8_costAt 25 = .ok (.invokevirtual 160, 3) := by decide +kernel
theorem dX8_costAt_28 : decode cX8_costAt 28 = .ok (.imul, 1) := by decide +kernel
theorem dX8_costAt_29 : decode cX8_costAt 29 = .ok (.iadd, 1) := by decide +kernel
theorem dX8_costAt_30 : decode cX8_costAt 30 = .ok (.i2l, 1) := by decide +kernel
theorem dX8_costAt_31 : decode cX8_costAt 31 = .ok (.lreturn, 1) := by decide +kernel
set_option maxRecDepth 20000 in
theorem dX8_cost_0 : decode cX8_cost 0 = .ok (.lconst 0, 1) := by decide +kernel
theorem dX8_cost_1 : decode cX8_cost 1 = .ok (.lstore_n 1, 1) := by decide +kernel
theorem dX8_cost_2 : decode cX8_cost 2 = .ok (.iconst 1, 1) := by decide +kernel
theorem dX8_cost_3 : decode cX8_cost 3 = .ok (.istore_n 3, 1) := by decide +kernel
theorem dX8_cost_4 : decode cX8_cost 4 = .ok (.iload_n 3, 1) := by decide +kernel
theorem dX8_cost_5 : decode cX8_cost 5 = .ok (.aload_n 0, 1) := by decide +kernel
theorem dX8_cost_6 : decode cX8_cost 6 = .ok (.getfield 50, 3) := by decide +kernel
theorem dX8_cost_9 : decode cX8_cost 9 = .ok (.if_icmp .gt 17, 3) := by decide +kernel
theorem dX8_cost_12 : decode cX8_cost 12 = .ok (.lload_n 1, 1) := by decide +kernel
theorem dX8_cost_13 : decode cX8_cost 13 = .ok (.aload_n 0, 1) := by decide +kernel
theorem dX8_cost_14 : decode cX8_cost 14 = .ok (.iload_n 3, 1) := by decide +kernel
theorem dX8_cost_15 : decode cX8_cost 15 = .ok (.invokevirtual 163, 3) := by decide +kernel
theorem dX8_cost_18 : decode cX8_cost 18 = .ok (.ladd, 1) := by decide +kernel
theorem dX8_cost_19 : decode cX8_cost 19 = .ok (.lstore_n 1, 1) := by decide +kernel
theorem dX8_cost_20 : decode cX8_cost 20 = .ok (.iinc 3 1, 3) := by decide +kernel
theorem dX8_cost_23 : decode cX8_cost 23 = .ok (.goto (-19), 3) := by decide +kernel
theorem dX8_cost_26 : decode cX8_cost 26 = .ok (.lload_n 1, 1) := by decide +kernel
theorem dX8_cost_27 : decode cX8_cost 27 = .ok (.lreturn, 1) := by decide +kernel
set_option maxRecDepth 20000 in
theorem dX8_off_0 : decode cX8_off 0 = .ok (.lconst 0, 1) := by decide +kernel
theorem dX8_off_1 : decode cX8_off 1 = .ok (.lstore_n 1, 1) := by decide +kernel
theorem dX8_off_2 : decode cX8_off 2 = .ok (.iconst 1, 1) := by decide +kernel
theorem dX8_off_3 : decode cX8_off 3 = .ok (.istore_n 3, 1) := by decide +kernel
theorem dX8_off_4 : decode cX8_off 4 = .ok (.iload_n 3, 1) := by decide +kernel
theorem dX8_off_5 : decode cX8_off 5 = .ok (.aload_n 0, 1) := by decide +kernel
theorem dX8_off_6 : decode cX8_off 6 = .ok (.getfield 50, 3) := by decide +kernel
theorem dX8_off_9 : decode cX8_off 9 = .ok (.if_icmp .gt 18, 3) := by decide +kernel
theorem dX8_off_12 : decode cX8_off 12 = .ok (.lload_n 1, 1) := by decide +kernel
theorem dX8_off_13 : decode cX8_off 13 = .ok (.aload_n 0, 1) := by decide +kernel
theorem dX8_off_14 : decode cX8_off 14 = .ok (.iload_n 3, 1) := by decide +kernel
theorem dX8_off_15 : decode cX8_off 15 = .ok (.invokevirtual 154, 3) := by decide +kernel
theorem dX8_off_18 : decode cX8_off 18 = .ok (.i2l, 1) := by decide +kernel
theorem dX8_off_19 : decode cX8_off 19 = .ok (.ladd, 1) := by decide +kernel
theorem dX8_off_20 : decode cX8_off 20 = .ok (.lstore_n 1, 1) := by decide +kernel
theorem dX8_off_21 : decode cX8_off 21 = .ok (.iinc 3 1, 3) := by decide +kernel
theorem dX8_off_24 : decode cX8_off 24 = .ok (.goto (-20), 3) := by decide +kernel
theorem dX8_off_27 : decode cX8_off 27 = .ok (.lload_n 1, 1) := by decide +kernel
theorem dX8_off_28 : decode cX8_off 28 = .ok (.lreturn, 1) := by decide +kernel
set_option maxRecDepth 20000 in
theorem dX8_wear_0 : decode cX8_wear 0 = .ok (.lconst 0, 1) := by decide +kernel
theorem dX8_wear_1 : decode cX8_wear 1 = .ok (.lstore_n 1, 1) := by decide +kernel
theorem dX8_wear_2 : decode cX8_wear 2 = .ok (.iconst 1, 1) := by decide +kernel
theorem dX8_wear_3 : decode cX8_wear 3 = .ok (.istore_n 3, 1) := by decide +kernel
theorem dX8_wear_4 : decode cX8_wear 4 = .ok (.iload_n 3, 1) := by decide +kernel
theorem dX8_wear_5 : decode cX8_wear 5 = .ok (.aload_n 0, 1) := by decide +kernel
theorem dX8_wear_6 : decode cX8_wear 6 = .ok (.getfield 50, 3) := by decide +kernel
theorem dX8_wear_9 : decode cX8_wear 9 = .ok (.if_icmp .gt 18, 3) := by decide +kernel
theorem dX8_wear_12 : decode cX8_wear 12 = .ok (.lload_n 1, 1) := by decide +kernel
theorem dX8_wear_13 : decode cX8_wear 13 = .ok (.aload_n 0, 1) := by decide +kernel
theorem dX8_wear_14 : decode cX8_wear 14 = .ok (.iload_n 3, 1) := by decide +kernel
theorem dX8_wear_15 : decode cX8_wear 15 = .ok (.invokevirtual 160, 3) := by decide +kernel
theorem dX8_wear_18 : decode cX8_wear 18 = .ok (.i2l, 1) := by decide +kernel
theorem dX8_wear_19 : decode cX8_wear 19 = .ok (.ladd, 1) := by decide +kernel
theorem dX8_wear_20 : decode cX8_wear 20 = .ok (.lstore_n 1, 1) := by decide +kernel
theorem dX8_wear_21 : decode cX8_wear 21 = .ok (.iinc 3 1, 3) := by decide +kernel
theorem dX8_wear_24 : decode cX8_wear 24 = .ok (.goto (-20), 3) := by decide +kernel
theorem dX8_wear_27 : decode cX8_wear 27 = .ok (.lload_n 1, 1) := by decide +kernel
theorem dX8_wear_28 : decode cX8_wear 28 = .ok (.lreturn, 1) := by decide +kernel
set_option maxRecDepth 20000 in
theorem dX8_lost_0 : decode cX8_lost 0 = .ok (.lconst 0, 1) := by decide +kernel
theorem dX8_lost_1 : decode cX8_lost 1 = .ok (.lstore_n 1, 1) := by decide +kernel
theorem dX8_lost_2 : decode cX8_lost 2 = .ok (.iconst 1, 1) := by decide +kernel
theorem dX8_lost_3 : decode cX8_lost 3 = .ok (.istore_n 3, 1) := by decide +kernel
theorem dX8_lost_4 : decode cX8_lost 4 = .ok (.iload_n 3, 1) := by decide +kernel
theorem dX8_lost_5 : decode cX8_lost 5 = .ok (.aload_n 0, 1) := by decide +kernel
theorem dX8_lost_6 : decode cX8_lost 6 = .ok (.getfield 50, 3) := by decide +kernel
theorem dX8_lost_9 : decode cX8_lost 9 = .ok (.if_icmp .gt 28, 3) := by decide +kernel
theorem dX8_lost_12 : decode cX8_lost 12 = .ok (.lload_n 1, 1) := by decide +kernel
theorem dX8_lost_13 : decode cX8_lost 13 = .ok (.aload_n 0, 1) := by decide +kernel
theorem dX8_lost_14 : decode cX8_lost 14 = .ok (.iload_n 3, 1) := by decide +kernel
theorem dX8_lost_15 : decode cX8_lost 15 = .ok (.invokevirtual 154, 3) := by decide +kernel
theorem dX8_lost_18 : decode cX8_lost 18 = .ok (.aload_n 0, 1) := by decide +kernel
theorem dX8_lost_19 : decode cX8_lost 19 = .ok (.iload_n 3, 1) := by decide +kernel
theorem dX8_lost_20 : decode cX8_lost 20 = .ok (.invokevirtual 154, 3) := by decide +kernel
theorem dX8_lost_23 : decode cX8_lost 23 = .ok (.imul, 1) := by decide +kernel
theorem dX8_lost_24 : decode cX8_lost 24 = .ok (.sipush 1000, 3) := by decide +kernel
theorem dX8_lost_27 : decode cX8_lost 27 = .ok (.idiv, 1) := by decide +kernel
theorem dX8_lost_28 : decode cX8_lost 28 = .ok (.i2l, 1) := by decide +kernel
theorem dX8_lost_29 : decode cX8_lost 29 = .ok (.ladd, 1) := by decide +kernel
theorem dX8_lost_30 : decode cX8_lost 30 = .ok (.lstore_n 1, 1) := by decide +kernel
theorem dX8_lost_31 : decode cX8_lost 31 = .ok (.iinc 3 1, 3) := by decide +kernel
theorem dX8_lost_34 : decode cX8_lost 34 = .ok (.goto (-30), 3) := by decide +kernel
theorem dX8_lost_37 : decode cX8_lost 37 = .ok (.lload_n 1, 1) := by decide +kernel
theorem dX8_lost_38 : decode cX8_lost 38 = .ok (.lreturn, 1) := by decide +kernel
set_option maxRecDepth 20000 in
theorem dX8_widest_0 : decode cX8_widest 0 = .ok (.iconst 0, 1) := by decide +kernel
theorem dX8_widest_1 : decode cX8_widest 1 = .ok (.istore_n 1, 1) := by decide +kernel
theorem dX8_widest_2 : decode cX8_widest 2 = .ok (.iconst 1, 1) := by decide +kernel
theorem dX8_widest_3 : decode cX8_widest 3 = .ok (.istore_n 2, 1) := by decide +kernel
theorem dX8_widest_4 : decode cX8_widest 4 = .ok (.iload_n 2, 1) := by decide +kernel
theorem dX8_widest_5 : decode cX8_widest 5 = .ok (.aload_n 0, 1) := by decide +kernel
theorem dX8_widest_6 : decode cX8_widest 6 = .ok (.getfield 50, 3) := by decide +kernel
theorem dX8_widest_9 : decode cX8_widest 9 = .ok (.if_icmp .gt 19, 3) := by decide +kernel
theorem dX8_widest_12 : decode cX8_widest 12 = .ok (.iload_n 1, 1) := by decide +kernel
theorem dX8_widest_13 : decode cX8_widest 13 = .ok (.aload_n 0, 1) := by decide +kernel
theorem dX8_widest_14 : decode cX8_widest 14 = .ok (.iload_n 2, 1) := by decide +kernel
theorem dX8_widest_15 : decode cX8_widest 15 = .ok (.invokevirtual 154, 3) := by decide +kernel
theorem dX8_widest_18 : decode cX8_widest 18 = .ok (.invokestatic 111, 3) := by decide +kernel
theorem dX8_widest_21 : decode cX8_widest 21 = .ok (.istore_n 1, 1) := by decide +kernel
theorem dX8_widest_22 : decode cX8_widest 22 = .ok (.iinc 2 1, 3) := by decide +kernel
theorem dX8_widest_25 : decode cX8_widest 25 = .ok (.goto (-21), 3) := by decide +kernel
theorem dX8_widest_28 : decode cX8_widest 28 = .ok (.iload_n 1, 1) := by decide +kernel
theorem dX8_widest_29 : decode cX8_widest 29 = .ok (.i2l, 1) := by decide +kernel
theorem dX8_widest_30 : decode cX8_widest 30 = .ok (.lreturn, 1) := by decide +kernel
set_option maxRecDepth 20000 in
theorem dX8_drift_0 : decode cX8_drift 0 = .ok (.lconst 0, 1) := by decide +kernel
theorem dX8_drift_1 : decode cX8_drift 1 = .ok (.lstore_n 1, 1) := by decide +kernel
theorem dX8_drift_2 : decode cX8_drift 2 = .ok (.iconst 1, 1) := by decide +kernel
theorem dX8_drift_3 : decode cX8_drift 3 = .ok (.istore_n 3, 1) := by decide +kernel
theorem dX8_drift_4 : decode cX8_drift 4 = .ok (.iload_n 3, 1) := by decide +kernel
theorem dX8_drift_5 : decode cX8_drift 5 = .ok (.aload_n 0, 1) := by decide +kernel
theorem dX8_drift_6 : decode cX8_drift 6 = .ok (.getfield 50, 3) := by decide +kernel
theorem dX8_drift_9 : decode cX8_drift 9 = .ok (.if_icmp .gt 21, 3) := by decide +kernel
theorem dX8_drift_12 : decode cX8_drift 12 = .ok (.lload_n 1, 1) := by decide +kernel
theorem dX8_drift_13 : decode cX8_drift 13 = .ok (.aload_n 0, 1) := by decide +kernel
theorem dX8_drift_14 : decode cX8_drift 14 = .ok (.getfield 9, 3) := by decide +kernel
theorem dX8_drift_17 : decode cX8_drift 17 = .ok (.iload_n 3, 1) := by decide +kernel
theorem dX8_drift_18 : decode cX8_drift 18 = .ok (.invokestatic 77, 3) := by decide +kernel
theorem dX8_drift_21 : decode cX8_drift 21 = .ok (.i2l, 1) := by decide +kernel
theorem dX8_drift_22 : decode cX8_drift 22 = .ok (.ladd, 1) := by decide +kernel
theorem dX8_drift_23 : decode cX8_drift 23 = .ok (.lstore_n 1, 1) := by decide +kernel
theorem dX8_drift_24 : decode cX8_drift 24 = .ok (.iinc 3 1, 3) := by decide +kernel
theorem dX8_drift_27 : decode cX8_drift 27 = .ok (.goto (-23), 3) := by decide +kernel
theorem dX8_drift_30 : decode cX8_drift 30 = .ok (.lload_n 1, 1) := by decide +kernel
theorem dX8_drift_31 : decode cX8_drift 31 = .ok (.lreturn, 1) := by decide +kernel
set_option maxRecDepth 20000 in
theorem dX8_signAt_0 : decode cX8_signAt 0 = .ok (.aload_n 0, 1) := by decide +kernel
theorem dX8_signAt_1 : decode cX8_signAt 1 = .ok (.getfield 9, 3) := by decide +kernel
theorem dX8_signAt_4 : decode cX8_signAt 4 = .ok (.iload_n 1, 1) := by decide +kernel
theorem dX8_signAt_5 : decode cX8_signAt 5 = .ok (.invokestatic 77, 3) := by decide +kernel
theorem dX8_signAt_8 : decode cX8_signAt 8 = .ok (.iconst 0, 1) := by decide +kernel
theorem dX8_signAt_9 : decode cX8_signAt 9 = .ok (.invokestatic 167, 3) := by decide +kernel
theorem dX8_signAt_12 : decode cX8_signAt 12 = .ok (.ireturn, 1) := by decide +kernel
set_option maxRecDepth 20000 in
theorem dX8_crossings_0 : decode cX8_crossings 0 = .ok (.aload_n 0, 1) := by decide +kernel
theorem dX8_crossings_1 : decode cX8_crossings 1 = .ok (.iconst 0, 1) := by decide +kernel
theorem dX8_crossings_2 : decode cX8_crossings 2 = .ok (.invokevirtual 172, 3) := by decide +kernel
theorem dX8_crossings_5 : decode cX8_crossings 5 = .ok (.istore_n 1, 1) := by decide +kernel
theorem dX8_crossings_6 : decode cX8_crossings 6 = .ok (.iconst 0, 1) := by decide +kernel
theorem dX8_crossings_7 : decode cX8_crossings 7 = .ok (.istore_n 2, 1) := by decide +kernel
theorem dX8_crossings_8 : decode cX8_crossings 8 = .ok (.iconst 1, 1) := by decide +kernel
theorem dX8_crossings_9 : decode cX8_crossings 9 = .ok (.istore_n 3, 1) := by decide +kernel
theorem dX8_crossings_10 : decode cX8_crossings 10 = .ok (.iload_n 3, 1) := by decide +kernel
theorem dX8_crossings_11 : decode cX8_crossings 11 = .ok (.aload_n 0, 1) := by decide +kernel
theorem dX8_crossings_12 : decode cX8_crossings 12 = .ok (.getfield 50, 3) := by decide +kernel
theorem dX8_crossings_15 : decode cX8_crossings 15 = .ok (.if_icmp .gt 40, 3) := by decide +kernel
theorem dX8_crossings_18 : decode cX8_crossings 18 = .ok (.aload_n 0, 1) := by decide +kernel
theorem dX8_crossings_19 : decode cX8_crossings 19 = .ok (.iload_n 3, 1) := by decide +kernel
theorem dX8_crossings_20 : decode cX8_crossings 20 = .ok (.invokevirtual 172, 3) := by decide +kernel
theorem dX8_crossings_23 : decode cX8_crossings 23 = .ok (.iload_n 1, 1) := by decide +kernel
theorem dX8_crossings_24 : decode cX8_crossings 24 = .ok (.imul, 1) := by decide +kernel
theorem dX8_crossings_25 : decode cX8_crossings 25 = .ok (.ifCond .ge 6, 3) := by decide +kernel
theorem dX8_crossings_28 : decode cX8_crossings 28 = .ok (.iinc 2 1, 3) := by decide +kernel
theorem dX8_crossings_31 : decode cX8_crossings 31 = .ok (.aload_n 0, 1) := by decide +kernel
theorem dX8_crossings_32 : decode cX8_crossings 32 = .ok (.iload_n 3, 1) := by decide +kernel
theorem dX8_crossings_33 : decode cX8_crossings 33 = .ok (.invokevirtual 172, 3) := by decide +kernel
theorem dX8_crossings_36 : decode cX8_crossings 36 = .ok (.ifCond .ne 7, 3) := by decide +kernel
theorem dX8_crossings_39 : decode cX8_crossings 39 = .ok (.iload_n 1, 1) := by decide +kernel
theorem dX8_crossings_40 : decode cX8_crossings 40 = .ok (.goto 8, 3) := by decide +kernel
theorem dX8_crossings_43 : decode cX8_crossings 43 = .ok (.aload_n 0, 1) := by decide +kernel
theorem dX8_crossings_44 : decode cX8_crossings 44 = .ok (.iload_n 3, 1) := by decide +kernel
theorem dX8_crossings_45 : decode cX8_crossings 45 = .ok (.invokevirtual 172, 3) := by decide +kernel
theorem dX8_crossings_48 : decode cX8_crossings 48 = .ok (.istore_n 1, 1) := by decide +kernel
theorem dX8_crossings_49 : decode cX8_crossings 49 = .ok (.iinc 3 1, 3) := by decide +kernel
theorem dX8_crossings_52 : decode cX8_crossings 52 = .ok (.goto (-42), 3) := by decide +kernel
theorem dX8_crossings_55 : decode cX8_crossings 55 = .ok (.iload_n 2, 1) := by decide +kernel
theorem dX8_crossings_56 : decode cX8_crossings 56 = .ok (.i2l, 1) := by decide +kernel
theorem dX8_crossings_57 : decode cX8_crossings 57 = .ok (.lreturn, 1) := by decide +kernel
set_option maxRecDepth 20000 in
theorem dX8_peakAt_0 : decode cX8_peakAt 0 = .ok (.aload_n 0, 1) := by decide +kernel
theorem dX8_peakAt_1 : decode cX8_peakAt 1 = .ok (.iconst 0, 1) := by decide +kernel
theorem dX8_peakAt_2 : decode cX8_peakAt 2 = .ok (.invokevirtual 172, 3) := by decide +kernel
theorem dX8_peakAt_5 : decode cX8_peakAt 5 = .ok (.istore_n 2, 1) := by decide +kernel
theorem dX8_peakAt_6 : decode cX8_peakAt 6 = .ok (.iconst 0, 1) := by decide +kernel
theorem dX8_peakAt_7 : decode cX8_peakAt 7 = .ok (.istore_n 3, 1) := by decide +kernel
theorem dX8_peakAt_8 : decode cX8_peakAt 8 = .ok (.iconst 0, 1) := by decide +kernel
theorem dX8_peakAt_9 : decode cX8_peakAt 9 = .ok (.istore 4, 2) := by decide +kernel
theorem dX8_peakAt_11 : decode cX8_peakAt 11 = .ok (.iconst 1, 1) := by decide +kernel
theorem dX8_peakAt_12 : decode cX8_peakAt 12 = .ok (.istore 5, 2) := by decide +kernel
theorem dX8_peakAt_14 : decode cX8_peakAt 14 = .ok (.iload 5, 2) := by decide +kernel
theorem dX8_peakAt_16 : decode cX8_peakAt 16 = .ok (.aload_n 0, 1) := by decide +kernel
theorem dX8_peakAt_17 : decode cX8_peakAt 17 = .ok (.getfield 50, 3) := by decide +kernel
theorem dX8_peakAt_20 : decode cX8_peakAt 20 = .ok (.if_icmp .gt 67, 3) := by decide +kernel
theorem dX8_peakAt_23 : decode cX8_peakAt 23 = .ok (.aload_n 0, 1) := by decide +kernel
theorem dX8_peakAt_24 : decode cX8_peakAt 24 = .ok (.iload 5, 2) := by decide +kernel
theorem dX8_peakAt_26 : decode cX8_peakAt 26 = .ok (.invokevirtual 172, 3) := by decide +kernel
theorem dX8_peakAt_29 : decode cX8_peakAt 29 = .ok (.iload_n 2, 1) := by decide +kernel
theorem dX8_peakAt_30 : decode cX8_peakAt 30 = .ok (.imul, 1) := by decide +kernel
theorem dX8_peakAt_31 : decode cX8_peakAt 31 = .ok (.ifCond .ge 17, 3) := by decide +kernel
theorem dX8_peakAt_34 : decode cX8_peakAt 34 = .ok (.iload_n 3, 1) := by decide +kernel
theorem dX8_peakAt_35 : decode cX8_peakAt 35 = .ok (.iload_n 1, 1) := by decide +kernel
theorem dX8_peakAt_36 : decode cX8_peakAt 36 = .ok (.if_icmp .ne 6, 3) := by decide +kernel
theorem dX8_peakAt_39 : decode cX8_peakAt 39 = .ok (.iload 4, 2) := by decide +kernel
theorem dX8_peakAt_41 : decode cX8_peakAt 41 = .ok (.ireturn, 1) := by decide +kernel
theorem dX8_peakAt_42 : decode cX8_peakAt 42 = .ok (.iinc 3 1, 3) := by decide +kernel
theorem dX8_peakAt_45 : decode cX8_peakAt 45 = .ok (.iconst 0, 1) := by decide +kernel
theorem dX8_peakAt_46 : decode cX8_peakAt 46 = .ok (.istore 4, 2) := by decide +kernel
theorem dX8_peakAt_48 : decode cX8_peakAt 48 = .ok (.aload_n 0, 1) := by decide +kernel
theorem dX8_peakAt_49 : decode cX8_peakAt 49 = .ok (.iload 5, 2) := by decide +kernel
theorem dX8_peakAt_51 : decode cX8_peakAt 51 = .ok (.invokevirtual 172, 3) := by decide +kernel
theorem dX8_peakAt_54 : decode cX8_peakAt 54 = .ok (.ifCond .ne 7, 3) := by decide +kernel
theorem dX8_peakAt_57 : decode cX8_peakAt 57 = .ok (.iload_n 2, 1) := by decide +kernel
theorem dX8_peakAt_58 : decode cX8_peakAt 58 = .ok (.goto 9, 3) := by decide +kernel
theorem dX8_peakAt_61 : decode cX8_peakAt 61 = .ok (.aload_n 0, 1) := by decide +kernel
theorem dX8_peakAt_62 : decode cX8_peakAt 62 = .ok (.iload 5, 2) := by decide +kernel
theorem dX8_peakAt_64 : decode cX8_peakAt 64 = .ok (.invokevirtual 172, 3) := by decide +kernel
theorem dX8_peakAt_67 : decode cX8_peakAt 67 = .ok (.istore_n 2, 1) := by decide +kernel
theorem dX8_peakAt_68 : decode cX8_peakAt 68 = .ok (.iload 4, 2) := by decide +kernel
theorem dX8_peakAt_70 : decode cX8_peakAt 70 = .ok (.aload_n 0, 1) := by decide +kernel
theorem dX8_peakAt_71 : decode cX8_peakAt 71 = .ok (.iload 5, 2) := by decide +kernel
theorem dX8_peakAt_73 : decode cX8_peakAt 73 = .ok (.invokevirtual 154, 3) := by decide +kernel
theorem dX8_peakAt_76 : decode cX8_peakAt 76 = .ok (.invokestatic 111, 3) := by decide +kernel
theorem dX8_peakAt_79 : decode cX8_peakAt 79 = .ok (.istore 4, 2) := by decide +kernel
theorem dX8_peakAt_81 : decode cX8_peakAt 81 = .ok (.iinc 5 1, 3) := by decide +kernel
theorem dX8_peakAt_84 : decode cX8_peakAt 84 = .ok (.goto (-70), 3) := by decide +kernel
theorem dX8_peakAt_87 : decode cX8_peakAt 87 = .ok (.iload_n 3, 1) := by decide +kernel
theorem dX8_peakAt_88 : decode cX8_peakAt 88 = .ok (.iload_n 1, 1) := by decide +kernel
theorem dX8_peakAt_89 : decode cX8_peakAt 89 = .ok (.if_icmp .ne 8, 3) := by decide +kernel
theorem dX8_peakAt_92 : decode cX8_peakAt 92 = .ok (.iload 4, 2) := by decide +kernel
theorem dX8_peakAt_94 : decode cX8_peakAt 94 = .ok (.goto 4, 3) := by decide +kernel
theorem dX8_peakAt_97 : decode cX8_peakAt 97 = .ok (.iconst (-1), 1) := by decide +kernel
theorem dX8_peakAt_98 : decode cX8_peakAt 98 = .ok (.ireturn, 1) := by decide +kernel
set_option maxRecDepth 20000 in
theorem dX8_grows_0 : decode cX8_grows 0 = .ok (.aload_n 0, 1) := by decide +kernel
theorem dX8_grows_1 : decode cX8_grows 1 = .ok (.invokevirtual 136, 3) := by decide +kernel
theorem dX8_grows_4 : decode cX8_grows 4 = .ok (.l2i, 1) := by decide +kernel
theorem dX8_grows_5 : decode cX8_grows 5 = .ok (.iconst 1, 1) := by decide +kernel
theorem dX8_grows_6 : decode cX8_grows 6 = .ok (.iadd, 1) := by decide +kernel
theorem dX8_grows_7 : decode cX8_grows 7 = .ok (.istore_n 1, 1) := by decide +kernel
theorem dX8_grows_8 : decode cX8_grows 8 = .ok (.iload_n 1, 1) := by decide +kernel
theorem dX8_grows_9 : decode cX8_grows 9 = .ok (.iconst 3, 1) := by decide +kernel
theorem dX8_grows_10 : decode cX8_grows 10 = .ok (.if_icmp .lt 24, 3) := by decide +kernel
theorem dX8_grows_13 : decode cX8_grows 13 = .ok (.aload_n 0, 1) := by decide +kernel
theorem dX8_grows_14 : decode cX8_grows 14 = .ok (.iload_n 1, 1) := by decide +kernel
theorem dX8_grows_15 : decode cX8_grows 15 = .ok (.iconst 2, 1) := by decide +kernel
theorem dX8_grows_16 : decode cX8_grows 16 = .ok (.isub, 1) := by decide +kernel
theorem dX8_grows_17 : decode cX8_grows 17 = .ok (.invokevirtual 175, 3) := by decide +kernel
theorem dX8_grows_20 : decode cX8_grows 20 = .ok (.aload_n 0, 1) := by decide +kernel
theorem dX8_grows_21 : decode cX8_grows 21 = .ok (.iload_n 1, 1) := by decide +kernel
theorem dX8_grows_22 : decode cX8_grows 22 = .ok (.iconst 3, 1) := by decide +kernel
theorem dX8_grows_23 : decode cX8_grows 23 = .ok (.isub, 1) := by decide +kernel
theorem dX8_grows_24 : decode cX8_grows 24 = .ok (.invokevirtual 175, 3) := by decide +kernel
theorem dX8_grows_27 : decode cX8_grows 27 = .ok (.if_icmp .le 7, 3) := by decide +kernel
theorem dX8_grows_30 : decode cX8_grows 30 = .ok (.iconst 1, 1) := by decide +kernel
theorem dX8_grows_31 : decode cX8_grows 31 = .ok (.goto 4, 3) := by decide +kernel
theorem dX8_grows_34 : decode cX8_grows 34 = .ok (.iconst 0, 1) := by decide +kernel
theorem dX8_grows_35 : decode cX8_grows 35 = .ok (.ireturn, 1) := by decide +kernel
set_option maxRecDepth 20000 in
theorem dX8_spokes_0 : decode cX8_spokes 0 = .ok (.iconst 0, 1) := by decide +kernel
theorem dX8_spokes_1 : decode cX8_spokes 1 = .ok (.istore_n 1, 1) := by decide +kernel
theorem dX8_spokes_2 : decode cX8_spokes 2 = .ok (.iconst 1, 1) := by decide +kernel
theorem dX8_spokes_3 : decode cX8_spokes 3 = .ok (.istore_n 2, 1) := by decide +kernel
theorem dX8_spokes_4 : decode cX8_spokes 4 = .ok (.iload_n 2, 1) := by decide +kernel
theorem dX8_spokes_5 : decode cX8_spokes 5 = .ok (.aload_n 0, 1) := by decide +kernel
theorem dX8_spokes_6 : decode cX8_spokes 6 = .ok (.getfield 50, 3) := by decide +kernel
theorem dX8_spokes_9 : decode cX8_spokes 9 = .ok (.if_icmp .gt 25, 3) := by decide +kernel
theorem dX8_spokes_12 : decode cX8_spokes 12 = .ok (.iload_n 1, 1) := by decide +kernel
theorem dX8_spokes_13 : decode cX8_spokes 13 = .ok (.aload_n 0, 1) := by decide +kernel
theorem dX8_spokes_14 : decode cX8_spokes 14 = .ok (.iload_n 2, 1) := by decide +kernel
theorem dX8_spokes_15 : decode cX8_spokes 15 = .ok (.invokevirtual 160, 3) := by decide +kernel
theorem dX8_spokes_18 : decode cX8_spokes 18 = .ok (.ifCond .eq 7, 3) := by decide +kernel
theorem dX8_spokes_21 : decode cX8_spokes 21 = .ok (.iconst 1, 1) := by decide +kernel
theorem dX8_spokes_22 : decode cX8_spokes 22 = .ok (.goto 4, 3) := by decide +kernel
theorem dX8_spokes_25 : decode cX8_spokes 25 = .ok (.iconst 0, 1) := by decide +kernel
theorem dX8_spokes_26 : decode cX8_spokes 26 = .ok (.iadd, 1) := by decide +kernel
theorem dX8_spokes_27 : decode cX8_spokes 27 = .ok (.istore_n 1, 1) := by decide +kernel
theorem dX8_spokes_28 : decode cX8_spokes 28 = .ok (.iinc 2 1, 3) := by decide +kernel
theorem dX8_spokes_31 : decode cX8_spokes 31 = .ok (.goto (-27), 3) := by decide +kernel
theorem dX8_spokes_34 : decode cX8_spokes 34 = .ok (.iload_n 1, 1) := by decide +kernel
theorem dX8_spokes_35 : decode cX8_spokes 35 = .ok (.i2l, 1) := by decide +kernel
theorem dX8_spokes_36 : decode cX8_spokes 36 = .ok (.lreturn, 1) := by decide +kernel
set_option maxRecDepth 20000 in
theorem dX8_waits_0 : decode cX8_waits 0 = .ok (.iconst 0, 1) := by decide +kernel
theorem dX8_waits_1 : decode cX8_waits 1 = .ok (.istore_n 1, 1) := by decide +kernel
theorem dX8_waits_2 : decode cX8_waits 2 = .ok (.iconst 0, 1) := by decide +kernel
theorem dX8_waits_3 : decode cX8_waits 3 = .ok (.istore_n 2, 1) := by decide +kernel
theorem dX8_waits_4 : decode cX8_waits 4 = .ok (.iconst 1, 1) := by decide +kernel
theorem dX8_waits_5 : decode cX8_waits 5 = .ok (.istore_n 3, 1) := by decide +kernel
theorem dX8_waits_6 : decode cX8_waits 6 = .ok (.iload_n 3, 1) := by decide +kernel
theorem dX8_waits_7 : decode cX8_waits 7 = .ok (.aload_n 0, 1) := by decide +kernel
theorem dX8_waits_8 : decode cX8_waits 8 = .ok (.getfield 50, 3) := by decide +kernel
theorem dX8_waits_11 : decode cX8_waits 11 = .ok (.if_icmp .gt 31, 3) := by decide +kernel
theorem dX8_waits_14 : decode cX8_waits 14 = .ok (.aload_n 0, 1) := by decide +kernel
theorem dX8_waits_15 : decode cX8_waits 15 = .ok (.iload_n 3, 1) := by decide +kernel
theorem dX8_waits_16 : decode cX8_waits 16 = .ok (.invokevirtual 160, 3) := by decide +kernel
theorem dX8_waits_19 : decode cX8_waits 19 = .ok (.ifCond .ne 9, 3) := by decide +kernel
theorem dX8_waits_22 : decode cX8_waits 22 = .ok (.iload_n 2, 1) := by decide +kernel
theorem dX8_waits_23 : decode cX8_waits 23 = .ok (.iconst 1, 1) := by decide +kernel
theorem dX8_waits_24 : decode cX8_waits 24 = .ok (.iadd, 1) := by decide +kernel
theorem dX8_waits_25 : decode cX8_waits 25 = .ok (.goto 4, 3) := by decide +kernel
theorem dX8_waits_28 : decode cX8_waits 28 = .ok (.iconst 0, 1) := by decide +kernel
theorem dX8_waits_29 : decode cX8_waits 29 = .ok (.istore_n 2, 1) := by decide +kernel
theorem dX8_waits_30 : decode cX8_waits 30 = .ok (.iload_n 1, 1) := by decide +kernel
theorem dX8_waits_31 : decode cX8_waits 31 = .ok (.iload_n 2, 1) := by decide +kernel
theorem dX8_waits_32 : decode cX8_waits 32 = .ok (.invokestatic 111, 3) := by decide +kernel
theorem dX8_waits_35 : decode cX8_waits 35 = .ok (.istore_n 1, 1) := by decide +kernel
theorem dX8_waits_36 : decode cX8_waits 36 = .ok (.iinc 3 1, 3) := by decide +kernel
theorem dX8_waits_39 : decode cX8_waits 39 = .ok (.goto (-33), 3) := by decide +kernel
theorem dX8_waits_42 : decode cX8_waits 42 = .ok (.iload_n 1, 1) := by decide +kernel
theorem dX8_waits_43 : decode cX8_waits 43 = .ok (.i2l, 1) := by decide +kernel
theorem dX8_waits_44 : decode cX8_waits 44 = .ok (.lreturn, 1) := by decide +kernel
set_option maxRecDepth 20000 in
theorem dX8_earliestBeyond_0 : decode cX8_earliestBeyond 0 = .ok (.iconst 1, 1) := by decide +kernel
theorem dX8_earliestBeyond_1 : decode cX8_earliestBeyond 1 = .ok (.istore_n 2, 1) := by decide +kernel
theorem dX8_earliestBeyond_2 : decode cX8_earliestBeyond 2 = .ok (.iload_n 2, 1) := by decide +kernel
theorem dX8_earliestBeyond_3 : decode cX8_earliestBeyond 3 = .ok (.aload_n 0, 1) := by decide +kernel
theorem dX8_earliestBeyond_4 : decode cX8_earliestBeyond 4 = .ok (.getfield 50, 3) := by decide +kernel
theorem dX8_earliestBeyond_7 : decode cX8_earliestBeyond 7 = .ok (.if_icmp .gt 20, 3) := by decide +kernel
theorem dX8_earliestBeyond_10 : decode cX8_earliestBeyond 10 = .ok (.aload_n 0, 1) := by decide +kernel
theorem dX8_earliestBeyond_11 : decode cX8_earliestBeyond 11 = .ok (.iload_n 2, 1) := by decide +kernel
theorem dX8_earliestBeyond_12 : decode cX8_earliestBeyond 12 = .ok (.invokevirtual 154, 3) := by decide +kernel
theorem dX8_earliestBeyond_15 : decode cX8_earliestBeyond 15 = .ok (.iload_n 1, 1) := by decide +kernel
theorem dX8_earliestBeyond_16 : decode cX8_earliestBeyond 16 = .ok (.if_icmp .le 5, 3) := by decide +kernel
theorem dX8_earliestBeyond_19 : decode cX8_earliestBeyond 19 = .ok (.iload_n 2, 1) := by decide +kernel
theorem dX8_earliestBeyond_20 : decode cX8_earliestBeyond 20 = .ok (.ireturn, 1) := by decide +kernel
theorem dX8_earliestBeyond_21 : decode cX8_earliestBeyond 21 = .ok (.iinc 2 1, 3) := by decide +kernel
theorem dX8_earliestBeyond_24 : decode cX8_earliestBeyond 24 = .ok (.goto (-22), 3) := by decide +kernel
theorem dX8_earliestBeyond_27 : decode cX8_earliestBeyond 27 = .ok (.iconst (-1), 1) := by decide +kernel
theorem dX8_earliestBeyond_28 : decode cX8_earliestBeyond 28 = .ok (.ireturn, 1) := by decide +kernel
set_option maxRecDepth 20000 in
theorem dX8_latestBeyond_0 : decode cX8_latestBeyond 0 = .ok (.aload_n 0, 1) := by decide +kernel
theorem dX8_latestBeyond_1 : decode cX8_latestBeyond 1 = .ok (.getfield 50, 3) := by decide +kernel
theorem dX8_latestBeyond_4 : decode cX8_latestBeyond 4 = .ok (.istore_n 2, 1) := by decide +kernel
theorem dX8_latestBeyond_5 : decode cX8_latestBeyond 5 = .ok (.iload_n 2, 1) := by decide +kernel
theorem dX8_latestBeyond_6 : decode cX8_latestBeyond 6 = .ok (.iconst 1, 1) := by decide +kernel
theorem dX8_latestBeyond_7 : decode cX8_latestBeyond 7 = .ok (.if_icmp .lt 20, 3) := by decide +kernel
theorem dX8_latestBeyond_10 : decode cX8_latestBeyond 10 = .ok (.aload_n 0, 1) := by decide +kernel
theorem dX8_latestBeyond_11 : decode cX8_latestBeyond 11 = .ok (.iload_n 2, 1) := by decide +kernel
theorem dX8_latestBeyond_12 : decode cX8_latestBeyond 12 = .ok (.invokevirtual 154, 3) := by decide +kernel
theorem dX8_latestBeyond_15 : decode cX8_latestBeyond 15 = .ok (.iload_n 1, 1) := by decide +kernel
theorem dX8_latestBeyond_16 : decode cX8_latestBeyond 16 = .ok (.if_icmp .le 5, 3) := by decide +kernel
theorem dX8_latestBeyond_19 : decode cX8_latestBeyond 19 = .ok (.iload_n 2, 1) := by decide +kernel
theorem dX8_latestBeyond_20 : decode cX8_latestBeyond 20 = .ok (.ireturn, 1) := by decide +kernel
theorem dX8_latestBeyond_21 : decode cX8_latestBeyond 21 = .ok (.iinc 2 (-1), 3) := by decide +kernel
theorem dX8_latestBeyond_24 : decode cX8_latestBeyond 24 = .ok (.goto (-19), 3) := by decide +kernel
theorem dX8_latestBeyond_27 : decode cX8_latestBeyond 27 = .ok (.iconst 0, 1) := by decide +kernel
theorem dX8_latestBeyond_28 : decode cX8_latestBeyond 28 = .ok (.ireturn, 1) := by decide +kernel
set_option maxRecDepth 20000 in
theorem dX8_dearest_0 : decode cX8_dearest 0 = .ok (.iconst (-1), 1) := by decide +kernel
theorem dX8_dearest_1 : decode cX8_dearest 1 = .ok (.istore_n 1, 1) := by decide +kernel
theorem dX8_dearest_2 : decode cX8_dearest 2 = .ok (.iconst 1, 1) := by decide +kernel
theorem dX8_dearest_3 : decode cX8_dearest 3 = .ok (.istore_n 2, 1) := by decide +kernel
theorem dX8_dearest_4 : decode cX8_dearest 4 = .ok (.iload_n 2, 1) := by decide +kernel
theorem dX8_dearest_5 : decode cX8_dearest 5 = .ok (.aload_n 0, 1) := by decide +kernel
theorem dX8_dearest_6 : decode cX8_dearest 6 = .ok (.getfield 50, 3) := by decide +kernel
theorem dX8_dearest_9 : decode cX8_dearest 9 = .ok (.if_icmp .gt 30, 3) := by decide +kernel
theorem dX8_dearest_12 : decode cX8_dearest 12 = .ok (.iload_n 1, 1) := by decide +kernel
theorem dX8_dearest_13 : decode cX8_dearest 13 = .ok (.iconst (-1), 1) := by decide +kernel
theorem dX8_dearest_14 : decode cX8_dearest 14 = .ok (.if_icmp .eq 17, 3) := by decide +kernel
theorem dX8_dearest_17 : decode cX8_dearest 17 = .ok (.aload_n 0, 1) := by decide +kernel
theorem dX8_dearest_18 : decode cX8_dearest 18 = .ok (.iload_n 2, 1) := by decide +kernel
theorem dX8_dearest_19 : decode cX8_dearest 19 = .ok (.invokevirtual 163, 3) := by decide +kernel
theorem dX8_dearest_22 : decode cX8_dearest 22 = .ok (.aload_n 0, 1) := by decide +kernel
theorem dX8_dearest_23 : decode cX8_dearest 23 = .ok (.iload_n 1, 1) := by decide +kernel
theorem dX8_dearest_24 : decode cX8_dearest 24 = .ok (.invokevirtual 163, 3) := by decide +kernel
theorem dX8_dearest_27 : decode cX8_dearest 27 = .ok (.lcmp, 1) := by decide +kernel
theorem dX8_dearest_28 : decode cX8_dearest 28 = .ok (.ifCond .le 5, 3) := by decide +kernel
theorem dX8_dearest_31 : decode cX8_dearest 31 = .ok (.iload_n 2, 1) := by decide +kernel
theorem dX8_dearest_32 : decode cX8_dearest 32 = .ok (.istore_n 1, 1) := by decide +kernel
theorem dX8_dearest_33 : decode cX8_dearest 33 = .ok (.iinc 2 1, 3) := by decide +kernel
theorem dX8_dearest_36 : decode cX8_dearest 36 = .ok (.goto (-32), 3) := by decide +kernel
theorem dX8_dearest_39 : decode cX8_dearest 39 = .ok (.iload_n 1, 1) := by decide +kernel
theorem dX8_dearest_40 : decode cX8_dearest 40 = .ok (.ireturn, 1) := by decide +kernel
set_option maxRecDepth 20000 in
theorem dX8_halfway_0 : decode cX8_halfway 0 = .ok (.aload_n 0, 1) := by decide +kernel
theorem dX8_halfway_1 : decode cX8_halfway 1 = .ok (.invokevirtual 117, 3) := by decide +kernel
theorem dX8_halfway_4 : decode cX8_halfway 4 = .ok (.lstore_n 1, 1) := by decide +kernel
theorem dX8_halfway_5 : decode cX8_halfway 5 = .ok (.lconst 0, 1) := by decide +kernel
theorem dX8_halfway_6 : decode cX8_halfway 6 = .ok (.lstore_n 3, 1) := by decide +kernel
theorem dX8_halfway_7 : decode cX8_halfway 7 = .ok (.iconst 1, 1) := by decide +kernel
theorem dX8_halfway_8 : decode cX8_halfway 8 = .ok (.istore 5, 2) := by decide +kernel
theorem dX8_halfway_10 : decode cX8_halfway 10 = .ok (.iload 5, 2) := by decide +kernel
theorem dX8_halfway_12 : decode cX8_halfway 12 = .ok (.aload_n 0, 1) := by decide +kernel
theorem dX8_halfway_13 : decode cX8_halfway 13 = .ok (.getfield 50, 3) := by decide +kernel
theorem dX8_halfway_16 : decode cX8_halfway 16 = .ok (.if_icmp .gt 31, 3) := by decide +kernel
theorem dX8_halfway_19 : decode cX8_halfway 19 = .ok (.lload_n 3, 1) := by decide +kernel
theorem dX8_halfway_20 : decode cX8_halfway 20 = .ok (.aload_n 0, 1) := by decide +kernel
theorem dX8_halfway_21 : decode cX8_halfway 21 = .ok (.iload 5, 2) := by decide +kernel
theorem dX8_halfway_23 : decode cX8_halfway 23 = .ok (.invokevirtual 163, 3) := by decide +kernel
theorem dX8_halfway_26 : decode cX8_halfway 26 = .ok (.ladd, 1) := by decide +kernel
theorem dX8_halfway_27 : decode cX8_halfway 27 = .ok (.lstore_n 3, 1) := by decide +kernel
theorem dX8_halfway_28 : decode cX8_halfway 28 = .ok (.ldc2_w 178, 3) := by decide +kernel
theorem dX8_halfway_31 : decode cX8_halfway 31 = .ok (.lload_n 3, 1) := by decide +kernel
theorem dX8_halfway_32 : decode cX8_halfway 32 = .ok (.lmul, 1) := by decide +kernel
theorem dX8_halfway_33 : decode cX8_halfway 33 = .ok (.lload_n 1, 1) := by decide +kernel
theorem dX8_halfway_34 : decode cX8_halfway 34 = .ok (.lcmp, 1) := by decide +kernel
theorem dX8_halfway_35 : decode cX8_halfway 35 = .ok (.ifCond .lt 6, 3) := by decide +kernel
theorem dX8_halfway_38 : decode cX8_halfway 38 = .ok (.iload 5, 2) := by decide +kernel
theorem dX8_halfway_40 : decode cX8_halfway 40 = .ok (.ireturn, 1) := by decide +kernel
theorem dX8_halfway_41 : decode cX8_halfway 41 = .ok (.iinc 5 1, 3) := by decide +kernel
theorem dX8_halfway_44 : decode cX8_halfway 44 = .ok (.goto (-34), 3) := by decide +kernel
theorem dX8_halfway_47 : decode cX8_halfway 47 = .ok (.iconst (-1), 1) := by decide +kernel
theorem dX8_halfway_48 : decode cX8_halfway 48 = .ok (.ireturn, 1) := by decide +kernel
set_option maxRecDepth 20000 in
theorem dX8_apartFrom_0 : decode cX8_apartFrom 0 = .ok (.iconst 0, 1) := by decide +kernel
theorem dX8_apartFrom_1 : decode cX8_apartFrom 1 = .ok (.istore_n 2, 1) := by decide +kernel
theorem dX8_apartFrom_2 : decode cX8_apartFrom 2 = .ok (.iconst 0, 1) := by decide +kernel
theorem dX8_apartFrom_3 : decode cX8_apartFrom 3 = .ok (.istore_n 3, 1) := by decide +kernel
theorem dX8_apartFrom_4 : decode cX8_apartFrom 4 = .ok (.aload_n 1, 1) := by decide +kernel
theorem dX8_apartFrom_5 : decode cX8_apartFrom 5 = .ok (.ifnull 42, 3) := by decide +kernel
theorem dX8_apartFrom_8 : decode cX8_apartFrom 8 = .ok (.iload_n 3, 1) := by decide +kernel
theorem dX8_apartFrom_9 : decode cX8_apartFrom 9 = .ok (.aload_n 1, 1) := by decide +kernel
theorem dX8_apartFrom_10 : decode cX8_apartFrom 10 = .ok (.getfield 180, 3) := by decide +kernel
theorem dX8_apartFrom_13 : decode cX8_apartFrom 13 = .ok (.if_icmp .ge 34, 3) := by decide +kernel
theorem dX8_apartFrom_16 : decode cX8_apartFrom 16 = .ok (.iload_n 2, 1) := by decide +kernel
theorem dX8_apartFrom_17 : decode cX8_apartFrom 17 = .ok (.aload_n 1, 1) := by decide +kernel
theorem dX8_apartFrom_18 : decode cX8_apartFrom 18 = .ok (.getfield 185, 3) := by decide +kernel
theorem dX8_apartFrom_21 : decode cX8_apartFrom 21 = .ok (.iload_n 3, 1) := by decide +kernel
theorem dX8_apartFrom_22 : decode cX8_apartFrom 22 = .ok (.invokestatic 77, 3) := by decide +kernel
theorem dX8_apartFrom_25 : decode cX8_apartFrom 25 = .ok (.aload_n 0, 1) := by decide +kernel
theorem dX8_apartFrom_26 : decode cX8_apartFrom 26 = .ok (.getfield 9, 3) := by decide +kernel
theorem dX8_apartFrom_29 : decode cX8_apartFrom 29 = .ok (.iload_n 3, 1) := by decide +kernel
theorem dX8_apartFrom_30 : decode cX8_apartFrom 30 = .ok (.iconst 1, 1) := by decide +kernel
theorem dX8_apartFrom_31 : decode cX8_apartFrom 31 = .ok (.iadd, 1) := by decide +kernel
theorem dX8_apartFrom_32 : decode cX8_apartFrom 32 = .ok (.invokestatic 77, 3) := by decide +kernel
theorem dX8_apartFrom_35 : decode cX8_apartFrom 35 = .ok (.isub, 1) := by decide +kernel
theorem dX8_apartFrom_36 : decode cX8_apartFrom 36 = .ok (.invokestatic 151, 3) := by decide +kernel
theorem dX8_apartFrom_39 : decode cX8_apartFrom 39 = .ok (.iadd, 1) := by decide +kernel
theorem dX8_apartFrom_40 : decode cX8_apartFrom 40 = .ok (.istore_n 2, 1) := by decide +kernel
theorem dX8_apartFrom_41 : decode cX8_apartFrom 41 = .ok (.iinc 3 1, 3) := by decide +kernel
theorem dX8_apartFrom_44 : decode cX8_apartFrom 44 = .ok (.goto (-40), 3) := by decide +kernel
theorem dX8_apartFrom_47 : decode cX8_apartFrom 47 = .ok (.iload_n 2, 1) := by decide +kernel
theorem dX8_apartFrom_48 : decode cX8_apartFrom 48 = .ok (.ireturn, 1) := by decide +kernel
set_option maxRecDepth 20000 in
theorem dX8_alikeTo_0 : decode cX8_alikeTo 0 = .ok (.iconst 0, 1) := by decide +kernel
theorem dX8_alikeTo_1 : decode cX8_alikeTo 1 = .ok (.istore_n 2, 1) := by decide +kernel
theorem dX8_alikeTo_2 : decode cX8_alikeTo 2 = .ok (.aload_n 1, 1) := by decide +kernel
theorem dX8_alikeTo_3 : decode cX8_alikeTo 3 = .ok (.ifnull 38, 3) := by decide +kernel
theorem dX8_alikeTo_6 : decode cX8_alikeTo 6 = .ok (.iload_n 2, 1) := by decide +kernel
theorem dX8_alikeTo_7 : decode cX8_alikeTo 7 = .ok (.aload_n 1, 1) := by decide +kernel
theorem dX8_alikeTo_8 : decode cX8_alikeTo 8 = .ok (.getfield 180, 3) := by decide +kernel
theorem dX8_alikeTo_11 : decode cX8_alikeTo 11 = .ok (.if_icmp .ge 30, 3) := by decide +kernel
theorem dX8_alikeTo_14 : decode cX8_alikeTo 14 = .ok (.aload_n 1, 1) := by decide +kernel
theorem dX8_alikeTo_15 : decode cX8_alikeTo 15 = .ok (.getfield 185, 3) := by decide +kernel
theorem dX8_alikeTo_18 : decode cX8_alikeTo 18 = .ok (.iload_n 2, 1) := by decide +kernel
theorem dX8_alikeTo_19 : decode cX8_alikeTo 19 = .ok (.invokestatic 77, 3) := by decide +kernel
theorem dX8_alikeTo_22 : decode cX8_alikeTo 22 = .ok (.aload_n 0, 1) := by decide +kernel
theorem dX8_alikeTo_23 : decode cX8_alikeTo 23 = .ok (.getfield 9, 3) := by decide +kernel
theorem dX8_alikeTo_26 : decode cX8_alikeTo 26 = .ok (.iload_n 2, 1) := by decide +kernel
theorem dX8_alikeTo_27 : decode cX8_alikeTo 27 = .ok (.iconst 1, 1) := by decide +kernel
theorem dX8_alikeTo_28 : decode cX8_alikeTo 28 = .ok (.iadd, 1) := by decide +kernel
theorem dX8_alikeTo_29 : decode cX8_alikeTo 29 = .ok (.invokestatic 77, 3) := by decide +kernel
theorem dX8_alikeTo_32 : decode cX8_alikeTo 32 = .ok (.if_icmp .ne 9, 3) := by decide +kernel
theorem dX8_alikeTo_35 : decode cX8_alikeTo 35 = .ok (.iinc 2 1, 3) := by decide +kernel
theorem dX8_alikeTo_38 : decode cX8_alikeTo 38 = .ok (.goto (-36), 3) := by decide +kernel
theorem dX8_alikeTo_41 : decode cX8_alikeTo 41 = .ok (.iload_n 2, 1) := by decide +kernel
theorem dX8_alikeTo_42 : decode cX8_alikeTo 42 = .ok (.ireturn, 1) := by decide +kernel
