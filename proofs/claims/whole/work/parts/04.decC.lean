theorem dX10_init_0 : decode cX10_init 0 = .ok (.aload_n 0, 1) := by decide +kernel
theorem dX10_init_1 : decode cX10_init 1 = .ok (.invokespecial 1, 3) := by decide +kernel
theorem dX10_init_4 : decode cX10_init 4 = .ok (.aload_n 0, 1) := by decide +kernel
theorem dX10_init_5 : decode cX10_init 5 = .ok (.sipush 2400, 3) := by decide +kernel
theorem dX10_init_8 : decode cX10_init 8 = .ok (.newarray .byte, 2) := by decide +kernel
theorem dX10_init_10 : decode cX10_init 10 = .ok (.putfield 7, 3) := by decide +kernel
theorem dX10_init_13 : decode cX10_init 13 = .ok (.aload_n 0, 1) := by decide +kernel
theorem dX10_init_14 : decode cX10_init 14 = .ok (.iconst 4, 1) := by decide +kernel
theorem dX10_init_15 : decode cX10_init 15 = .ok (.newarray .int, 2) := by decide +kernel
theorem dX10_init_17 : decode cX10_init 17 = .ok (.putfield 13, 3) := by decide +kernel
theorem dX10_init_20 : decode cX10_init 20 = .ok (.aload_n 0, 1) := by decide +kernel
theorem dX10_init_21 : decode cX10_init 21 = .ok (.iconst 4, 1) := by decide +kernel
theorem dX10_init_22 : decode cX10_init 22 = .ok (.newarray .int, 2) := by decide +kernel
theorem dX10_init_24 : decode cX10_init 24 = .ok (.putfield 17, 3) := by decide +kernel
theorem dX10_init_27 : decode cX10_init 27 = .ok (.aload_n 0, 1) := by decide +kernel
theorem dX10_init_28 : decode cX10_init 28 = .ok (.iconst 4, 1) := by decide +kernel
theorem dX10_init_29 : decode cX10_init 29 = .ok (.newarray .int, 2) := by decide +kernel
theorem dX10_init_31 : decode cX10_init 31 = .ok (.putfield 20, 3) := by decide +kernel
theorem dX10_init_34 : decode cX10_init 34 = .ok (.aload_n 0, 1) := by decide +kernel
theorem dX10_init_35 : decode cX10_init 35 = .ok (.bipush 16, 2) := by decide +kernel
theorem dX10_init_37 : decode cX10_init 37 = .ok (.newarray .int, 2) := by decide +kernel
theorem dX10_init_39 : decode cX10_init 39 = .ok (.putfield 23, 3) := by decide +kernel
theorem dX10_init_42 : decode cX10_init 42 = .ok (.aload_n 0, 1) := by decide +kernel
theorem dX10_init_43 : decode cX10_init 43 = .ok (.sipush 184, 3) := by decide +kernel
theorem dX10_init_46 : decode cX10_init 46 = .ok (.newarray .int, 2) := by decide +kernel
theorem dX10_init_48 : decode cX10_init 48 = .ok (.putfield 26, 3) := by decide +kernel
theorem dX10_init_51 : decode cX10_init 51 = .ok (.aload_n 0, 1) := by decide +kernel
theorem dX10_init_52 : decode cX10_init 52 = .ok (.sipush 288, 3) := by decide +kernel
theorem dX10_init_55 : decode cX10_init 55 = .ok (.newarray .int, 2) := by decide +kernel
theorem dX10_init_57 : decode cX10_init 57 = .ok (.putfield 29, 3) := by decide +kernel
theorem dX10_init_60 : decode cX10_init 60 = .ok (.aload_n 0, 1) := by decide +kernel
theorem dX10_init_61 : decode cX10_init 61 = .ok (.sipush 488, 3) := by decide +kernel
theorem dX10_init_64 : decode cX10_init 64 = .ok (.newarray .int, 2) := by decide +kernel
theorem dX10_init_66 : decode cX10_init 66 = .ok (.putfield 32, 3) := by decide +kernel
theorem dX10_init_69 : decode cX10_init 69 = .ok (.aload_n 0, 1) := by decide +kernel
theorem dX10_init_70 : decode cX10_init 70 = .ok (.sipush 136, 3) := by decide +kernel
theorem dX10_init_73 : decode cX10_init 73 = .ok (.newarray .int, 2) := by decide +kernel
theorem dX10_init_75 : decode cX10_init 75 = .ok (.putfield 35, 3) := by decide +kernel
theorem dX10_init_78 : decode cX10_init 78 = .ok (.aload_n 0, 1) := by decide +kernel
theorem dX10_init_79 : decode cX10_init 79 = .ok (.bipush 61, 2) := by decide +kernel
theorem dX10_init_81 : decode cX10_init 81 = .ok (.newarray .int, 2) := by decide +kernel
theorem dX10_init_83 : decode cX10_init 83 = .ok (.putfield 38, 3) := by decide +kernel
theorem dX10_init_86 : decode cX10_init 86 = .ok (.aload_n 0, 1) := by decide +kernel
theorem dX10_init_87 : decode cX10_init 87 = .ok (.bipush 23, 2) := by decide +kernel
theorem dX10_init_89 : decode cX10_init 89 = .ok (.newarray .int, 2) := by decide +kernel
theorem dX10_init_91 : decode cX10_init 91 = .ok (.putfield 41, 3) := by decide +kernel
theorem dX10_init_94 : decode cX10_init 94 = .ok (.aload_n 0, 1) := by decide +kernel
theorem dX10_init_95 : decode cX10_init 95 = .ok (.bipush 36, 2) := by decide +kernel
theorem dX10_init_97 : decode cX10_init 97 = .ok (.newarray .int, 2) := by decide +kernel
theorem dX10_init_99 : decode cX10_init 99 = .ok (.putfield 44, 3) := by decide +kernel
theorem dX10_init_102 : decode cX10_init 102 = .ok (.aload_n 0, 1) := by decide +kernel
theorem dX10_init_103 : decode cX10_init 103 = .ok (.iconst 2, 1) := by decide +kernel
theorem dX10_init_104 : decode cX10_init 104 = .ok (.newarray .int, 2) := by decide +kernel
theorem dX10_init_106 : decode cX10_init 106 = .ok (.putfield 47, 3) := by decide +kernel
theorem dX10_init_109 : decode cX10_init 109 = .ok (.aload_n 0, 1) := by decide +kernel
theorem dX10_init_110 : decode cX10_init 110 = .ok (.iconst 2, 1) := by decide +kernel
theorem dX10_init_111 : decode cX10_init 111 = .ok (.newarray .int, 2) := by decide +kernel
theorem dX10_init_113 : decode cX10_init 113 = .ok (.putfield 50, 3) := by decide +kernel
theorem dX10_init_116 : decode cX10_init 116 = .ok (.aload_n 0, 1) := by decide +kernel
theorem dX10_init_117 : decode cX10_init 117 = .ok (.iconst 2, 1) := by decide +kernel
theorem dX10_init_118 : decode cX10_init 118 = .ok (.newarray .int, 2) := by decide +kernel
theorem dX10_init_120 : decode cX10_init 120 = .ok (.putfield 53, 3) := by decide +kernel
theorem dX10_init_123 : decode cX10_init 123 = .ok (.aload_n 0, 1) := by decide +kernel
theorem dX10_init_124 : decode cX10_init 124 = .ok (.sipush 401, 3) := by decide +kernel
theorem dX10_init_127 : decode cX10_init 127 = .ok (.newarray .int, 2) := by decide +kernel
theorem dX10_init_129 : decode cX10_init 129 = .ok (.putfield 56, 3) := by decide +kernel
theorem dX10_init_132 : decode cX10_init 132 = .ok (.aload_n 0, 1) := by decide +kernel
theorem dX10_init_133 : decode cX10_init 133 = .ok (.sipush 401, 3) := by decide +kernel
theorem dX10_init_136 : decode cX10_init 136 = .ok (.newarray .int, 2) := by decide +kernel
theorem dX10_init_138 : decode cX10_init 138 = .ok (.putfield 59, 3) := by decide +kernel
theorem dX10_init_141 : decode cX10_init 141 = .ok (.aload_n 0, 1) := by decide +kernel
theorem dX10_init_142 : decode cX10_init 142 = .ok (.sipush 401, 3) := by decide +kernel
theorem dX10_init_145 : decode cX10_init 145 = .ok (.newarray .int, 2) := by decide +kernel
theorem dX10_init_147 : decode cX10_init 147 = .ok (.putfield 62, 3) := by decide +kernel
theorem dX10_init_150 : decode cX10_init 150 = .ok (.aload_n 0, 1) := by decide +kernel
theorem dX10_init_151 : decode cX10_init 151 = .ok (.sipush 401, 3) := by decide +kernel
theorem dX10_init_154 : decode cX10_init 154 = .ok (.newarray .int, 2) := by decide +kernel
theorem dX10_init_156 : decode cX10_init 156 = .ok (.putfield 65, 3) := by decide +kernel
theorem dX10_init_159 : decode cX10_init 159 = .ok (.aload_n 0, 1) := by decide +kernel
theorem dX10_init_160 : decode cX10_init 160 = .ok (.sipush 401, 3) := by decide +kernel
theorem dX10_init_163 : decode cX10_init 163 = .ok (.newarray .int, 2) := by decide +kernel
theorem dX10_init_165 : decode cX10_init 165 = .ok (.putfield 68, 3) := by decide +kernel
theorem dX10_init_168 : decode cX10_init 168 = .ok (.aload_n 0, 1) := by decide +kernel
theorem dX10_init_169 : decode cX10_init 169 = .ok (.iconst 4, 1) := by decide +kernel
theorem dX10_init_170 : decode cX10_init 170 = .ok (.newarray .int, 2) := by decide +kernel
theorem dX10_init_172 : decode cX10_init 172 = .ok (.putfield 71, 3) := by decide +kernel
theorem dX10_init_175 : decode cX10_init 175 = .ok (.aload_n 0, 1) := by decide +kernel
theorem dX10_init_176 : decode cX10_init 176 = .ok (.iconst 4, 1) := by decide +kernel
theorem dX10_init_177 : decode cX10_init 177 = .ok (.newarray .int, 2) := by decide +kernel
theorem dX10_init_179 : decode cX10_init 179 = .ok (.putfield 74, 3) := by decide +kernel
theorem dX10_init_182 : decode cX10_init 182 = .ok (.aload_n 0, 1) := by decide +kernel
theorem dX10_init_183 : decode cX10_init 183 = .ok (.iconst 3, 1) := by decide +kernel
theorem dX10_init_184 : decode cX10_init 184 = .ok (.newarray .boolean, 2) := by decide +kernel
theorem dX10_init_186 : decode cX10_init 186 = .ok (.putfield 77, 3) := by decide +kernel
theorem dX10_init_189 : decode cX10_init 189 = .ok (.aload_n 0, 1) := by decide +kernel
theorem dX10_init_190 : decode cX10_init 190 = .ok (.getfield 20, 3) := by decide +kernel
theorem dX10_init_193 : decode cX10_init 193 = .ok (.iconst 0, 1) := by decide +kernel
theorem dX10_init_194 : decode cX10_init 194 = .ok (.iconst (-1), 1) := by decide +kernel
theorem dX10_init_195 : decode cX10_init 195 = .ok (.iastore, 1) := by decide +kernel
theorem dX10_init_196 : decode cX10_init 196 = .ok (.return_, 1) := by decide +kernel
theorem dX10_in_0 : decode cX10_in 0 = .ok (.iload_n 0, 1) := by decide +kernel
theorem dX10_in_1 : decode cX10_in 1 = .ok (.iload_n 1, 1) := by decide +kernel
theorem dX10_in_2 : decode cX10_in 2 = .ok (.if_icmp .lt 12, 3) := by decide +kernel
theorem dX10_in_5 : decode cX10_in 5 = .ok (.iload_n 0, 1) := by decide +kernel
theorem dX10_in_6 : decode cX10_in 6 = .ok (.iload_n 2, 1) := by decide +kernel
theorem dX10_in_7 : decode cX10_in 7 = .ok (.if_icmp .gt 7, 3) := by decide +kernel
theorem dX10_in_10 : decode cX10_in 10 = .ok (.iconst 1, 1) := by decide +kernel
theorem dX10_in_11 : decode cX10_in 11 = .ok (.goto 4, 3) := by decide +kernel
theorem dX10_in_14 : decode cX10_in 14 = .ok (.iconst 0, 1) := by decide +kernel
theorem dX10_in_15 : decode cX10_in 15 = .ok (.ireturn, 1) := by decide +kernel
theorem dX10_has_0 : decode cX10_has 0 = .ok (.iload_n 0, 1) := by decide +kernel
theorem dX10_has_1 : decode cX10_has 1 = .ok (.iload_n 1, 1) := by decide +kernel
theorem dX10_has_2 : decode cX10_has 2 = .ok (.ishr, 1) := by decide +kernel
theorem dX10_has_3 : decode cX10_has 3 = .ok (.iconst 1, 1) := by decide +kernel
theorem dX10_has_4 : decode cX10_has 4 = .ok (.iand, 1) := by decide +kernel
theorem dX10_has_5 : decode cX10_has 5 = .ok (.iconst 1, 1) := by decide +kernel
theorem dX10_has_6 : decode cX10_has 6 = .ok (.if_icmp .ne 7, 3) := by decide +kernel
theorem dX10_has_9 : decode cX10_has 9 = .ok (.iconst 1, 1) := by decide +kernel
theorem dX10_has_10 : decode cX10_has 10 = .ok (.goto 4, 3) := by decide +kernel
theorem dX10_has_13 : decode cX10_has 13 = .ok (.iconst 0, 1) := by decide +kernel
theorem dX10_has_14 : decode cX10_has 14 = .ok (.ireturn, 1) := by decide +kernel
theorem dX10_plain_0 : decode cX10_plain 0 = .ok (.iload_n 0, 1) := by decide +kernel
theorem dX10_plain_1 : decode cX10_plain 1 = .ok (.ifCond .ge 8, 3) := by decide +kernel
theorem dX10_plain_4 : decode cX10_plain 4 = .ok (.iload_n 0, 1) := by decide +kernel
theorem dX10_plain_5 : decode cX10_plain 5 = .ok (.ineg, 1) := by decide +kernel
theorem dX10_plain_6 : decode cX10_plain 6 = .ok (.goto 4, 3) := by decide +kernel
theorem dX10_plain_9 : decode cX10_plain 9 = .ok (.iload_n 0, 1) := by decide +kernel
theorem dX10_plain_10 : decode cX10_plain 10 = .ok (.ireturn, 1) := by decide +kernel
theorem dX10_within_0 : decode cX10_within 0 = .ok (.iload_n 0, 1) := by decide +kernel
theorem dX10_within_1 : decode cX10_within 1 = .ok (.iload_n 1, 1) := by decide +kernel
theorem dX10_within_2 : decode cX10_within 2 = .ok (.if_icmp .le 7, 3) := by decide +kernel
theorem dX10_within_5 : decode cX10_within 5 = .ok (.iload_n 1, 1) := by decide +kernel
theorem dX10_within_6 : decode cX10_within 6 = .ok (.goto 15, 3) := by decide +kernel
theorem dX10_within_9 : decode cX10_within 9 = .ok (.iload_n 0, 1) := by decide +kernel
theorem dX10_within_10 : decode cX10_within 10 = .ok (.iload_n 1, 1) := by decide +kernel
theorem dX10_within_11 : decode cX10_within 11 = .ok (.ineg, 1) := by decide +kernel
theorem dX10_within_12 : decode cX10_within 12 = .ok (.if_icmp .ge 8, 3) := by decide +kernel
theorem dX10_within_15 : decode cX10_within 15 = .ok (.iload_n 1, 1) := by decide +kernel
theorem dX10_within_16 : decode cX10_within 16 = .ok (.ineg, 1) := by decide +kernel
theorem dX10_within_17 : decode cX10_within 17 = .ok (.goto 4, 3) := by decide +kernel
theorem dX10_within_20 : decode cX10_within 20 = .ok (.iload_n 0, 1) := by decide +kernel
theorem dX10_within_21 : decode cX10_within 21 = .ok (.ireturn, 1) := by decide +kernel
theorem dX10_copyRow_0 : decode cX10_copyRow 0 = .ok (.iconst 0, 1) := by decide +kernel
theorem dX10_copyRow_1 : decode cX10_copyRow 1 = .ok (.istore 4, 2) := by decide +kernel
theorem dX10_copyRow_3 : decode cX10_copyRow 3 = .ok (.iload 4, 2) := by decide +kernel
theorem dX10_copyRow_5 : decode cX10_copyRow 5 = .ok (.iload_n 1, 1) := by decide +kernel
theorem dX10_copyRow_6 : decode cX10_copyRow 6 = .ok (.if_icmp .ge 25, 3) := by decide +kernel
theorem dX10_copyRow_9 : decode cX10_copyRow 9 = .ok (.aload_n 0, 1) := by decide +kernel
theorem dX10_copyRow_10 : decode cX10_copyRow 10 = .ok (.iload_n 1, 1) := by decide +kernel
theorem dX10_copyRow_11 : decode cX10_copyRow 11 = .ok (.iload_n 3, 1) := by decide +kernel
theorem dX10_copyRow_12 : decode cX10_copyRow 12 = .ok (.imul, 1) := by decide +kernel
theorem dX10_copyRow_13 : decode cX10_copyRow 13 = .ok (.iload 4, 2) := by decide +kernel
theorem dX10_copyRow_15 : decode cX10_copyRow 15 = .ok (.iadd, 1) := by decide +kernel
theorem dX10_copyRow_16 : decode cX10_copyRow 16 = .ok (.aload_n 0, 1) := by decide +kernel
theorem dX10_copyRow_17 : decode cX10_copyRow 17 = .ok (.iload_n 1, 1) := by decide +kernel
theorem dX10_copyRow_18 : decode cX10_copyRow 18 = .ok (.iload_n 2, 1) := by decide +kernel
theorem dX10_copyRow_19 : decode cX10_copyRow 19 = .ok (.imul, 1) := by decide +kernel
theorem dX10_copyRow_20 : decode cX10_copyRow 20 = .ok (.iload 4, 2) := by decide +kernel
theorem dX10_copyRow_22 : decode cX10_copyRow 22 = .ok (.iadd, 1) := by decide +kernel
theorem dX10_copyRow_23 : decode cX10_copyRow 23 = .ok (.iaload, 1) := by decide +kernel
theorem dX10_copyRow_24 : decode cX10_copyRow 24 = .ok (.iastore, 1) := by decide +kernel
theorem dX10_copyRow_25 : decode cX10_copyRow 25 = .ok (.iinc 4 1, 3) := by decide +kernel
theorem dX10_copyRow_28 : decode cX10_copyRow 28 = .ok (.goto (-25), 3) := by decide +kernel
theorem dX10_copyRow_31 : decode cX10_copyRow 31 = .ok (.return_, 1) := by decide +kernel
set_option maxRecDepth 20000 in
theorem dX10_copyAll_0 : decode cX10_copyAll 0 = .ok (.iconst 0, 1) := by decide +kernel
theorem dX10_copyAll_1 : decode cX10_copyAll 1 = .ok (.istore_n 3, 1) := by decide +kernel
theorem dX10_copyAll_2 : decode cX10_copyAll 2 = .ok (.iload_n 3, 1) := by decide +kernel
theorem dX10_copyAll_3 : decode cX10_copyAll 3 = .ok (.sipush 600, 3) := by decide +kernel
theorem dX10_copyAll_6 : decode cX10_copyAll 6 = .ok (.if_icmp .ge 33, 3) := by decide +kernel
theorem dX10_copyAll_9 : decode cX10_copyAll 9 = .ok (.aload_n 0, 1) := by decide +kernel
theorem dX10_copyAll_10 : decode cX10_copyAll 10 = .ok (.getfield 7, 3) := by decide +kernel
theorem dX10_copyAll_13 : decode cX10_copyAll 13 = .ok (.sipush 600, 3) := by decide +kernel
theorem dX10_copyAll_16 : decode cX10_copyAll 16 = .ok (.iload_n 2, 1) := by decide +kernel
theorem dX10_copyAll_17 : decode cX10_copyAll 17 = .ok (.imul, 1) := by decide +kernel
theorem dX10_copyAll_18 : decode cX10_copyAll 18 = .ok (.iload_n 3, 1) := by decide +kernel
theorem dX10_copyAll_19 : decode cX10_copyAll 19 = .ok (.iadd, 1) := by decide +kernel
theorem dX10_copyAll_20 : decode cX10_copyAll 20 = .ok (.aload_n 0, 1) := by decide +kernel
theorem dX10_copyAll_21 : decode cX10_copyAll 21 = .ok (.getfield 7, 3) := by decide +kernel
theorem dX10_copyAll_24 : decode cX10_copyAll 24 = .ok (.sipush 600, 3) := by decide +kernel
theorem dX10_copyAll_27 : decode cX10_copyAll 27 = .ok (.iload_n 1, 1) := by decide +kernel
theorem dX10_copyAll_28 : decode cX10_copyAll 28 = .ok (.imul, 1) := by decide +kernel
theorem dX10_copyAll_29 : decode cX10_copyAll 29 = .ok (.iload_n 3, 1) := by decide +kernel
theorem dX10_copyAll_30 : decode cX10_copyAll 30 = .ok (.iadd, 1) := by decide +kernel
theorem dX10_copyAll_31 : decode cX10_copyAll 31 = .ok (.baload, 1) := by decide +kernel
theorem dX10_copyAll_32 : decode cX10_copyAll 32 = .ok (.bastore, 1) := by decide +kernel
theorem dX10_copyAll_33 : decode cX10_copyAll 33 = .ok (.iinc 3 1, 3) := by decide +kernel
theorem dX10_copyAll_36 : decode cX10_copyAll 36 = .ok (.goto (-34), 3) := by decide +kernel
theorem dX10_copyAll_39 : decode cX10_copyAll 39 = .ok (.aload_n 0, 1) := by decide +kernel
theorem dX10_copyAll_40 : decode cX10_copyAll 40 = .ok (.getfield 13, 3) := by decide +kernel
theorem dX10_copyAll_43 : decode cX10_copyAll 43 = .ok (.iconst 1, 1) := by decide +kernel
theorem dX10_copyAll_44 : decode cX10_copyAll 44 = .ok (.iload_n 1, 1) := by decide +kernel
theorem dX10_copyAll_45 : decode cX10_copyAll 45 = .ok (.iload_n 2, 1) := by decide +kernel
theorem dX10_copyAll_46 : decode cX10_copyAll 46 = .ok (.invokestatic 85, 3) := by decide +kernel
theorem dX10_copyAll_49 : decode cX10_copyAll 49 = .ok (.aload_n 0, 1) := by decide +kernel
theorem dX10_copyAll_50 : decode cX10_copyAll 50 = .ok (.getfield 17, 3) := by decide +kernel
theorem dX10_copyAll_53 : decode cX10_copyAll 53 = .ok (.iconst 1, 1) := by decide +kernel
theorem dX10_copyAll_54 : decode cX10_copyAll 54 = .ok (.iload_n 1, 1) := by decide +kernel
theorem dX10_copyAll_55 : decode cX10_copyAll 55 = .ok (.iload_n 2, 1) := by decide +kernel
theorem dX10_copyAll_56 : decode cX10_copyAll 56 = .ok (.invokestatic 85, 3) := by decide +kernel
theorem dX10_copyAll_59 : decode cX10_copyAll 59 = .ok (.aload_n 0, 1) := by decide +kernel
theorem dX10_copyAll_60 : decode cX10_copyAll 60 = .ok (.getfield 20, 3) := by decide +kernel
theorem dX10_copyAll_63 : decode cX10_copyAll 63 = .ok (.iconst 1, 1) := by decide +kernel
theorem dX10_copyAll_64 : decode cX10_copyAll 64 = .ok (.iload_n 1, 1) := by decide +kernel
theorem dX10_copyAll_65 : decode cX10_copyAll 65 = .ok (.iload_n 2, 1) := by decide +kernel
theorem dX10_copyAll_66 : decode cX10_copyAll 66 = .ok (.invokestatic 85, 3) := by decide +kernel
theorem dX10_copyAll_69 : decode cX10_copyAll 69 = .ok (.aload_n 0, 1) := by decide +kernel
theorem dX10_copyAll_70 : decode cX10_copyAll 70 = .ok (.getfield 23, 3) := by decide +kernel
theorem dX10_copyAll_73 : decode cX10_copyAll 73 = .ok (.iconst 4, 1) := by decide +kernel
theorem dX10_copyAll_74 : decode cX10_copyAll 74 = .ok (.iload_n 1, 1) := by decide +kernel
theorem dX10_copyAll_75 : decode cX10_copyAll 75 = .ok (.iload_n 2, 1) := by decide +kernel
theorem dX10_copyAll_76 : decode cX10_copyAll 76 = .ok (.invokestatic 85, 3) := by decide +kernel
theorem dX10_copyAll_79 : decode cX10_copyAll 79 = .ok (.aload_n 0, 1) := by decide +kernel
theorem dX10_copyAll_80 : decode cX10_copyAll 80 = .ok (.getfield 26, 3) := by decide +kernel
theorem dX10_copyAll_83 : decode cX10_copyAll 83 = .ok (.bipush 46, 2) := by decide +kernel
theorem dX10_copyAll_85 : decode cX10_copyAll 85 = .ok (.iload_n 1, 1) := by decide +kernel
theorem dX10_copyAll_86 : decode cX10_copyAll 86 = .ok (.iload_n 2, 1) := by decide +kernel
theorem dX10_copyAll_87 : decode cX10_copyAll 87 = .ok (.invokestatic 85, 3) := by decide +kernel
theorem dX10_copyAll_90 : decode cX10_copyAll 90 = .ok (.aload_n 0, 1) := by decide +kernel
theorem dX10_copyAll_91 : decode cX10_copyAll 91 = .ok (.getfield 29, 3) := by decide +kernel
theorem dX10_copyAll_94 : decode cX10_copyAll 94 = .ok (.bipush 72, 2) := by decide +kernel
theorem dX10_copyAll_96 : decode cX10_copyAll 96 = .ok (.iload_n 1, 1) := by decide +kernel
theorem dX10_copyAll_97 : decode cX10_copyAll 97 = .ok (.iload_n 2, 1) := by decide +kernel
theorem dX10_copyAll_98 : decode cX10_copyAll 98 = .ok (.invokestatic 85, 3) := by decide +kernel
theorem dX10_copyAll_101 : decode cX10_copyAll 101 = .ok (.aload_n 0, 1) := by decide +kernel
theorem dX10_copyAll_102 : decode cX10_copyAll 102 = .ok (.getfield 32, 3) := by decide +kernel
theorem dX10_copyAll_105 : decode cX10_copyAll 105 = .ok (.bipush 122, 2) := by decide +kernel
theorem dX10_copyAll_107 : decode cX10_copyAll 107 = .ok (.iload_n 1, 1) := by decide +kernel
theorem dX10_copyAll_108 : decode cX10_copyAll 108 = .ok (.iload_n 2, 1) := by decide +kernel
theorem dX10_copyAll_109 : decode cX10_copyAll 109 = .ok (.invokestatic 85, 3) := by decide +kernel
theorem dX10_copyAll_112 : decode cX10_copyAll 112 = .ok (.aload_n 0, 1) := by decide +kernel
theorem dX10_copyAll_113 : decode cX10_copyAll 113 = .ok (.getfield 35, 3) := by decide +kernel
theorem dX10_copyAll_116 : decode cX10_copyAll 116 = .ok (.bipush 34, 2) := by decide +kernel
theorem dX10_copyAll_118 : decode cX10_copyAll 118 = .ok (.iload_n 1, 1) := by decide +kernel
theorem dX10_copyAll_119 : decode cX10_copyAll 119 = .ok (.iload_n 2, 1) := by decide +kernel
theorem dX10_copyAll_120 : decode cX10_copyAll 120 = .ok (.invokestatic 85, 3) := by decide +kernel
theorem dX10_copyAll_123 : decode cX10_copyAll 123 = .ok (.return_, 1) := by decide +kernel
theorem dX10_mostOf_0 : decode cX10_mostOf 0 = .ok (.iload_n 0, 1) := by decide +kernel
theorem dX10_mostOf_1 : decode cX10_mostOf 1 = .ok (.iconst 1, 1) := by decide +kernel
theorem dX10_mostOf_2 : decode cX10_mostOf 2 = .ok (.if_icmp .ne 7, 3) := by decide +kernel
theorem dX10_mostOf_5 : decode cX10_mostOf 5 = .ok (.iconst 4, 1) := by decide +kernel
theorem dX10_mostOf_6 : decode cX10_mostOf 6 = .ok (.goto 4, 3) := by decide +kernel
theorem dX10_mostOf_9 : decode cX10_mostOf 9 = .ok (.iconst 2, 1) := by decide +kernel
theorem dX10_mostOf_10 : decode cX10_mostOf 10 = .ok (.ireturn, 1) := by decide +kernel
set_option maxRecDepth 20000 in
theorem dX10_is_0 : decode cX10_is 0 = .ok (.iload_n 2, 1) := by decide +kernel
theorem dX10_is_1 : decode cX10_is 1 = .ok (.iconst 0, 1) := by decide +kernel
theorem dX10_is_2 : decode cX10_is 2 = .ok (.aload_n 0, 1) := by decide +kernel
theorem dX10_is_3 : decode cX10_is 3 = .ok (.getfield 23, 3) := by decide +kernel
theorem dX10_is_6 : decode cX10_is 6 = .ok (.iload_n 1, 1) := by decide +kernel
theorem dX10_is_7 : decode cX10_is 7 = .ok (.iaload, 1) := by decide +kernel
theorem dX10_is_8 : decode cX10_is 8 = .ok (.iconst 1, 1) := by decide +kernel
theorem dX10_is_9 : decode cX10_is 9 = .ok (.isub, 1) := by decide +kernel
theorem dX10_is_10 : decode cX10_is 10 = .ok (.invokestatic 89, 3) := by decide +kernel
theorem dX10_is_13 : decode cX10_is 13 = .ok (.ireturn, 1) := by decide +kernel
set_option maxRecDepth 20000 in
theorem dX10_feed_0 : decode cX10_feed 0 = .ok (.aload_n 0, 1) := by decide +kernel
theorem dX10_feed_1 : decode cX10_feed 1 = .ok (.iconst 0, 1) := by decide +kernel
theorem dX10_feed_2 : decode cX10_feed 2 = .ok (.putfield 81, 3) := by decide +kernel
theorem dX10_feed_5 : decode cX10_feed 5 = .ok (.aload_n 0, 1) := by decide +kernel
theorem dX10_feed_6 : decode cX10_feed 6 = .ok (.getfield 13, 3) := by decide +kernel
theorem dX10_feed_9 : decode cX10_feed 9 = .ok (.iconst 0, 1) := by decide +kernel
theorem dX10_feed_10 : decode cX10_feed 10 = .ok (.iaload, 1) := by decide +kernel
theorem dX10_feed_11 : decode cX10_feed 11 = .ok (.bipush 20, 2) := by decide +kernel
theorem dX10_feed_13 : decode cX10_feed 13 = .ok (.iadd, 1) := by decide +kernel
theorem dX10_feed_14 : decode cX10_feed 14 = .ok (.sipush 600, 3) := by decide +kernel
theorem dX10_feed_17 : decode cX10_feed 17 = .ok (.if_icmp .le 5, 3) := by decide +kernel
theorem dX10_feed_20 : decode cX10_feed 20 = .ok (.iconst (-1), 1) := by decide +kernel
theorem dX10_feed_21 : decode cX10_feed 21 = .ok (.ireturn, 1) := by decide +kernel
theorem dX10_feed_22 : decode cX10_feed 22 = .ok (.aload_n 0, 1) := by decide +kernel
theorem dX10_feed_23 : decode cX10_feed 23 = .ok (.iload_n 1, 1) := by decide +kernel
theorem dX10_feed_24 : decode cX10_feed 24 = .ok (.invokevirtual 93, 3) := by decide +kernel
theorem dX10_feed_27 : decode cX10_feed 27 = .ok (.aload_n 0, 1) := by decide +kernel
theorem dX10_feed_28 : decode cX10_feed 28 = .ok (.iload_n 2, 1) := by decide +kernel
theorem dX10_feed_29 : decode cX10_feed 29 = .ok (.invokevirtual 93, 3) := by decide +kernel
theorem dX10_feed_32 : decode cX10_feed 32 = .ok (.aload_n 0, 1) := by decide +kernel
theorem dX10_feed_33 : decode cX10_feed 33 = .ok (.iload_n 3, 1) := by decide +kernel
theorem dX10_feed_34 : decode cX10_feed 34 = .ok (.invokevirtual 93, 3) := by decide +kernel
theorem dX10_feed_37 : decode cX10_feed 37 = .ok (.aload_n 0, 1) := by decide +kernel
theorem dX10_feed_38 : decode cX10_feed 38 = .ok (.iload 4, 2) := by decide +kernel
theorem dX10_feed_40 : decode cX10_feed 40 = .ok (.invokevirtual 93, 3) := by decide +kernel
theorem dX10_feed_43 : decode cX10_feed 43 = .ok (.aload_n 0, 1) := by decide +kernel
theorem dX10_feed_44 : decode cX10_feed 44 = .ok (.iload 5, 2) := by decide +kernel
theorem dX10_feed_46 : decode cX10_feed 46 = .ok (.invokevirtual 93, 3) := by decide +kernel
theorem dX10_feed_49 : decode cX10_feed 49 = .ok (.aload_n 0, 1) := by decide +kernel
theorem dX10_feed_50 : decode cX10_feed 50 = .ok (.getfield 13, 3) := by decide +kernel
theorem dX10_feed_53 : decode cX10_feed 53 = .ok (.iconst 0, 1) := by decide +kernel
theorem dX10_feed_54 : decode cX10_feed 54 = .ok (.iaload, 1) := by decide +kernel
theorem dX10_feed_55 : decode cX10_feed 55 = .ok (.ireturn, 1) := by decide +kernel
theorem dX10_four_0 : decode cX10_four 0 = .ok (.bipush 24, 2) := by decide +kernel
theorem dX10_four_2 : decode cX10_four 2 = .ok (.istore_n 2, 1) := by decide +kernel
theorem dX10_four_3 : decode cX10_four 3 = .ok (.iload_n 2, 1) := by decide +kernel
theorem dX10_four_4 : decode cX10_four 4 = .ok (.ifCond .lt 34, 3) := by decide +kernel
theorem dX10_four_7 : decode cX10_four 7 = .ok (.aload_n 0, 1) := by decide +kernel
theorem dX10_four_8 : decode cX10_four 8 = .ok (.getfield 7, 3) := by decide +kernel
theorem dX10_four_11 : decode cX10_four 11 = .ok (.aload_n 0, 1) := by decide +kernel
theorem dX10_four_12 : decode cX10_four 12 = .ok (.getfield 13, 3) := by decide +kernel
theorem dX10_four_15 : decode cX10_four 15 = .ok (.iconst 0, 1) := by decide +kernel
theorem dX10_four_16 : decode cX10_four 16 = .ok (.iaload, 1) := by decide +kernel
theorem dX10_four_17 : decode cX10_four 17 = .ok (.iload_n 1, 1) := by decide +kernel
theorem dX10_four_18 : decode cX10_four 18 = .ok (.iload_n 2, 1) := by decide +kernel
theorem dX10_four_19 : decode cX10_four 19 = .ok (.ishr, 1) := by decide +kernel
theorem dX10_four_20 : decode cX10_four 20 = .ok (.i2b, 1) := by decide +kernel
theorem dX10_four_21 : decode cX10_four 21 = .ok (.bastore, 1) := by decide +kernel
theorem dX10_four_22 : decode cX10_four 22 = .ok (.aload_n 0, 1) := by decide +kernel
theorem dX10_four_23 : decode cX10_four 23 = .ok (.getfield 13, 3) := by decide +kernel
theorem dX10_four_26 : decode cX10_four 26 = .ok (.iconst 0, 1) := by decide +kernel
theorem dX10_four_27 : decode cX10_four 27 = .ok (.dup2, 1) := by decide +kernel
theorem dX10_four_28 : decode cX10_four 28 = .ok (.iaload, 1) := by decide +kernel
theorem dX10_four_29 : decode cX10_four 29 = .ok (.iconst 1, 1) := by decide +kernel
theorem dX10_four_30 : decode cX10_four 30 = .ok (.iadd, 1) := by decide +kernel
theorem dX10_four_31 : decode cX10_four 31 = .ok (.iastore, 1) := by decide +kernel
theorem dX10_four_32 : decode cX10_four 32 = .ok (.iinc 2 (-8), 3) := by decide +kernel
theorem dX10_four_35 : decode cX10_four 35 = .ok (.goto (-32), 3) := by decide +kernel
theorem dX10_four_38 : decode cX10_four 38 = .ok (.return_, 1) := by decide +kernel
set_option maxRecDepth 20000 in
theorem dX10_end_0 : decode cX10_end 0 = .ok (.aload_n 0, 1) := by decide +kernel
theorem dX10_end_1 : decode cX10_end 1 = .ok (.iconst 0, 1) := by decide +kernel
theorem dX10_end_2 : decode cX10_end 2 = .ok (.putfield 81, 3) := by decide +kernel
theorem dX10_end_5 : decode cX10_end 5 = .ok (.iload_n 1, 1) := by decide +kernel
theorem dX10_end_6 : decode cX10_end 6 = .ok (.iconst 0, 1) := by decide +kernel
theorem dX10_end_7 : decode cX10_end 7 = .ok (.aload_n 0, 1) := by decide +kernel
theorem dX10_end_8 : decode cX10_end 8 = .ok (.getfield 13, 3) := by decide +kernel
theorem dX10_end_11 : decode cX10_end 11 = .ok (.iconst 0, 1) := by decide +kernel
theorem dX10_end_12 : decode cX10_end 12 = .ok (.iaload, 1) := by decide +kernel
theorem dX10_end_13 : decode cX10_end 13 = .ok (.invokestatic 89, 3) := by decide +kernel
theorem dX10_end_16 : decode cX10_end 16 = .ok (.ifCond .ne 5, 3) := by decide +kernel
theorem dX10_end_19 : decode cX10_end 19 = .ok (.iconst (-1), 1) := by decide +kernel
theorem dX10_end_20 : decode cX10_end 20 = .ok (.ireturn, 1) := by decide +kernel
theorem dX10_end_21 : decode cX10_end 21 = .ok (.aload_n 0, 1) := by decide +kernel
theorem dX10_end_22 : decode cX10_end 22 = .ok (.getfield 13, 3) := by decide +kernel
theorem dX10_end_25 : decode cX10_end 25 = .ok (.iconst 0, 1) := by decide +kernel
theorem dX10_end_26 : decode cX10_end 26 = .ok (.iload_n 1, 1) := by decide +kernel
theorem dX10_end_27 : decode cX10_end 27 = .ok (.iastore, 1) := by decide +kernel
theorem dX10_end_28 : decode cX10_end 28 = .ok (.iload_n 1, 1) := by decide +kernel
theorem dX10_end_29 : decode cX10_end 29 = .ok (.ireturn, 1) := by decide +kernel
theorem dX10_see_0 : decode cX10_see 0 = .ok (.aload_n 0, 1) := by decide +kernel
theorem dX10_see_1 : decode cX10_see 1 = .ok (.getfield 97, 3) := by decide +kernel
theorem dX10_see_4 : decode cX10_see 4 = .ok (.aload_n 0, 1) := by decide +kernel
theorem dX10_see_5 : decode cX10_see 5 = .ok (.getfield 100, 3) := by decide +kernel
theorem dX10_see_8 : decode cX10_see 8 = .ok (.if_icmp .ge 19, 3) := by decide +kernel
theorem dX10_see_11 : decode cX10_see 11 = .ok (.aload_n 0, 1) := by decide +kernel
theorem dX10_see_12 : decode cX10_see 12 = .ok (.getfield 7, 3) := by decide +kernel
theorem dX10_see_15 : decode cX10_see 15 = .ok (.aload_n 0, 1) := by decide +kernel
theorem dX10_see_16 : decode cX10_see 16 = .ok (.getfield 97, 3) := by decide +kernel
theorem dX10_see_19 : decode cX10_see 19 = .ok (.baload, 1) := by decide +kernel
theorem dX10_see_20 : decode cX10_see 20 = .ok (.sipush 255, 3) := by decide +kernel
theorem dX10_see_23 : decode cX10_see 23 = .ok (.iand, 1) := by decide +kernel
theorem dX10_see_24 : decode cX10_see 24 = .ok (.goto 4, 3) := by decide +kernel
theorem dX10_see_27 : decode cX10_see 27 = .ok (.iconst (-1), 1) := by decide +kernel
theorem dX10_see_28 : decode cX10_see 28 = .ok (.ireturn, 1) := by decide +kernel
set_option maxRecDepth 20000 in
theorem dX10_token_0 : decode cX10_token 0 = .ok (.aload_n 0, 1) := by decide +kernel
theorem dX10_token_1 : decode cX10_token 1 = .ok (.invokevirtual 103, 3) := by decide +kernel
theorem dX10_token_4 : decode cX10_token 4 = .ok (.bipush 10, 2) := by decide +kernel
theorem dX10_token_6 : decode cX10_token 6 = .ok (.if_icmp .eq 12, 3) := by decide +kernel
theorem dX10_token_9 : decode cX10_token 9 = .ok (.aload_n 0, 1) := by decide +kernel
theorem dX10_token_10 : decode cX10_token 10 = .ok (.invokevirtual 103, 3) := by decide +kernel
theorem dX10_token_13 : decode cX10_token 13 = .ok (.bipush 32, 2) := by decide +kernel
theorem dX10_token_15 : decode cX10_token 15 = .ok (.if_icmp .ne 16, 3) := by decide +kernel
theorem dX10_token_18 : decode cX10_token 18 = .ok (.aload_n 0, 1) := by decide +kernel
theorem dX10_token_19 : decode cX10_token 19 = .ok (.dup, 1) := by decide +kernel
theorem dX10_token_20 : decode cX10_token 20 = .ok (.getfield 97, 3) := by decide +kernel
theorem dX10_token_23 : decode cX10_token 23 = .ok (.iconst 1, 1) := by decide +kernel
theorem dX10_token_24 : decode cX10_token 24 = .ok (.iadd, 1) := by decide +kernel
theorem dX10_token_25 : decode cX10_token 25 = .ok (.putfield 97, 3) := by decide +kernel
theorem dX10_token_28 : decode cX10_token 28 = .ok (.goto (-28), 3) := by decide +kernel
theorem dX10_token_31 : decode cX10_token 31 = .ok (.aload_n 0, 1) := by decide +kernel
theorem dX10_token_32 : decode cX10_token 32 = .ok (.aload_n 0, 1) := by decide +kernel
theorem dX10_token_33 : decode cX10_token 33 = .ok (.getfield 97, 3) := by decide +kernel
theorem dX10_token_36 : decode cX10_token 36 = .ok (.putfield 107, 3) := by decide +kernel
theorem dX10_token_39 : decode cX10_token 39 = .ok (.aload_n 0, 1) := by decide +kernel
theorem dX10_token_40 : decode cX10_token 40 = .ok (.invokevirtual 103, 3) := by decide +kernel
theorem dX10_token_43 : decode cX10_token 43 = .ok (.istore_n 1, 1) := by decide +kernel
theorem dX10_token_44 : decode cX10_token 44 = .ok (.aload_n 0, 1) := by decide +kernel
theorem dX10_token_45 : decode cX10_token 45 = .ok (.lconst 0, 1) := by decide +kernel
theorem dX10_token_46 : decode cX10_token 46 = .ok (.putfield 110, 3) := by decide +kernel
theorem dX10_token_49 : decode cX10_token 49 = .ok (.iconst 0, 1) := by decide +kernel
theorem dX10_token_50 : decode cX10_token 50 = .ok (.istore_n 2, 1) := by decide +kernel
theorem dX10_token_51 : decode cX10_token 51 = .ok (.iload_n 1, 1) := by decide +kernel
theorem dX10_token_52 : decode cX10_token 52 = .ok (.ifCond .ge 11, 3) := by decide +kernel
theorem dX10_token_55 : decode cX10_token 55 = .ok (.aload_n 0, 1) := by decide +kernel
theorem dX10_token_56 : decode cX10_token 56 = .ok (.iconst 0, 1) := by decide +kernel
theorem dX10_token_57 : decode cX10_token 57 = .ok (.putfield 114, 3) := by decide +kernel
theorem dX10_token_60 : decode cX10_token 60 = .ok (.goto 216, 3) := by decide +kernel
theorem dX10_token_63 : decode cX10_token 63 = .ok (.iload_n 1, 1) := by decide +kernel
theorem dX10_token_64 : decode cX10_token 64 = .ok (.bipush 97, 2) := by decide +kernel
theorem dX10_token_66 : decode cX10_token 66 = .ok (.bipush 122, 2) := by decide +kernel
theorem dX10_token_68 : decode cX10_token 68 = .ok (.invokestatic 89, 3) := by decide +kernel
theorem dX10_token_71 : decode cX10_token 71 = .ok (.ifCond .eq 76, 3) := by decide +kernel
theorem dX10_token_74 : decode cX10_token 74 = .ok (.aload_n 0, 1) := by decide +kernel
theorem dX10_token_75 : decode cX10_token 75 = .ok (.invokevirtual 103, 3) := by decide +kernel
theorem dX10_token_78 : decode cX10_token 78 = .ok (.bipush 97, 2) := by decide +kernel
theorem dX10_token_80 : decode cX10_token 80 = .ok (.bipush 122, 2) := by decide +kernel
theorem dX10_token_82 : decode cX10_token 82 = .ok (.invokestatic 89, 3) := by decide +kernel
theorem dX10_token_85 : decode cX10_token 85 = .ok (.ifCond .eq 36, 3) := by decide +kernel
theorem dX10_token_88 : decode cX10_token 88 = .ok (.aload_n 0, 1) := by decide +kernel
theorem dX10_token_89 : decode cX10_token 89 = .ok (.aload_n 0, 1) := by decide +kernel
theorem dX10_token_90 : decode cX10_token 90 = .ok (.getfield 110, 3) := by decide +kernel
theorem dX10_token_93 : decode cX10_token 93 = .ok (.bipush 8, 2) := by decide +kernel
theorem dX10_token_95 : decode cX10_token 95 = .ok (.lshl, 1) := by decide +kernel
theorem dX10_token_96 : decode cX10_token 96 = .ok (.aload_n 0, 1) := by decide +kernel
theorem dX10_token_97 : decode cX10_token 97 = .ok (.invokevirtual 103, 3) := by decide +kernel
theorem dX10_token_100 : decode cX10_token 100 = .ok (.i2l, 1) := by decide +kernel
theorem dX10_token_101 : decode cX10_token 101 = .ok (.lor, 1) := by decide +kernel
theorem dX10_token_102 : decode cX10_token 102 = .ok (.putfield 110, 3) := by decide +kernel
theorem dX10_token_105 : decode cX10_token 105 = .ok (.aload_n 0, 1) := by decide +kernel
theorem dX10_token_106 : decode cX10_token 106 = .ok (.dup, 1) := by decide +kernel
theorem dX10_token_107 : decode cX10_token 107 = .ok (.getfield 97, 3) := by decide +kernel
theorem dX10_token_110 : decode cX10_token 110 = .ok (.iconst 1, 1) := by decide +kernel
theorem dX10_token_111 : decode cX10_token 111 = .ok (.iadd, 1) := by decide +kernel
theorem dX10_token_112 : decode cX10_token 112 = .ok (.putfield 97, 3) := by decide +kernel
theorem dX10_token_115 : decode cX10_token 115 = .ok (.iinc 2 1, 3) := by decide +kernel
theorem dX10_token_118 : decode cX10_token 118 = .ok (.goto (-44), 3) := by decide +kernel
theorem dX10_token_121 : decode cX10_token 121 = .ok (.aload_n 0, 1) := by decide +kernel
theorem dX10_token_122 : decode cX10_token 122 = .ok (.iload_n 2, 1) := by decide +kernel
theorem dX10_token_123 : decode cX10_token 123 = .ok (.bipush 8, 2) := by decide +kernel
theorem dX10_token_125 : decode cX10_token 125 = .ok (.if_icmp .le 7, 3) := by decide +kernel
theorem dX10_token_128 : decode cX10_token 128 = .ok (.lconst 0, 1) := by decide +kernel
theorem dX10_token_129 : decode cX10_token 129 = .ok (.goto 7, 3) := by decide +kernel
theorem dX10_token_132 : decode cX10_token 132 = .ok (.aload_n 0, 1) := by decide +kernel
theorem dX10_token_133 : decode cX10_token 133 = .ok (.getfield 110, 3) := by decide +kernel
theorem dX10_token_136 : decode cX10_token 136 = .ok (.putfield 110, 3) := by decide +kernel
theorem dX10_token_139 : decode cX10_token 139 = .ok (.aload_n 0, 1) := by decide +kernel
theorem dX10_token_140 : decode cX10_token 140 = .ok (.iconst 2, 1) := by decide +kernel
theorem dX10_token_141 : decode cX10_token 141 = .ok (.putfield 114, 3) := by decide +kernel
theorem dX10_token_144 : decode cX10_token 144 = .ok (.goto 132, 3) := by decide +kernel
theorem dX10_token_147 : decode cX10_token 147 = .ok (.iload_n 1, 1) := by decide +kernel
theorem dX10_token_148 : decode cX10_token 148 = .ok (.bipush 48, 2) := by decide +kernel
theorem dX10_token_150 : decode cX10_token 150 = .ok (.bipush 57, 2) := by decide +kernel
theorem dX10_token_152 : decode cX10_token 152 = .ok (.invokestatic 89, 3) := by decide +kernel
theorem dX10_token_155 : decode cX10_token 155 = .ok (.ifCond .eq 86, 3) := by decide +kernel
theorem dX10_token_158 : decode cX10_token 158 = .ok (.aload_n 0, 1) := by decide +kernel
theorem dX10_token_159 : decode cX10_token 159 = .ok (.iconst 0, 1) := by decide +kernel
theorem dX10_token_160 : decode cX10_token 160 = .ok (.putfield 117, 3) := by decide +kernel
theorem dX10_token_163 : decode cX10_token 163 = .ok (.aload_n 0, 1) := by decide +kernel
theorem dX10_token_164 : decode cX10_token 164 = .ok (.invokevirtual 103, 3) := by decide +kernel
theorem dX10_token_167 : decode cX10_token 167 = .ok (.bipush 48, 2) := by decide +kernel
theorem dX10_token_169 : decode cX10_token 169 = .ok (.bipush 57, 2) := by decide +kernel
theorem dX10_token_171 : decode cX10_token 171 = .ok (.invokestatic 89, 3) := by decide +kernel
theorem dX10_token_174 : decode cX10_token 174 = .ok (.ifCond .eq 50, 3) := by decide +kernel
theorem dX10_token_177 : decode cX10_token 177 = .ok (.aload_n 0, 1) := by decide +kernel
theorem dX10_token_178 : decode cX10_token 178 = .ok (.iload_n 2, 1) := by decide +kernel
theorem dX10_token_179 : decode cX10_token 179 = .ok (.iconst 4, 1) := by decide +kernel
theorem dX10_token_180 : decode cX10_token 180 = .ok (.if_icmp .ge 21, 3) := by decide +kernel
theorem dX10_token_183 : decode cX10_token 183 = .ok (.bipush 10, 2) := by decide +kernel
theorem dX10_token_185 : decode cX10_token 185 = .ok (.aload_n 0, 1) := by decide +kernel
theorem dX10_token_186 : decode cX10_token 186 = .ok (.getfield 117, 3) := by decide +kernel
theorem dX10_token_189 : decode cX10_token 189 = .ok (.imul, 1) := by decide +kernel
theorem dX10_token_190 : decode cX10_token 190 = .ok (.aload_n 0, 1) := by decide +kernel
theorem dX10_token_191 : decode cX10_token 191 = .ok (.invokevirtual 103, 3) := by decide +kernel
theorem dX10_token_194 : decode cX10_token 194 = .ok (.iadd, 1) := by decide +kernel
theorem dX10_token_195 : decode cX10_token 195 = .ok (.bipush 48, 2) := by decide +kernel
theorem dX10_token_197 : decode cX10_token 197 = .ok (.isub, 1) := by decide +kernel
theorem dX10_token_198 : decode cX10_token 198 = .ok (.goto 7, 3) := by decide +kernel
theorem dX10_token_201 : decode cX10_token 201 = .ok (.aload_n 0, 1) := by decide +kernel
theorem dX10_token_202 : decode cX10_token 202 = .ok (.getfield 117, 3) := by decide +kernel
theorem dX10_token_205 : decode cX10_token 205 = .ok (.putfield 117, 3) := by decide +kernel
theorem dX10_token_208 : decode cX10_token 208 = .ok (.aload_n 0, 1) := by decide +kernel
theorem dX10_token_209 : decode cX10_token 209 = .ok (.dup, 1) := by decide +kernel
theorem dX10_token_210 : decode cX10_token 210 = .ok (.getfield 97, 3) := by decide +kernel
theorem dX10_token_213 : decode cX10_token 213 = .ok (.iconst 1, 1) := by decide +kernel
theorem dX10_token_214 : decode cX10_token 214 = .ok (.iadd, 1) := by decide +kernel
theorem dX10_token_215 : decode cX10_token 215 = .ok (.putfield 97, 3) := by decide +kernel
theorem dX10_token_218 : decode cX10_token 218 = .ok (.iinc 2 1, 3) := by decide +kernel
theorem dX10_token_221 : decode cX10_token 221 = .ok (.goto (-58), 3) := by decide +kernel
theorem dX10_token_224 : decode cX10_token 224 = .ok (.aload_n 0, 1) := by decide +kernel
theorem dX10_token_225 : decode cX10_token 225 = .ok (.iload_n 2, 1) := by decide +kernel
theorem dX10_token_226 : decode cX10_token 226 = .ok (.iconst 4, 1) := by decide +kernel
theorem dX10_token_227 : decode cX10_token 227 = .ok (.if_icmp .le 7, 3) := by decide +kernel
theorem dX10_token_230 : decode cX10_token 230 = .ok (.iconst 1, 1) := by decide +kernel
theorem dX10_token_231 : decode cX10_token 231 = .ok (.goto 4, 3) := by decide +kernel
theorem dX10_token_234 : decode cX10_token 234 = .ok (.iconst 3, 1) := by decide +kernel
theorem dX10_token_235 : decode cX10_token 235 = .ok (.putfield 114, 3) := by decide +kernel
theorem dX10_token_238 : decode cX10_token 238 = .ok (.goto 38, 3) := by decide +kernel
theorem dX10_token_241 : decode cX10_token 241 = .ok (.aload_n 0, 1) := by decide +kernel
theorem dX10_token_242 : decode cX10_token 242 = .ok (.dup, 1) := by decide +kernel
theorem dX10_token_243 : decode cX10_token 243 = .ok (.getfield 97, 3) := by decide +kernel
theorem dX10_token_246 : decode cX10_token 246 = .ok (.iconst 1, 1) := by decide +kernel
theorem dX10_token_247 : decode cX10_token 247 = .ok (.iadd, 1) := by decide +kernel
theorem dX10_token_248 : decode cX10_token 248 = .ok (.putfield 97, 3) := by decide +kernel
theorem dX10_token_251 : decode cX10_token 251 = .ok (.aload_n 0, 1) := by decide +kernel
theorem dX10_token_252 : decode cX10_token 252 = .ok (.iload_n 1, 1) := by decide +kernel
theorem dX10_token_253 : decode cX10_token 253 = .ok (.bipush 59, 2) := by decide +kernel
theorem dX10_token_255 : decode cX10_token 255 = .ok (.if_icmp .ne 7, 3) := by decide +kernel
theorem dX10_token_258 : decode cX10_token 258 = .ok (.iconst 4, 1) := by decide +kernel
theorem dX10_token_259 : decode cX10_token 259 = .ok (.goto 14, 3) := by decide +kernel
theorem dX10_token_262 : decode cX10_token 262 = .ok (.iload_n 1, 1) := by decide +kernel
theorem dX10_token_263 : decode cX10_token 263 = .ok (.bipush 45, 2) := by decide +kernel
theorem dX10_token_265 : decode cX10_token 265 = .ok (.if_icmp .ne 7, 3) := by decide +kernel
theorem dX10_token_268 : decode cX10_token 268 = .ok (.iconst 5, 1) := by decide +kernel
theorem dX10_token_269 : decode cX10_token 269 = .ok (.goto 4, 3) := by decide +kernel
theorem dX10_token_272 : decode cX10_token 272 = .ok (.iconst 1, 1) := by decide +kernel
theorem dX10_token_273 : decode cX10_token 273 = .ok (.putfield 114, 3) := by decide +kernel
theorem dX10_token_276 : decode cX10_token 276 = .ok (.return_, 1) := by decide +kernel
theorem dX10_stops_0 : decode cX10_stops 0 = .ok (.aload_n 0, 1) := by decide +kernel
theorem dX10_stops_1 : decode cX10_stops 1 = .ok (.aload_n 0, 1) := by decide +kernel
theorem dX10_stops_2 : decode cX10_stops 2 = .ok (.getfield 107, 3) := by decide +kernel
theorem dX10_stops_5 : decode cX10_stops 5 = .ok (.putfield 120, 3) := by decide +kernel
theorem dX10_stops_8 : decode cX10_stops 8 = .ok (.iconst 0, 1) := by decide +kernel
theorem dX10_stops_9 : decode cX10_stops 9 = .ok (.ireturn, 1) := by decide +kernel
theorem dX10_later_0 : decode cX10_later 0 = .ok (.aload_n 0, 1) := by decide +kernel
theorem dX10_later_1 : decode cX10_later 1 = .ok (.getfield 123, 3) := by decide +kernel
theorem dX10_later_4 : decode cX10_later 4 = .ok (.ifCond .eq 27, 3) := by decide +kernel
theorem dX10_later_7 : decode cX10_later 7 = .ok (.iload_n 2, 1) := by decide +kernel
theorem dX10_later_8 : decode cX10_later 8 = .ok (.aload_n 0, 1) := by decide +kernel
theorem dX10_later_9 : decode cX10_later 9 = .ok (.getfield 126, 3) := by decide +kernel
theorem dX10_later_12 : decode cX10_later 12 = .ok (.if_icmp .lt 19, 3) := by decide +kernel
theorem dX10_later_15 : decode cX10_later 15 = .ok (.iload_n 2, 1) := by decide +kernel
theorem dX10_later_16 : decode cX10_later 16 = .ok (.aload_n 0, 1) := by decide +kernel
theorem dX10_later_17 : decode cX10_later 17 = .ok (.getfield 126, 3) := by decide +kernel
theorem dX10_later_20 : decode cX10_later 20 = .ok (.if_icmp .ne 21, 3) := by decide +kernel
theorem dX10_later_23 : decode cX10_later 23 = .ok (.iload_n 1, 1) := by decide +kernel
theorem dX10_later_24 : decode cX10_later 24 = .ok (.aload_n 0, 1) := by decide +kernel
theorem dX10_later_25 : decode cX10_later 25 = .ok (.getfield 123, 3) := by decide +kernel
theorem dX10_later_28 : decode cX10_later 28 = .ok (.if_icmp .ge 13, 3) := by decide +kernel
theorem dX10_later_31 : decode cX10_later 31 = .ok (.aload_n 0, 1) := by decide +kernel
theorem dX10_later_32 : decode cX10_later 32 = .ok (.iload_n 1, 1) := by decide +kernel
theorem dX10_later_33 : decode cX10_later 33 = .ok (.putfield 123, 3) := by decide +kernel
theorem dX10_later_36 : decode cX10_later 36 = .ok (.aload_n 0, 1) := by decide +kernel
theorem dX10_later_37 : decode cX10_later 37 = .ok (.iload_n 2, 1) := by decide +kernel
theorem dX10_later_38 : decode cX10_later 38 = .ok (.putfield 126, 3) := by decide +kernel
theorem dX10_later_41 : decode cX10_later 41 = .ok (.return_, 1) := by decide +kernel
set_option maxRecDepth 20000 in
theorem dX10_number_0 : decode cX10_number 0 = .ok (.aload_n 0, 1) := by decide +kernel
theorem dX10_number_1 : decode cX10_number 1 = .ok (.getfield 114, 3) := by decide +kernel
theorem dX10_number_4 : decode cX10_number 4 = .ok (.iconst 3, 1) := by decide +kernel
theorem dX10_number_5 : decode cX10_number 5 = .ok (.if_icmp .eq 8, 3) := by decide +kernel
theorem dX10_number_8 : decode cX10_number 8 = .ok (.aload_n 0, 1) := by decide +kernel
theorem dX10_number_9 : decode cX10_number 9 = .ok (.invokevirtual 129, 3) := by decide +kernel
theorem dX10_number_12 : decode cX10_number 12 = .ok (.ireturn, 1) := by decide +kernel
theorem dX10_number_13 : decode cX10_number 13 = .ok (.aload_n 0, 1) := by decide +kernel
theorem dX10_number_14 : decode cX10_number 14 = .ok (.aload_n 0, 1) := by decide +kernel
theorem dX10_number_15 : decode cX10_number 15 = .ok (.getfield 117, 3) := by decide +kernel
theorem dX10_number_18 : decode cX10_number 18 = .ok (.putfield 133, 3) := by decide +kernel
theorem dX10_number_21 : decode cX10_number 21 = .ok (.aload_n 0, 1) := by decide +kernel
theorem dX10_number_22 : decode cX10_number 22 = .ok (.getfield 117, 3) := by decide +kernel
theorem dX10_number_25 : decode cX10_number 25 = .ok (.iload_n 1, 1) := by decide +kernel
theorem dX10_number_26 : decode cX10_number 26 = .ok (.iload_n 2, 1) := by decide +kernel
theorem dX10_number_27 : decode cX10_number 27 = .ok (.invokestatic 89, 3) := by decide +kernel
theorem dX10_number_30 : decode cX10_number 30 = .ok (.ifCond .ne 12, 3) := by decide +kernel
theorem dX10_number_33 : decode cX10_number 33 = .ok (.aload_n 0, 1) := by decide +kernel
theorem dX10_number_34 : decode cX10_number 34 = .ok (.iconst 2, 1) := by decide +kernel
theorem dX10_number_35 : decode cX10_number 35 = .ok (.aload_n 0, 1) := by decide +kernel
theorem dX10_number_36 : decode cX10_number 36 = .ok (.getfield 107, 3) := by decide +kernel
theorem dX10_number_39 : decode cX10_number 39 = .ok (.invokevirtual 136, 3) := by decide +kernel
theorem dX10_number_42 : decode cX10_number 42 = .ok (.aload_n 0, 1) := by decide +kernel
theorem dX10_number_43 : decode cX10_number 43 = .ok (.invokevirtual 140, 3) := by decide +kernel
theorem dX10_number_46 : decode cX10_number 46 = .ok (.iconst 1, 1) := by decide +kernel
theorem dX10_number_47 : decode cX10_number 47 = .ok (.ireturn, 1) := by decide +kernel
set_option maxRecDepth 20000 in
theorem dX10_signed_0 : decode cX10_signed 0 = .ok (.aload_n 0, 1) := by decide +kernel
theorem dX10_signed_1 : decode cX10_signed 1 = .ok (.getfield 114, 3) := by decide +kernel
theorem dX10_signed_4 : decode cX10_signed 4 = .ok (.iconst 5, 1) := by decide +kernel
theorem dX10_signed_5 : decode cX10_signed 5 = .ok (.if_icmp .ne 7, 3) := by decide +kernel
theorem dX10_signed_8 : decode cX10_signed 8 = .ok (.iconst 1, 1) := by decide +kernel
theorem dX10_signed_9 : decode cX10_signed 9 = .ok (.goto 4, 3) := by decide +kernel
theorem dX10_signed_12 : decode cX10_signed 12 = .ok (.iconst 0, 1) := by decide +kernel
theorem dX10_signed_13 : decode cX10_signed 13 = .ok (.istore_n 2, 1) := by decide +kernel
theorem dX10_signed_14 : decode cX10_signed 14 = .ok (.iload_n 2, 1) := by decide +kernel
theorem dX10_signed_15 : decode cX10_signed 15 = .ok (.ifCond .eq 7, 3) := by decide +kernel
theorem dX10_signed_18 : decode cX10_signed 18 = .ok (.aload_n 0, 1) := by decide +kernel
theorem dX10_signed_19 : decode cX10_signed 19 = .ok (.invokevirtual 140, 3) := by decide +kernel
theorem dX10_signed_22 : decode cX10_signed 22 = .ok (.aload_n 0, 1) := by decide +kernel
theorem dX10_signed_23 : decode cX10_signed 23 = .ok (.iconst 0, 1) := by decide +kernel
theorem dX10_signed_24 : decode cX10_signed 24 = .ok (.iload_n 1, 1) := by decide +kernel
theorem dX10_signed_25 : decode cX10_signed 25 = .ok (.invokevirtual 143, 3) := by decide +kernel
theorem dX10_signed_28 : decode cX10_signed 28 = .ok (.istore_n 3, 1) := by decide +kernel
theorem dX10_signed_29 : decode cX10_signed 29 = .ok (.aload_n 0, 1) := by decide +kernel
theorem dX10_signed_30 : decode cX10_signed 30 = .ok (.iload_n 2, 1) := by decide +kernel
theorem dX10_signed_31 : decode cX10_signed 31 = .ok (.ifCond .eq 11, 3) := by decide +kernel
theorem dX10_signed_34 : decode cX10_signed 34 = .ok (.aload_n 0, 1) := by decide +kernel
theorem dX10_signed_35 : decode cX10_signed 35 = .ok (.getfield 133, 3) := by decide +kernel
theorem dX10_signed_38 : decode cX10_signed 38 = .ok (.ineg, 1) := by decide +kernel
theorem dX10_signed_39 : decode cX10_signed 39 = .ok (.goto 7, 3) := by decide +kernel
theorem dX10_signed_42 : decode cX10_signed 42 = .ok (.aload_n 0, 1) := by decide +kernel
theorem dX10_signed_43 : decode cX10_signed 43 = .ok (.getfield 133, 3) := by decide +kernel
theorem dX10_signed_46 : decode cX10_signed 46 = .ok (.putfield 133, 3) := by decide +kernel
theorem dX10_signed_49 : decode cX10_signed 49 = .ok (.iload_n 3, 1) := by decide +kernel
theorem dX10_signed_50 : decode cX10_signed 50 = .ok (.ireturn, 1) := by decide +kernel
set_option maxRecDepth 20000 in
theorem dX10_into_0 : decode cX10_into 0 = .ok (.aload_n 0, 1) := by decide +kernel
theorem dX10_into_1 : decode cX10_into 1 = .ok (.iload_n 2, 1) := by decide +kernel
theorem dX10_into_2 : decode cX10_into 2 = .ok (.iload_n 3, 1) := by decide +kernel
theorem dX10_into_3 : decode cX10_into 3 = .ok (.invokevirtual 143, 3) := by decide +kernel
theorem dX10_into_6 : decode cX10_into 6 = .ok (.istore 4, 2) := by decide +kernel
theorem dX10_into_8 : decode cX10_into 8 = .ok (.aload_n 0, 1) := by decide +kernel
theorem dX10_into_9 : decode cX10_into 9 = .ok (.getfield 38, 3) := by decide +kernel
theorem dX10_into_12 : decode cX10_into 12 = .ok (.iload_n 1, 1) := by decide +kernel
theorem dX10_into_13 : decode cX10_into 13 = .ok (.iload 4, 2) := by decide +kernel
theorem dX10_into_15 : decode cX10_into 15 = .ok (.ifCond .eq 10, 3) := by decide +kernel
theorem dX10_into_18 : decode cX10_into 18 = .ok (.aload_n 0, 1) := by decide +kernel
theorem dX10_into_19 : decode cX10_into 19 = .ok (.getfield 133, 3) := by decide +kernel
theorem dX10_into_22 : decode cX10_into 22 = .ok (.goto 9, 3) := by decide +kernel
theorem dX10_into_25 : decode cX10_into 25 = .ok (.aload_n 0, 1) := by decide +kernel
theorem dX10_into_26 : decode cX10_into 26 = .ok (.getfield 38, 3) := by decide +kernel
theorem dX10_into_29 : decode cX10_into 29 = .ok (.iload_n 1, 1) := by decide +kernel
theorem dX10_into_30 : decode cX10_into 30 = .ok (.iaload, 1) := by decide +kernel
theorem dX10_into_31 : decode cX10_into 31 = .ok (.iastore, 1) := by decide +kernel
theorem dX10_into_32 : decode cX10_into 32 = .ok (.iload 4, 2) := by decide +kernel
theorem dX10_into_34 : decode cX10_into 34 = .ok (.ireturn, 1) := by decide +kernel
set_option maxRecDepth 20000 in
theorem dX10_signedInto_0 : decode cX10_signedInto 0 = .ok (.aload_n 0, 1) := by decide +kernel
theorem dX10_signedInto_1 : decode cX10_signedInto 1 = .ok (.iload_n 2, 1) := by decide +kernel
theorem dX10_signedInto_2 : decode cX10_signedInto 2 = .ok (.invokevirtual 147, 3) := by decide +kernel
theorem dX10_signedInto_5 : decode cX10_signedInto 5 = .ok (.istore_n 3, 1) := by decide +kernel
theorem dX10_signedInto_6 : decode cX10_signedInto 6 = .ok (.aload_n 0, 1) := by decide +kernel
theorem dX10_signedInto_7 : decode cX10_signedInto 7 = .ok (.getfield 38, 3) := by decide +kernel
theorem dX10_signedInto_10 : decode cX10_signedInto 10 = .ok (.iload_n 1, 1) := by decide +kernel
theorem dX10_signedInto_11 : decode cX10_signedInto 11 = .ok (.iload_n 3, 1) := by decide +kernel
theorem dX10_signedInto_12 : decode cX10_signedInto 12 = .ok (.ifCond .eq 10, 3) := by decide +kernel
theorem dX10_signedInto_15 : decode cX10_signedInto 15 = .ok (.aload_n 0, 1) := by decide +kernel
theorem dX10_signedInto_16 : decode cX10_signedInto 16 = .ok (.getfield 133, 3) := by decide +kernel
theorem dX10_signedInto_19 : decode cX10_signedInto 19 = .ok (.goto 9, 3) := by decide +kernel
theorem dX10_signedInto_22 : decode cX10_signedInto 22 = .ok (.aload_n 0, 1) := by decide +kernel
theorem dX10_signedInto_23 : decode cX10_signedInto 23 = .ok (.getfield 38, 3) := by decide +kernel
theorem dX10_signedInto_26 : decode cX10_signedInto 26 = .ok (.iload_n 1, 1) := by decide +kernel
theorem dX10_signedInto_27 : decode cX10_signedInto 27 = .ok (.iaload, 1) := by decide +kernel
theorem dX10_signedInto_28 : decode cX10_signedInto 28 = .ok (.iastore, 1) := by decide +kernel
theorem dX10_signedInto_29 : decode cX10_signedInto 29 = .ok (.iload_n 3, 1) := by decide +kernel
theorem dX10_signedInto_30 : decode cX10_signedInto 30 = .ok (.ireturn, 1) := by decide +kernel
set_option maxRecDepth 20000 in
theorem dX10_list_0 : decode cX10_list 0 = .ok (.aload_n 0, 1) := by decide +kernel
theorem dX10_list_1 : decode cX10_list 1 = .ok (.getfield 38, 3) := by decide +kernel
theorem dX10_list_4 : decode cX10_list 4 = .ok (.iload_n 1, 1) := by decide +kernel
theorem dX10_list_5 : decode cX10_list 5 = .ok (.iaload, 1) := by decide +kernel
theorem dX10_list_6 : decode cX10_list 6 = .ok (.iload_n 3, 1) := by decide +kernel
theorem dX10_list_7 : decode cX10_list 7 = .ok (.if_icmp .ne 28, 3) := by decide +kernel
theorem dX10_list_10 : decode cX10_list 10 = .ok (.aload_n 0, 1) := by decide +kernel
theorem dX10_list_11 : decode cX10_list 11 = .ok (.getfield 114, 3) := by decide +kernel
theorem dX10_list_14 : decode cX10_list 14 = .ok (.iconst 3, 1) := by decide +kernel
theorem dX10_list_15 : decode cX10_list 15 = .ok (.if_icmp .eq 11, 3) := by decide +kernel
theorem dX10_list_18 : decode cX10_list 18 = .ok (.aload_n 0, 1) := by decide +kernel
theorem dX10_list_19 : decode cX10_list 19 = .ok (.getfield 114, 3) := by decide +kernel
theorem dX10_list_22 : decode cX10_list 22 = .ok (.iconst 5, 1) := by decide +kernel
theorem dX10_list_23 : decode cX10_list 23 = .ok (.if_icmp .ne 12, 3) := by decide +kernel
theorem dX10_list_26 : decode cX10_list 26 = .ok (.aload_n 0, 1) := by decide +kernel
theorem dX10_list_27 : decode cX10_list 27 = .ok (.iconst 3, 1) := by decide +kernel
theorem dX10_list_28 : decode cX10_list 28 = .ok (.aload_n 0, 1) := by decide +kernel
theorem dX10_list_29 : decode cX10_list 29 = .ok (.getfield 107, 3) := by decide +kernel
theorem dX10_list_32 : decode cX10_list 32 = .ok (.invokevirtual 136, 3) := by decide +kernel
theorem dX10_list_35 : decode cX10_list 35 = .ok (.aload_n 0, 1) := by decide +kernel
theorem dX10_list_36 : decode cX10_list 36 = .ok (.iload 4, 2) := by decide +kernel
theorem dX10_list_38 : decode cX10_list 38 = .ok (.invokevirtual 147, 3) := by decide +kernel
theorem dX10_list_41 : decode cX10_list 41 = .ok (.ifCond .ne 5, 3) := by decide +kernel
theorem dX10_list_44 : decode cX10_list 44 = .ok (.iconst 0, 1) := by decide +kernel
theorem dX10_list_45 : decode cX10_list 45 = .ok (.ireturn, 1) := by decide +kernel
theorem dX10_list_46 : decode cX10_list 46 = .ok (.aload_n 0, 1) := by decide +kernel
theorem dX10_list_47 : decode cX10_list 47 = .ok (.getfield 38, 3) := by decide +kernel
theorem dX10_list_50 : decode cX10_list 50 = .ok (.iload_n 1, 1) := by decide +kernel
theorem dX10_list_51 : decode cX10_list 51 = .ok (.iaload, 1) := by decide +kernel
theorem dX10_list_52 : decode cX10_list 52 = .ok (.iload_n 3, 1) := by decide +kernel
theorem dX10_list_53 : decode cX10_list 53 = .ok (.if_icmp .ge 30, 3) := by decide +kernel
theorem dX10_list_56 : decode cX10_list 56 = .ok (.aload_n 0, 1) := by decide +kernel
theorem dX10_list_57 : decode cX10_list 57 = .ok (.getfield 38, 3) := by decide +kernel
theorem dX10_list_60 : decode cX10_list 60 = .ok (.iload_n 2, 1) := by decide +kernel
theorem dX10_list_61 : decode cX10_list 61 = .ok (.aload_n 0, 1) := by decide +kernel
theorem dX10_list_62 : decode cX10_list 62 = .ok (.getfield 38, 3) := by decide +kernel
theorem dX10_list_65 : decode cX10_list 65 = .ok (.iload_n 1, 1) := by decide +kernel
theorem dX10_list_66 : decode cX10_list 66 = .ok (.iaload, 1) := by decide +kernel
theorem dX10_list_67 : decode cX10_list 67 = .ok (.iadd, 1) := by decide +kernel
theorem dX10_list_68 : decode cX10_list 68 = .ok (.aload_n 0, 1) := by decide +kernel
theorem dX10_list_69 : decode cX10_list 69 = .ok (.getfield 133, 3) := by decide +kernel
theorem dX10_list_72 : decode cX10_list 72 = .ok (.iastore, 1) := by decide +kernel
theorem dX10_list_73 : decode cX10_list 73 = .ok (.aload_n 0, 1) := by decide +kernel
theorem dX10_list_74 : decode cX10_list 74 = .ok (.getfield 38, 3) := by decide +kernel
theorem dX10_list_77 : decode cX10_list 77 = .ok (.iload_n 1, 1) := by decide +kernel
theorem dX10_list_78 : decode cX10_list 78 = .ok (.dup2, 1) := by decide +kernel
theorem dX10_list_79 : decode cX10_list 79 = .ok (.iaload, 1) := by decide +kernel
theorem dX10_list_80 : decode cX10_list 80 = .ok (.iconst 1, 1) := by decide +kernel
theorem dX10_list_81 : decode cX10_list 81 = .ok (.iadd, 1) := by decide +kernel
theorem dX10_list_82 : decode cX10_list 82 = .ok (.iastore, 1) := by decide +kernel
theorem dX10_list_83 : decode cX10_list 83 = .ok (.aload_n 0, 1) := by decide +kernel
theorem dX10_list_84 : decode cX10_list 84 = .ok (.getfield 114, 3) := by decide +kernel
theorem dX10_list_87 : decode cX10_list 87 = .ok (.iconst 3, 1) := by decide +kernel
theorem dX10_list_88 : decode cX10_list 88 = .ok (.if_icmp .eq (-88), 3) := by decide +kernel
theorem dX10_list_91 : decode cX10_list 91 = .ok (.aload_n 0, 1) := by decide +kernel
theorem dX10_list_92 : decode cX10_list 92 = .ok (.getfield 114, 3) := by decide +kernel
theorem dX10_list_95 : decode cX10_list 95 = .ok (.iconst 5, 1) := by decide +kernel
theorem dX10_list_96 : decode cX10_list 96 = .ok (.if_icmp .eq (-96), 3) := by decide +kernel
theorem dX10_list_99 : decode cX10_list 99 = .ok (.iconst 1, 1) := by decide +kernel
theorem dX10_list_100 : decode cX10_list 100 = .ok (.ireturn, 1) := by decide +kernel
set_option maxRecDepth 20000 in
theorem dX10_shipLine_0 : decode cX10_shipLine 0 = .ok (.lload_n 1, 1) := by decide +kernel
theorem dX10_shipLine_1 : decode cX10_shipLine 1 = .ok (.ldc2_w 151, 3) := by decide +kernel
theorem dX10_shipLine_4 : decode cX10_shipLine 4 = .ok (.lcmp, 1) := by decide +kernel
theorem dX10_shipLine_5 : decode cX10_shipLine 5 = .ok (.ifCond .ne 7, 3) := by decide +kernel
theorem dX10_shipLine_8 : decode cX10_shipLine 8 = .ok (.iconst 0, 1) := by decide +kernel
theorem dX10_shipLine_9 : decode cX10_shipLine 9 = .ok (.goto 90, 3) := by decide +kernel
theorem dX10_shipLine_12 : decode cX10_shipLine 12 = .ok (.lload_n 1, 1) := by decide +kernel
theorem dX10_shipLine_13 : decode cX10_shipLine 13 = .ok (.ldc2_w 153, 3) := by decide +kernel
theorem dX10_shipLine_16 : decode cX10_shipLine 16 = .ok (.lcmp, 1) := by decide +kernel
theorem dX10_shipLine_17 : decode cX10_shipLine 17 = .ok (.ifCond .ne 7, 3) := by decide +kernel
theorem dX10_shipLine_20 : decode cX10_shipLine 20 = .ok (.iconst 1, 1) := by decide +kernel
theorem dX10_shipLine_21 : decode cX10_shipLine 21 = .ok (.goto 78, 3) := by decide +kernel
theorem dX10_shipLine_24 : decode cX10_shipLine 24 = .ok (.lload_n 1, 1) := by decide +kernel
theorem dX10_shipLine_25 : decode cX10_shipLine 25 = .ok (.ldc2_w 155, 3) := by decide +kernel
theorem dX10_shipLine_28 : decode cX10_shipLine 28 = .ok (.lcmp, 1) := by decide +kernel
theorem dX10_shipLine_29 : decode cX10_shipLine 29 = .ok (.ifCond .ne 7, 3) := by decide +kernel
theorem dX10_shipLine_32 : decode cX10_shipLine 32 = .ok (.iconst 2, 1) := by decide +kernel
theorem dX10_shipLine_33 : decode cX10_shipLine 33 = .ok (.goto 66, 3) := by decide +kernel
theorem dX10_shipLine_36 : decode cX10_shipLine 36 = .ok (.lload_n 1, 1) := by decide +kernel
theorem dX10_shipLine_37 : decode cX10_shipLine 37 = .ok (.ldc2_w 157, 3) := by decide +kernel
theorem dX10_shipLine_40 : decode cX10_shipLine 40 = .ok (.lcmp, 1) := by decide +kernel
theorem dX10_shipLine_41 : decode cX10_shipLine 41 = .ok (.ifCond .ne 7, 3) := by decide +kernel
theorem dX10_shipLine_44 : decode cX10_shipLine 44 = .ok (.iconst 3, 1) := by decide +kernel
theorem dX10_shipLine_45 : decode cX10_shipLine 45 = .ok (.goto 54, 3) := by decide +kernel
theorem dX10_shipLine_48 : decode cX10_shipLine 48 = .ok (.lload_n 1, 1) := by decide +kernel
theorem dX10_shipLine_49 : decode cX10_shipLine 49 = .ok (.ldc2_w 159, 3) := by decide +kernel
theorem dX10_shipLine_52 : decode cX10_shipLine 52 = .ok (.lcmp, 1) := by decide +kernel
theorem dX10_shipLine_53 : decode cX10_shipLine 53 = .ok (.ifCond .ne 7, 3) := by decide +kernel
theorem dX10_shipLine_56 : decode cX10_shipLine 56 = .ok (.iconst 4, 1) := by decide +kernel
theorem dX10_shipLine_57 : decode cX10_shipLine 57 = .ok (.goto 42, 3) := by decide +kernel
theorem dX10_shipLine_60 : decode cX10_shipLine 60 = .ok (.lload_n 1, 1) := by decide +kernel
theorem dX10_shipLine_61 : decode cX10_shipLine 61 = .ok (.ldc2_w 161, 3) := by decide +kernel
theorem dX10_shipLine_64 : decode cX10_shipLine 64 = .ok (.lcmp, 1) := by decide +kernel
theorem dX10_shipLine_65 : decode cX10_shipLine 65 = .ok (.ifCond .ne 7, 3) := by decide +kernel
theorem dX10_shipLine_68 : decode cX10_shipLine 68 = .ok (.iconst 5, 1) := by decide +kernel
theorem dX10_shipLine_69 : decode cX10_shipLine 69 = .ok (.goto 30, 3) := by decide +kernel
theorem dX10_shipLine_72 : decode cX10_shipLine 72 = .ok (.lload_n 1, 1) := by decide +kernel
theorem dX10_shipLine_73 : decode cX10_shipLine 73 = .ok (.ldc2_w 163, 3) := by decide +kernel
theorem dX10_shipLine_76 : decode cX10_shipLine 76 = .ok (.lcmp, 1) := by decide +kernel
theorem dX10_shipLine_77 : decode cX10_shipLine 77 = .ok (.ifCond .ne 8, 3) := by decide +kernel
theorem dX10_shipLine_80 : decode cX10_shipLine 80 = .ok (.bipush 6, 2) := by decide +kernel
theorem dX10_shipLine_82 : decode cX10_shipLine 82 = .ok (.goto 17, 3) := by decide +kernel
theorem dX10_shipLine_85 : decode cX10_shipLine 85 = .ok (.lload_n 1, 1) := by decide +kernel
theorem dX10_shipLine_86 : decode cX10_shipLine 86 = .ok (.ldc2_w 165, 3) := by decide +kernel
theorem dX10_shipLine_89 : decode cX10_shipLine 89 = .ok (.lcmp, 1) := by decide +kernel
theorem dX10_shipLine_90 : decode cX10_shipLine 90 = .ok (.ifCond .ne 8, 3) := by decide +kernel
theorem dX10_shipLine_93 : decode cX10_shipLine 93 = .ok (.bipush 7, 2) := by decide +kernel
theorem dX10_shipLine_95 : decode cX10_shipLine 95 = .ok (.goto 4, 3) := by decide +kernel
theorem dX10_shipLine_98 : decode cX10_shipLine 98 = .ok (.iconst (-1), 1) := by decide +kernel
theorem dX10_shipLine_99 : decode cX10_shipLine 99 = .ok (.istore_n 3, 1) := by decide +kernel
theorem dX10_shipLine_100 : decode cX10_shipLine 100 = .ok (.iload_n 3, 1) := by decide +kernel
theorem dX10_shipLine_101 : decode cX10_shipLine 101 = .ok (.iconst (-1), 1) := by decide +kernel
theorem dX10_shipLine_102 : decode cX10_shipLine 102 = .ok (.if_icmp .ne 24, 3) := by decide +kernel
theorem dX10_shipLine_105 : decode cX10_shipLine 105 = .ok (.lload_n 1, 1) := by decide +kernel
theorem dX10_shipLine_106 : decode cX10_shipLine 106 = .ok (.ldc2_w 167, 3) := by decide +kernel
theorem dX10_shipLine_109 : decode cX10_shipLine 109 = .ok (.lcmp, 1) := by decide +kernel
theorem dX10_shipLine_110 : decode cX10_shipLine 110 = .ok (.ifCond .eq 16, 3) := by decide +kernel
theorem dX10_shipLine_113 : decode cX10_shipLine 113 = .ok (.lload_n 1, 1) := by decide +kernel
theorem dX10_shipLine_114 : decode cX10_shipLine 114 = .ok (.ldc2_w 169, 3) := by decide +kernel
theorem dX10_shipLine_117 : decode cX10_shipLine 117 = .ok (.lcmp, 1) := by decide +kernel
theorem dX10_shipLine_118 : decode cX10_shipLine 118 = .ok (.ifCond .eq 8, 3) := by decide +kernel
theorem dX10_shipLine_121 : decode cX10_shipLine 121 = .ok (.aload_n 0, 1) := by decide +kernel
theorem dX10_shipLine_122 : decode cX10_shipLine 122 = .ok (.invokevirtual 129, 3) := by decide +kernel
theorem dX10_shipLine_125 : decode cX10_shipLine 125 = .ok (.ireturn, 1) := by decide +kernel
theorem dX10_shipLine_126 : decode cX10_shipLine 126 = .ok (.aload_n 0, 1) := by decide +kernel
theorem dX10_shipLine_127 : decode cX10_shipLine 127 = .ok (.invokevirtual 140, 3) := by decide +kernel
theorem dX10_shipLine_130 : decode cX10_shipLine 130 = .ok (.lload_n 1, 1) := by decide +kernel
theorem dX10_shipLine_131 : decode cX10_shipLine 131 = .ok (.ldc2_w 167, 3) := by decide +kernel
theorem dX10_shipLine_134 : decode cX10_shipLine 134 = .ok (.lcmp, 1) := by decide +kernel
theorem dX10_shipLine_135 : decode cX10_shipLine 135 = .ok (.ifCond .ne 33, 3) := by decide +kernel
theorem dX10_shipLine_138 : decode cX10_shipLine 138 = .ok (.aload_n 0, 1) := by decide +kernel
theorem dX10_shipLine_139 : decode cX10_shipLine 139 = .ok (.bipush 8, 2) := by decide +kernel
theorem dX10_shipLine_141 : decode cX10_shipLine 141 = .ok (.sipush 999, 3) := by decide +kernel
theorem dX10_shipLine_144 : decode cX10_shipLine 144 = .ok (.invokevirtual 171, 3) := by decide +kernel
theorem dX10_shipLine_147 : decode cX10_shipLine 147 = .ok (.ifCond .eq 19, 3) := by decide +kernel
theorem dX10_shipLine_150 : decode cX10_shipLine 150 = .ok (.aload_n 0, 1) := by decide +kernel
theorem dX10_shipLine_151 : decode cX10_shipLine 151 = .ok (.bipush 9, 2) := by decide +kernel
theorem dX10_shipLine_153 : decode cX10_shipLine 153 = .ok (.sipush 999, 3) := by decide +kernel
theorem dX10_shipLine_156 : decode cX10_shipLine 156 = .ok (.invokevirtual 171, 3) := by decide +kernel
theorem dX10_shipLine_159 : decode cX10_shipLine 159 = .ok (.ifCond .eq 7, 3) := by decide +kernel
theorem dX10_shipLine_162 : decode cX10_shipLine 162 = .ok (.iconst 1, 1) := by decide +kernel
theorem dX10_shipLine_163 : decode cX10_shipLine 163 = .ok (.goto 4, 3) := by decide +kernel
theorem dX10_shipLine_166 : decode cX10_shipLine 166 = .ok (.iconst 0, 1) := by decide +kernel
theorem dX10_shipLine_167 : decode cX10_shipLine 167 = .ok (.ireturn, 1) := by decide +kernel
theorem dX10_shipLine_168 : decode cX10_shipLine 168 = .ok (.lload_n 1, 1) := by decide +kernel
theorem dX10_shipLine_169 : decode cX10_shipLine 169 = .ok (.ldc2_w 169, 3) := by decide +kernel
theorem dX10_shipLine_172 : decode cX10_shipLine 172 = .ok (.lcmp, 1) := by decide +kernel
theorem dX10_shipLine_173 : decode cX10_shipLine 173 = .ok (.ifCond .ne 24, 3) := by decide +kernel
theorem dX10_shipLine_176 : decode cX10_shipLine 176 = .ok (.aload_n 0, 1) := by decide +kernel
theorem dX10_shipLine_177 : decode cX10_shipLine 177 = .ok (.getfield 38, 3) := by decide +kernel
theorem dX10_shipLine_180 : decode cX10_shipLine 180 = .ok (.bipush 10, 2) := by decide +kernel
theorem dX10_shipLine_182 : decode cX10_shipLine 182 = .ok (.iconst 0, 1) := by decide +kernel
theorem dX10_shipLine_183 : decode cX10_shipLine 183 = .ok (.iastore, 1) := by decide +kernel
theorem dX10_shipLine_184 : decode cX10_shipLine 184 = .ok (.aload_n 0, 1) := by decide +kernel
theorem dX10_shipLine_185 : decode cX10_shipLine 185 = .ok (.bipush 10, 2) := by decide +kernel
theorem dX10_shipLine_187 : decode cX10_shipLine 187 = .ok (.bipush 11, 2) := by decide +kernel
theorem dX10_shipLine_189 : decode cX10_shipLine 189 = .ok (.bipush 12, 2) := by decide +kernel
theorem dX10_shipLine_191 : decode cX10_shipLine 191 = .ok (.bipush 99, 2) := by decide +kernel
theorem dX10_shipLine_193 : decode cX10_shipLine 193 = .ok (.invokevirtual 174, 3) := by decide +kernel
theorem dX10_shipLine_196 : decode cX10_shipLine 196 = .ok (.ireturn, 1) := by decide +kernel
theorem dX10_shipLine_197 : decode cX10_shipLine 197 = .ok (.iload_n 3, 1) := by decide +kernel
theorem dX10_shipLine_198 : decode cX10_shipLine 198 = .ok (.bipush 6, 2) := by decide +kernel
theorem dX10_shipLine_200 : decode cX10_shipLine 200 = .ok (.if_icmp .eq 9, 3) := by decide +kernel
theorem dX10_shipLine_203 : decode cX10_shipLine 203 = .ok (.iload_n 3, 1) := by decide +kernel
theorem dX10_shipLine_204 : decode cX10_shipLine 204 = .ok (.bipush 7, 2) := by decide +kernel
theorem dX10_shipLine_206 : decode cX10_shipLine 206 = .ok (.if_icmp .ne 11, 3) := by decide +kernel
theorem dX10_shipLine_209 : decode cX10_shipLine 209 = .ok (.aload_n 0, 1) := by decide +kernel
theorem dX10_shipLine_210 : decode cX10_shipLine 210 = .ok (.iload_n 3, 1) := by decide +kernel
theorem dX10_shipLine_211 : decode cX10_shipLine 211 = .ok (.bipush 99, 2) := by decide +kernel
theorem dX10_shipLine_213 : decode cX10_shipLine 213 = .ok (.invokevirtual 171, 3) := by decide +kernel
theorem dX10_shipLine_216 : decode cX10_shipLine 216 = .ok (.ireturn, 1) := by decide +kernel
theorem dX10_shipLine_217 : decode cX10_shipLine 217 = .ok (.aload_n 0, 1) := by decide +kernel
theorem dX10_shipLine_218 : decode cX10_shipLine 218 = .ok (.iload_n 3, 1) := by decide +kernel
theorem dX10_shipLine_219 : decode cX10_shipLine 219 = .ok (.iload_n 3, 1) := by decide +kernel
theorem dX10_shipLine_220 : decode cX10_shipLine 220 = .ok (.iconst 3, 1) := by decide +kernel
theorem dX10_shipLine_221 : decode cX10_shipLine 221 = .ok (.if_icmp .eq 8, 3) := by decide +kernel
theorem dX10_shipLine_224 : decode cX10_shipLine 224 = .ok (.iload_n 3, 1) := by decide +kernel
theorem dX10_shipLine_225 : decode cX10_shipLine 225 = .ok (.iconst 4, 1) := by decide +kernel
theorem dX10_shipLine_226 : decode cX10_shipLine 226 = .ok (.if_icmp .ne 7, 3) := by decide +kernel
theorem dX10_shipLine_229 : decode cX10_shipLine 229 = .ok (.iconst 1, 1) := by decide +kernel
theorem dX10_shipLine_230 : decode cX10_shipLine 230 = .ok (.goto 4, 3) := by decide +kernel
theorem dX10_shipLine_233 : decode cX10_shipLine 233 = .ok (.iconst 0, 1) := by decide +kernel
theorem dX10_shipLine_234 : decode cX10_shipLine 234 = .ok (.iload_n 3, 1) := by decide +kernel
theorem dX10_shipLine_235 : decode cX10_shipLine 235 = .ok (.iconst 1, 1) := by decide +kernel
theorem dX10_shipLine_236 : decode cX10_shipLine 236 = .ok (.if_icmp .ne 8, 3) := by decide +kernel
theorem dX10_shipLine_239 : decode cX10_shipLine 239 = .ok (.bipush 100, 2) := by decide +kernel
theorem dX10_shipLine_241 : decode cX10_shipLine 241 = .ok (.goto 30, 3) := by decide +kernel
theorem dX10_shipLine_244 : decode cX10_shipLine 244 = .ok (.iload_n 3, 1) := by decide +kernel
theorem dX10_shipLine_245 : decode cX10_shipLine 245 = .ok (.iconst 2, 1) := by decide +kernel
theorem dX10_shipLine_246 : decode cX10_shipLine 246 = .ok (.if_icmp .ne 8, 3) := by decide +kernel
theorem dX10_shipLine_249 : decode cX10_shipLine 249 = .ok (.bipush 9, 2) := by decide +kernel
theorem dX10_shipLine_251 : decode cX10_shipLine 251 = .ok (.goto 20, 3) := by decide +kernel
theorem dX10_shipLine_254 : decode cX10_shipLine 254 = .ok (.iload_n 3, 1) := by decide +kernel
theorem dX10_shipLine_255 : decode cX10_shipLine 255 = .ok (.iconst 3, 1) := by decide +kernel
theorem dX10_shipLine_256 : decode cX10_shipLine 256 = .ok (.if_icmp .eq 8, 3) := by decide +kernel
theorem dX10_shipLine_259 : decode cX10_shipLine 259 = .ok (.iload_n 3, 1) := by decide +kernel
theorem dX10_shipLine_260 : decode cX10_shipLine 260 = .ok (.iconst 4, 1) := by decide +kernel
theorem dX10_shipLine_261 : decode cX10_shipLine 261 = .ok (.if_icmp .ne 8, 3) := by decide +kernel
theorem dX10_shipLine_264 : decode cX10_shipLine 264 = .ok (.bipush 35, 2) := by decide +kernel
theorem dX10_shipLine_266 : decode cX10_shipLine 266 = .ok (.goto 5, 3) := by decide +kernel
theorem dX10_shipLine_269 : decode cX10_shipLine 269 = .ok (.bipush 99, 2) := by decide +kernel
theorem dX10_shipLine_271 : decode cX10_shipLine 271 = .ok (.invokevirtual 178, 3) := by decide +kernel
theorem dX10_shipLine_274 : decode cX10_shipLine 274 = .ok (.ireturn, 1) := by decide +kernel
set_option maxRecDepth 20000 in
theorem dX10_handLine_0 : decode cX10_handLine 0 = .ok (.lload_n 1, 1) := by decide +kernel
theorem dX10_handLine_1 : decode cX10_handLine 1 = .ok (.ldc2_w 181, 3) := by decide +kernel
theorem dX10_handLine_4 : decode cX10_handLine 4 = .ok (.lcmp, 1) := by decide +kernel
theorem dX10_handLine_5 : decode cX10_handLine 5 = .ok (.ifCond .ne 7, 3) := by decide +kernel
theorem dX10_handLine_8 : decode cX10_handLine 8 = .ok (.iconst 0, 1) := by decide +kernel
theorem dX10_handLine_9 : decode cX10_handLine 9 = .ok (.goto 90, 3) := by decide +kernel
theorem dX10_handLine_12 : decode cX10_handLine 12 = .ok (.lload_n 1, 1) := by decide +kernel
theorem dX10_handLine_13 : decode cX10_handLine 13 = .ok (.ldc2_w 183, 3) := by decide +kernel
theorem dX10_handLine_16 : decode cX10_handLine 16 = .ok (.lcmp, 1) := by decide +kernel
theorem dX10_handLine_17 : decode cX10_handLine 17 = .ok (.ifCond .ne 7, 3) := by decide +kernel
theorem dX10_handLine_20 : decode cX10_handLine 20 = .ok (.iconst 1, 1) := by decide +kernel
theorem dX10_handLine_21 : decode cX10_handLine 21 = .ok (.goto 78, 3) := by decide +kernel
theorem dX10_handLine_24 : decode cX10_handLine 24 = .ok (.lload_n 1, 1) := by decide +kernel
theorem dX10_handLine_25 : decode cX10_handLine 25 = .ok (.ldc2_w 185, 3) := by decide +kernel
theorem dX10_handLine_28 : decode cX10_handLine 28 = .ok (.lcmp, 1) := by decide +kernel
theorem dX10_handLine_29 : decode cX10_handLine 29 = .ok (.ifCond .ne 7, 3) := by decide +kernel
theorem dX10_handLine_32 : decode cX10_handLine 32 = .ok (.iconst 2, 1) := by decide +kernel
theorem dX10_handLine_33 : decode cX10_handLine 33 = .ok (.goto 66, 3) := by decide +kernel
theorem dX10_handLine_36 : decode cX10_handLine 36 = .ok (.lload_n 1, 1) := by decide +kernel
theorem dX10_handLine_37 : decode cX10_handLine 37 = .ok (.ldc2_w 187, 3) := by decide +kernel
theorem dX10_handLine_40 : decode cX10_handLine 40 = .ok (.lcmp, 1) := by decide +kernel
theorem dX10_handLine_41 : decode cX10_handLine 41 = .ok (.ifCond .ne 7, 3) := by decide +kernel
theorem dX10_handLine_44 : decode cX10_handLine 44 = .ok (.iconst 3, 1) := by decide +kernel
theorem dX10_handLine_45 : decode cX10_handLine 45 = .ok (.goto 54, 3) := by decide +kernel
theorem dX10_handLine_48 : decode cX10_handLine 48 = .ok (.lload_n 1, 1) := by decide +kernel
theorem dX10_handLine_49 : decode cX10_handLine 49 = .ok (.ldc2_w 189, 3) := by decide +kernel
theorem dX10_handLine_52 : decode cX10_handLine 52 = .ok (.lcmp, 1) := by decide +kernel
theorem dX10_handLine_53 : decode cX10_handLine 53 = .ok (.ifCond .ne 7, 3) := by decide +kernel
theorem dX10_handLine_56 : decode cX10_handLine 56 = .ok (.iconst 4, 1) := by decide +kernel
theorem dX10_handLine_57 : decode cX10_handLine 57 = .ok (.goto 42, 3) := by decide +kernel
theorem dX10_handLine_60 : decode cX10_handLine 60 = .ok (.lload_n 1, 1) := by decide +kernel
theorem dX10_handLine_61 : decode cX10_handLine 61 = .ok (.ldc2_w 191, 3) := by decide +kernel
theorem dX10_handLine_64 : decode cX10_handLine 64 = .ok (.lcmp, 1) := by decide +kernel
theorem dX10_handLine_65 : decode cX10_handLine 65 = .ok (.ifCond .ne 7, 3) := by decide +kernel
theorem dX10_handLine_68 : decode cX10_handLine 68 = .ok (.iconst 5, 1) := by decide +kernel
theorem dX10_handLine_69 : decode cX10_handLine 69 = .ok (.goto 30, 3) := by decide +kernel
theorem dX10_handLine_72 : decode cX10_handLine 72 = .ok (.lload_n 1, 1) := by decide +kernel
theorem dX10_handLine_73 : decode cX10_handLine 73 = .ok (.ldc2_w 193, 3) := by decide +kernel
theorem dX10_handLine_76 : decode cX10_handLine 76 = .ok (.lcmp, 1) := by decide +kernel
theorem dX10_handLine_77 : decode cX10_handLine 77 = .ok (.ifCond .ne 8, 3) := by decide +kernel
theorem dX10_handLine_80 : decode cX10_handLine 80 = .ok (.bipush 6, 2) := by decide +kernel
theorem dX10_handLine_82 : decode cX10_handLine 82 = .ok (.goto 17, 3) := by decide +kernel
theorem dX10_handLine_85 : decode cX10_handLine 85 = .ok (.lload_n 1, 1) := by decide +kernel
theorem dX10_handLine_86 : decode cX10_handLine 86 = .ok (.ldc2_w 195, 3) := by decide +kernel
theorem dX10_handLine_89 : decode cX10_handLine 89 = .ok (.lcmp, 1) := by decide +kernel
theorem dX10_handLine_90 : decode cX10_handLine 90 = .ok (.ifCond .ne 8, 3) := by decide +kernel
theorem dX10_handLine_93 : decode cX10_handLine 93 = .ok (.bipush 7, 2) := by decide +kernel
theorem dX10_handLine_95 : decode cX10_handLine 95 = .ok (.goto 4, 3) := by decide +kernel
theorem dX10_handLine_98 : decode cX10_handLine 98 = .ok (.iconst (-1), 1) := by decide +kernel
theorem dX10_handLine_99 : decode cX10_handLine 99 = .ok (.istore 4, 2) := by decide +kernel
theorem dX10_handLine_101 : decode cX10_handLine 101 = .ok (.iload 4, 2) := by decide +kernel
theorem dX10_handLine_103 : decode cX10_handLine 103 = .ok (.iconst (-1), 1) := by decide +kernel
theorem dX10_handLine_104 : decode cX10_handLine 104 = .ok (.if_icmp .ne 24, 3) := by decide +kernel
theorem dX10_handLine_107 : decode cX10_handLine 107 = .ok (.lload_n 1, 1) := by decide +kernel
theorem dX10_handLine_108 : decode cX10_handLine 108 = .ok (.ldc2_w 197, 3) := by decide +kernel
theorem dX10_handLine_111 : decode cX10_handLine 111 = .ok (.lcmp, 1) := by decide +kernel
theorem dX10_handLine_112 : decode cX10_handLine 112 = .ok (.ifCond .eq 16, 3) := by decide +kernel
theorem dX10_handLine_115 : decode cX10_handLine 115 = .ok (.lload_n 1, 1) := by decide +kernel
theorem dX10_handLine_116 : decode cX10_handLine 116 = .ok (.ldc2_w 199, 3) := by decide +kernel
theorem dX10_handLine_119 : decode cX10_handLine 119 = .ok (.lcmp, 1) := by decide +kernel
theorem dX10_handLine_120 : decode cX10_handLine 120 = .ok (.ifCond .eq 8, 3) := by decide +kernel
theorem dX10_handLine_123 : decode cX10_handLine 123 = .ok (.aload_n 0, 1) := by decide +kernel
theorem dX10_handLine_124 : decode cX10_handLine 124 = .ok (.invokevirtual 129, 3) := by decide +kernel
theorem dX10_handLine_127 : decode cX10_handLine 127 = .ok (.ireturn, 1) := by decide +kernel
theorem dX10_handLine_128 : decode cX10_handLine 128 = .ok (.lload_n 1, 1) := by decide +kernel
theorem dX10_handLine_129 : decode cX10_handLine 129 = .ok (.ldc2_w 199, 3) := by decide +kernel
theorem dX10_handLine_132 : decode cX10_handLine 132 = .ok (.lcmp, 1) := by decide +kernel
theorem dX10_handLine_133 : decode cX10_handLine 133 = .ok (.ifCond .ne 20, 3) := by decide +kernel
theorem dX10_handLine_136 : decode cX10_handLine 136 = .ok (.aload_n 0, 1) := by decide +kernel
theorem dX10_handLine_137 : decode cX10_handLine 137 = .ok (.getfield 38, 3) := by decide +kernel
theorem dX10_handLine_140 : decode cX10_handLine 140 = .ok (.bipush 9, 2) := by decide +kernel
theorem dX10_handLine_142 : decode cX10_handLine 142 = .ok (.iaload, 1) := by decide +kernel
theorem dX10_handLine_143 : decode cX10_handLine 143 = .ok (.iconst 4, 1) := by decide +kernel
theorem dX10_handLine_144 : decode cX10_handLine 144 = .ok (.if_icmp .ne 9, 3) := by decide +kernel
theorem dX10_handLine_147 : decode cX10_handLine 147 = .ok (.aload_n 0, 1) := by decide +kernel
theorem dX10_handLine_148 : decode cX10_handLine 148 = .ok (.iconst 3, 1) := by decide +kernel
theorem dX10_handLine_149 : decode cX10_handLine 149 = .ok (.iload_n 3, 1) := by decide +kernel
theorem dX10_handLine_150 : decode cX10_handLine 150 = .ok (.invokevirtual 136, 3) := by decide +kernel
theorem dX10_handLine_153 : decode cX10_handLine 153 = .ok (.aload_n 0, 1) := by decide +kernel
theorem dX10_handLine_154 : decode cX10_handLine 154 = .ok (.invokevirtual 140, 3) := by decide +kernel
theorem dX10_handLine_157 : decode cX10_handLine 157 = .ok (.lload_n 1, 1) := by decide +kernel
theorem dX10_handLine_158 : decode cX10_handLine 158 = .ok (.ldc2_w 197, 3) := by decide +kernel
theorem dX10_handLine_161 : decode cX10_handLine 161 = .ok (.lcmp, 1) := by decide +kernel
theorem dX10_handLine_162 : decode cX10_handLine 162 = .ok (.ifCond .ne 13, 3) := by decide +kernel
theorem dX10_handLine_165 : decode cX10_handLine 165 = .ok (.aload_n 0, 1) := by decide +kernel
theorem dX10_handLine_166 : decode cX10_handLine 166 = .ok (.getfield 38, 3) := by decide +kernel
theorem dX10_handLine_169 : decode cX10_handLine 169 = .ok (.bipush 8, 2) := by decide +kernel
theorem dX10_handLine_171 : decode cX10_handLine 171 = .ok (.iconst 1, 1) := by decide +kernel
theorem dX10_handLine_172 : decode cX10_handLine 172 = .ok (.iastore, 1) := by decide +kernel
theorem dX10_handLine_173 : decode cX10_handLine 173 = .ok (.iconst 1, 1) := by decide +kernel
theorem dX10_handLine_174 : decode cX10_handLine 174 = .ok (.ireturn, 1) := by decide +kernel
theorem dX10_handLine_175 : decode cX10_handLine 175 = .ok (.lload_n 1, 1) := by decide +kernel
theorem dX10_handLine_176 : decode cX10_handLine 176 = .ok (.ldc2_w 199, 3) := by decide +kernel
theorem dX10_handLine_179 : decode cX10_handLine 179 = .ok (.lcmp, 1) := by decide +kernel
theorem dX10_handLine_180 : decode cX10_handLine 180 = .ok (.ifCond .ne 114, 3) := by decide +kernel
theorem dX10_handLine_183 : decode cX10_handLine 183 = .ok (.aload_n 0, 1) := by decide +kernel
theorem dX10_handLine_184 : decode cX10_handLine 184 = .ok (.iconst 0, 1) := by decide +kernel
theorem dX10_handLine_185 : decode cX10_handLine 185 = .ok (.sipush 999, 3) := by decide +kernel
theorem dX10_handLine_188 : decode cX10_handLine 188 = .ok (.invokevirtual 143, 3) := by decide +kernel
theorem dX10_handLine_191 : decode cX10_handLine 191 = .ok (.ifCond .ne 5, 3) := by decide +kernel
theorem dX10_handLine_194 : decode cX10_handLine 194 = .ok (.iconst 0, 1) := by decide +kernel
theorem dX10_handLine_195 : decode cX10_handLine 195 = .ok (.ireturn, 1) := by decide +kernel
theorem dX10_handLine_196 : decode cX10_handLine 196 = .ok (.aload_n 0, 1) := by decide +kernel
theorem dX10_handLine_197 : decode cX10_handLine 197 = .ok (.getfield 133, 3) := by decide +kernel
theorem dX10_handLine_200 : decode cX10_handLine 200 = .ok (.istore 5, 2) := by decide +kernel
theorem dX10_handLine_202 : decode cX10_handLine 202 = .ok (.aload_n 0, 1) := by decide +kernel
theorem dX10_handLine_203 : decode cX10_handLine 203 = .ok (.iload 5, 2) := by decide +kernel
theorem dX10_handLine_205 : decode cX10_handLine 205 = .ok (.sipush 999, 3) := by decide +kernel
theorem dX10_handLine_208 : decode cX10_handLine 208 = .ok (.if_icmp .ge 8, 3) := by decide +kernel
theorem dX10_handLine_211 : decode cX10_handLine 211 = .ok (.iload 5, 2) := by decide +kernel
theorem dX10_handLine_213 : decode cX10_handLine 213 = .ok (.goto 6, 3) := by decide +kernel
theorem dX10_handLine_216 : decode cX10_handLine 216 = .ok (.sipush 999, 3) := by decide +kernel
theorem dX10_handLine_219 : decode cX10_handLine 219 = .ok (.sipush 999, 3) := by decide +kernel
theorem dX10_handLine_222 : decode cX10_handLine 222 = .ok (.invokevirtual 143, 3) := by decide +kernel
theorem dX10_handLine_225 : decode cX10_handLine 225 = .ok (.ifCond .ne 5, 3) := by decide +kernel
theorem dX10_handLine_228 : decode cX10_handLine 228 = .ok (.iconst 0, 1) := by decide +kernel
theorem dX10_handLine_229 : decode cX10_handLine 229 = .ok (.ireturn, 1) := by decide +kernel
theorem dX10_handLine_230 : decode cX10_handLine 230 = .ok (.aload_n 0, 1) := by decide +kernel
theorem dX10_handLine_231 : decode cX10_handLine 231 = .ok (.getfield 38, 3) := by decide +kernel
theorem dX10_handLine_234 : decode cX10_handLine 234 = .ok (.bipush 9, 2) := by decide +kernel
theorem dX10_handLine_236 : decode cX10_handLine 236 = .ok (.iaload, 1) := by decide +kernel
theorem dX10_handLine_237 : decode cX10_handLine 237 = .ok (.iconst 4, 1) := by decide +kernel
theorem dX10_handLine_238 : decode cX10_handLine 238 = .ok (.if_icmp .ge 54, 3) := by decide +kernel
theorem dX10_handLine_241 : decode cX10_handLine 241 = .ok (.aload_n 0, 1) := by decide +kernel
theorem dX10_handLine_242 : decode cX10_handLine 242 = .ok (.getfield 38, 3) := by decide +kernel
theorem dX10_handLine_245 : decode cX10_handLine 245 = .ok (.bipush 10, 2) := by decide +kernel
theorem dX10_handLine_247 : decode cX10_handLine 247 = .ok (.iconst 2, 1) := by decide +kernel
theorem dX10_handLine_248 : decode cX10_handLine 248 = .ok (.aload_n 0, 1) := by decide +kernel
theorem dX10_handLine_249 : decode cX10_handLine 249 = .ok (.getfield 38, 3) := by decide +kernel
theorem dX10_handLine_252 : decode cX10_handLine 252 = .ok (.bipush 9, 2) := by decide +kernel
theorem dX10_handLine_254 : decode cX10_handLine 254 = .ok (.iaload, 1) := by decide +kernel
theorem dX10_handLine_255 : decode cX10_handLine 255 = .ok (.imul, 1) := by decide +kernel
theorem dX10_handLine_256 : decode cX10_handLine 256 = .ok (.iadd, 1) := by decide +kernel
theorem dX10_handLine_257 : decode cX10_handLine 257 = .ok (.iload 5, 2) := by decide +kernel
theorem dX10_handLine_259 : decode cX10_handLine 259 = .ok (.iastore, 1) := by decide +kernel
theorem dX10_handLine_260 : decode cX10_handLine 260 = .ok (.aload_n 0, 1) := by decide +kernel
theorem dX10_handLine_261 : decode cX10_handLine 261 = .ok (.getfield 38, 3) := by decide +kernel
theorem dX10_handLine_264 : decode cX10_handLine 264 = .ok (.bipush 11, 2) := by decide +kernel
theorem dX10_handLine_266 : decode cX10_handLine 266 = .ok (.iconst 2, 1) := by decide +kernel
theorem dX10_handLine_267 : decode cX10_handLine 267 = .ok (.aload_n 0, 1) := by decide +kernel
theorem dX10_handLine_268 : decode cX10_handLine 268 = .ok (.getfield 38, 3) := by decide +kernel
theorem dX10_handLine_271 : decode cX10_handLine 271 = .ok (.bipush 9, 2) := by decide +kernel
theorem dX10_handLine_273 : decode cX10_handLine 273 = .ok (.iaload, 1) := by decide +kernel
theorem dX10_handLine_274 : decode cX10_handLine 274 = .ok (.imul, 1) := by decide +kernel
theorem dX10_handLine_275 : decode cX10_handLine 275 = .ok (.iadd, 1) := by decide +kernel
theorem dX10_handLine_276 : decode cX10_handLine 276 = .ok (.aload_n 0, 1) := by decide +kernel
theorem dX10_handLine_277 : decode cX10_handLine 277 = .ok (.getfield 133, 3) := by decide +kernel
theorem dX10_handLine_280 : decode cX10_handLine 280 = .ok (.iastore, 1) := by decide +kernel
theorem dX10_handLine_281 : decode cX10_handLine 281 = .ok (.aload_n 0, 1) := by decide +kernel
theorem dX10_handLine_282 : decode cX10_handLine 282 = .ok (.getfield 38, 3) := by decide +kernel
theorem dX10_handLine_285 : decode cX10_handLine 285 = .ok (.bipush 9, 2) := by decide +kernel
theorem dX10_handLine_287 : decode cX10_handLine 287 = .ok (.dup2, 1) := by decide +kernel
theorem dX10_handLine_288 : decode cX10_handLine 288 = .ok (.iaload, 1) := by decide +kernel
theorem dX10_handLine_289 : decode cX10_handLine 289 = .ok (.iconst 1, 1) := by decide +kernel
theorem dX10_handLine_290 : decode cX10_handLine 290 = .ok (.iadd, 1) := by decide +kernel
theorem dX10_handLine_291 : decode cX10_handLine 291 = .ok (.iastore, 1) := by decide +kernel
theorem dX10_handLine_292 : decode cX10_handLine 292 = .ok (.iconst 1, 1) := by decide +kernel
theorem dX10_handLine_293 : decode cX10_handLine 293 = .ok (.ireturn, 1) := by decide +kernel
theorem dX10_handLine_294 : decode cX10_handLine 294 = .ok (.aload_n 0, 1) := by decide +kernel
theorem dX10_handLine_295 : decode cX10_handLine 295 = .ok (.iload 4, 2) := by decide +kernel
theorem dX10_handLine_297 : decode cX10_handLine 297 = .ok (.iload 4, 2) := by decide +kernel
theorem dX10_handLine_299 : decode cX10_handLine 299 = .ok (.iconst 4, 1) := by decide +kernel
theorem dX10_handLine_300 : decode cX10_handLine 300 = .ok (.if_icmp .ne 7, 3) := by decide +kernel
theorem dX10_handLine_303 : decode cX10_handLine 303 = .ok (.iconst 1, 1) := by decide +kernel
theorem dX10_handLine_304 : decode cX10_handLine 304 = .ok (.goto 4, 3) := by decide +kernel
theorem dX10_handLine_307 : decode cX10_handLine 307 = .ok (.iconst 0, 1) := by decide +kernel
theorem dX10_handLine_308 : decode cX10_handLine 308 = .ok (.iload 4, 2) := by decide +kernel
theorem dX10_handLine_310 : decode cX10_handLine 310 = .ok (.iconst 2, 1) := by decide +kernel
theorem dX10_handLine_311 : decode cX10_handLine 311 = .ok (.if_icmp .gt 8, 3) := by decide +kernel
theorem dX10_handLine_314 : decode cX10_handLine 314 = .ok (.bipush 99, 2) := by decide +kernel
theorem dX10_handLine_316 : decode cX10_handLine 316 = .ok (.goto 18, 3) := by decide +kernel
theorem dX10_handLine_319 : decode cX10_handLine 319 = .ok (.iload 4, 2) := by decide +kernel
theorem dX10_handLine_321 : decode cX10_handLine 321 = .ok (.bipush 7, 2) := by decide +kernel
theorem dX10_handLine_323 : decode cX10_handLine 323 = .ok (.if_icmp .ne 8, 3) := by decide +kernel
theorem dX10_handLine_326 : decode cX10_handLine 326 = .ok (.bipush 100, 2) := by decide +kernel
theorem dX10_handLine_328 : decode cX10_handLine 328 = .ok (.goto 6, 3) := by decide +kernel
theorem dX10_handLine_331 : decode cX10_handLine 331 = .ok (.sipush 999, 3) := by decide +kernel
theorem dX10_handLine_334 : decode cX10_handLine 334 = .ok (.invokevirtual 178, 3) := by decide +kernel
theorem dX10_handLine_337 : decode cX10_handLine 337 = .ok (.ireturn, 1) := by decide +kernel
set_option maxRecDepth 20000 in
theorem dX10_paperLine_0 : decode cX10_paperLine 0 = .ok (.lload_n 1, 1) := by decide +kernel
theorem dX10_paperLine_1 : decode cX10_paperLine 1 = .ok (.ldc2_w 201, 3) := by decide +kernel
theorem dX10_paperLine_4 : decode cX10_paperLine 4 = .ok (.lcmp, 1) := by decide +kernel
theorem dX10_paperLine_5 : decode cX10_paperLine 5 = .ok (.ifCond .eq 8, 3) := by decide +kernel
theorem dX10_paperLine_8 : decode cX10_paperLine 8 = .ok (.aload_n 0, 1) := by decide +kernel
theorem dX10_paperLine_9 : decode cX10_paperLine 9 = .ok (.invokevirtual 129, 3) := by decide +kernel
theorem dX10_paperLine_12 : decode cX10_paperLine 12 = .ok (.ireturn, 1) := by decide +kernel
theorem dX10_paperLine_13 : decode cX10_paperLine 13 = .ok (.aload_n 0, 1) := by decide +kernel
theorem dX10_paperLine_14 : decode cX10_paperLine 14 = .ok (.invokevirtual 140, 3) := by decide +kernel
theorem dX10_paperLine_17 : decode cX10_paperLine 17 = .ok (.aload_n 0, 1) := by decide +kernel
theorem dX10_paperLine_18 : decode cX10_paperLine 18 = .ok (.iconst 0, 1) := by decide +kernel
theorem dX10_paperLine_19 : decode cX10_paperLine 19 = .ok (.iconst 1, 1) := by decide +kernel
theorem dX10_paperLine_20 : decode cX10_paperLine 20 = .ok (.bipush 60, 2) := by decide +kernel
theorem dX10_paperLine_22 : decode cX10_paperLine 22 = .ok (.sipush 9999, 3) := by decide +kernel
theorem dX10_paperLine_25 : decode cX10_paperLine 25 = .ok (.invokevirtual 174, 3) := by decide +kernel
theorem dX10_paperLine_28 : decode cX10_paperLine 28 = .ok (.ireturn, 1) := by decide +kernel
set_option maxRecDepth 20000 in
theorem dX10_watchLine_0 : decode cX10_watchLine 0 = .ok (.lload_n 1, 1) := by decide +kernel
theorem dX10_watchLine_1 : decode cX10_watchLine 1 = .ok (.ldc2_w 203, 3) := by decide +kernel
theorem dX10_watchLine_4 : decode cX10_watchLine 4 = .ok (.lcmp, 1) := by decide +kernel
theorem dX10_watchLine_5 : decode cX10_watchLine 5 = .ok (.ifCond .eq 8, 3) := by decide +kernel
theorem dX10_watchLine_8 : decode cX10_watchLine 8 = .ok (.aload_n 0, 1) := by decide +kernel
theorem dX10_watchLine_9 : decode cX10_watchLine 9 = .ok (.invokevirtual 129, 3) := by decide +kernel
theorem dX10_watchLine_12 : decode cX10_watchLine 12 = .ok (.ireturn, 1) := by decide +kernel
theorem dX10_watchLine_13 : decode cX10_watchLine 13 = .ok (.aload_n 0, 1) := by decide +kernel
theorem dX10_watchLine_14 : decode cX10_watchLine 14 = .ok (.getfield 38, 3) := by decide +kernel
theorem dX10_watchLine_17 : decode cX10_watchLine 17 = .ok (.iconst 0, 1) := by decide +kernel
theorem dX10_watchLine_18 : decode cX10_watchLine 18 = .ok (.iaload, 1) := by decide +kernel
theorem dX10_watchLine_19 : decode cX10_watchLine 19 = .ok (.istore 4, 2) := by decide +kernel
theorem dX10_watchLine_21 : decode cX10_watchLine 21 = .ok (.iload 4, 2) := by decide +kernel
theorem dX10_watchLine_23 : decode cX10_watchLine 23 = .ok (.bipush 8, 2) := by decide +kernel
theorem dX10_watchLine_25 : decode cX10_watchLine 25 = .ok (.if_icmp .ne 9, 3) := by decide +kernel
theorem dX10_watchLine_28 : decode cX10_watchLine 28 = .ok (.aload_n 0, 1) := by decide +kernel
theorem dX10_watchLine_29 : decode cX10_watchLine 29 = .ok (.iconst 3, 1) := by decide +kernel
theorem dX10_watchLine_30 : decode cX10_watchLine 30 = .ok (.iload_n 3, 1) := by decide +kernel
theorem dX10_watchLine_31 : decode cX10_watchLine 31 = .ok (.invokevirtual 136, 3) := by decide +kernel
theorem dX10_watchLine_34 : decode cX10_watchLine 34 = .ok (.aload_n 0, 1) := by decide +kernel
theorem dX10_watchLine_35 : decode cX10_watchLine 35 = .ok (.invokevirtual 140, 3) := by decide +kernel
theorem dX10_watchLine_38 : decode cX10_watchLine 38 = .ok (.aload_n 0, 1) := by decide +kernel
theorem dX10_watchLine_39 : decode cX10_watchLine 39 = .ok (.iconst 0, 1) := by decide +kernel
theorem dX10_watchLine_40 : decode cX10_watchLine 40 = .ok (.iconst 3, 1) := by decide +kernel
theorem dX10_watchLine_41 : decode cX10_watchLine 41 = .ok (.invokevirtual 143, 3) := by decide +kernel
theorem dX10_watchLine_44 : decode cX10_watchLine 44 = .ok (.ifCond .ne 5, 3) := by decide +kernel
theorem dX10_watchLine_47 : decode cX10_watchLine 47 = .ok (.iconst 0, 1) := by decide +kernel
theorem dX10_watchLine_48 : decode cX10_watchLine 48 = .ok (.ireturn, 1) := by decide +kernel
theorem dX10_watchLine_49 : decode cX10_watchLine 49 = .ok (.aload_n 0, 1) := by decide +kernel
theorem dX10_watchLine_50 : decode cX10_watchLine 50 = .ok (.getfield 133, 3) := by decide +kernel
theorem dX10_watchLine_53 : decode cX10_watchLine 53 = .ok (.istore 5, 2) := by decide +kernel
theorem dX10_watchLine_55 : decode cX10_watchLine 55 = .ok (.aload_n 0, 1) := by decide +kernel
theorem dX10_watchLine_56 : decode cX10_watchLine 56 = .ok (.iconst 1, 1) := by decide +kernel
theorem dX10_watchLine_57 : decode cX10_watchLine 57 = .ok (.sipush 200, 3) := by decide +kernel
theorem dX10_watchLine_60 : decode cX10_watchLine 60 = .ok (.invokevirtual 143, 3) := by decide +kernel
theorem dX10_watchLine_63 : decode cX10_watchLine 63 = .ok (.ifCond .ne 5, 3) := by decide +kernel
theorem dX10_watchLine_66 : decode cX10_watchLine 66 = .ok (.iconst 0, 1) := by decide +kernel
theorem dX10_watchLine_67 : decode cX10_watchLine 67 = .ok (.ireturn, 1) := by decide +kernel
theorem dX10_watchLine_68 : decode cX10_watchLine 68 = .ok (.iload 4, 2) := by decide +kernel
theorem dX10_watchLine_70 : decode cX10_watchLine 70 = .ok (.bipush 8, 2) := by decide +kernel
theorem dX10_watchLine_72 : decode cX10_watchLine 72 = .ok (.if_icmp .ge 41, 3) := by decide +kernel
theorem dX10_watchLine_75 : decode cX10_watchLine 75 = .ok (.aload_n 0, 1) := by decide +kernel
theorem dX10_watchLine_76 : decode cX10_watchLine 76 = .ok (.getfield 38, 3) := by decide +kernel
theorem dX10_watchLine_79 : decode cX10_watchLine 79 = .ok (.iconst 1, 1) := by decide +kernel
theorem dX10_watchLine_80 : decode cX10_watchLine 80 = .ok (.iconst 2, 1) := by decide +kernel
theorem dX10_watchLine_81 : decode cX10_watchLine 81 = .ok (.iload 4, 2) := by decide +kernel
theorem dX10_watchLine_83 : decode cX10_watchLine 83 = .ok (.imul, 1) := by decide +kernel
theorem dX10_watchLine_84 : decode cX10_watchLine 84 = .ok (.iadd, 1) := by decide +kernel
theorem dX10_watchLine_85 : decode cX10_watchLine 85 = .ok (.iload 5, 2) := by decide +kernel
theorem dX10_watchLine_87 : decode cX10_watchLine 87 = .ok (.iastore, 1) := by decide +kernel
theorem dX10_watchLine_88 : decode cX10_watchLine 88 = .ok (.aload_n 0, 1) := by decide +kernel
theorem dX10_watchLine_89 : decode cX10_watchLine 89 = .ok (.getfield 38, 3) := by decide +kernel
theorem dX10_watchLine_92 : decode cX10_watchLine 92 = .ok (.iconst 2, 1) := by decide +kernel
theorem dX10_watchLine_93 : decode cX10_watchLine 93 = .ok (.iconst 2, 1) := by decide +kernel
theorem dX10_watchLine_94 : decode cX10_watchLine 94 = .ok (.iload 4, 2) := by decide +kernel
theorem dX10_watchLine_96 : decode cX10_watchLine 96 = .ok (.imul, 1) := by decide +kernel
theorem dX10_watchLine_97 : decode cX10_watchLine 97 = .ok (.iadd, 1) := by decide +kernel
theorem dX10_watchLine_98 : decode cX10_watchLine 98 = .ok (.aload_n 0, 1) := by decide +kernel
theorem dX10_watchLine_99 : decode cX10_watchLine 99 = .ok (.getfield 133, 3) := by decide +kernel
theorem dX10_watchLine_102 : decode cX10_watchLine 102 = .ok (.iastore, 1) := by decide +kernel
theorem dX10_watchLine_103 : decode cX10_watchLine 103 = .ok (.aload_n 0, 1) := by decide +kernel
theorem dX10_watchLine_104 : decode cX10_watchLine 104 = .ok (.getfield 38, 3) := by decide +kernel
theorem dX10_watchLine_107 : decode cX10_watchLine 107 = .ok (.iconst 0, 1) := by decide +kernel
theorem dX10_watchLine_108 : decode cX10_watchLine 108 = .ok (.dup2, 1) := by decide +kernel
theorem dX10_watchLine_109 : decode cX10_watchLine 109 = .ok (.iaload, 1) := by decide +kernel
theorem dX10_watchLine_110 : decode cX10_watchLine 110 = .ok (.iconst 1, 1) := by decide +kernel
theorem dX10_watchLine_111 : decode cX10_watchLine 111 = .ok (.iadd, 1) := by decide +kernel
theorem dX10_watchLine_112 : decode cX10_watchLine 112 = .ok (.iastore, 1) := by decide +kernel
theorem dX10_watchLine_113 : decode cX10_watchLine 113 = .ok (.iconst 1, 1) := by decide +kernel
theorem dX10_watchLine_114 : decode cX10_watchLine 114 = .ok (.ireturn, 1) := by decide +kernel
theorem dX10_clear_0 : decode cX10_clear 0 = .ok (.iconst 0, 1) := by decide +kernel
theorem dX10_clear_1 : decode cX10_clear 1 = .ok (.istore_n 2, 1) := by decide +kernel
theorem dX10_clear_2 : decode cX10_clear 2 = .ok (.iload_n 2, 1) := by decide +kernel
theorem dX10_clear_3 : decode cX10_clear 3 = .ok (.bipush 61, 2) := by decide +kernel
theorem dX10_clear_5 : decode cX10_clear 5 = .ok (.if_icmp .ge 16, 3) := by decide +kernel
theorem dX10_clear_8 : decode cX10_clear 8 = .ok (.aload_n 0, 1) := by decide +kernel
theorem dX10_clear_9 : decode cX10_clear 9 = .ok (.getfield 38, 3) := by decide +kernel
theorem dX10_clear_12 : decode cX10_clear 12 = .ok (.iload_n 2, 1) := by decide +kernel
theorem dX10_clear_13 : decode cX10_clear 13 = .ok (.iconst 0, 1) := by decide +kernel
theorem dX10_clear_14 : decode cX10_clear 14 = .ok (.iastore, 1) := by decide +kernel
theorem dX10_clear_15 : decode cX10_clear 15 = .ok (.iinc 2 1, 3) := by decide +kernel
theorem dX10_clear_18 : decode cX10_clear 18 = .ok (.goto (-16), 3) := by decide +kernel
theorem dX10_clear_21 : decode cX10_clear 21 = .ok (.iload_n 1, 1) := by decide +kernel
theorem dX10_clear_22 : decode cX10_clear 22 = .ok (.ifCond .ne 42, 3) := by decide +kernel
theorem dX10_clear_25 : decode cX10_clear 25 = .ok (.aload_n 0, 1) := by decide +kernel
theorem dX10_clear_26 : decode cX10_clear 26 = .ok (.getfield 38, 3) := by decide +kernel
theorem dX10_clear_29 : decode cX10_clear 29 = .ok (.iconst 0, 1) := by decide +kernel
theorem dX10_clear_30 : decode cX10_clear 30 = .ok (.iconst 5, 1) := by decide +kernel
theorem dX10_clear_31 : decode cX10_clear 31 = .ok (.iastore, 1) := by decide +kernel
theorem dX10_clear_32 : decode cX10_clear 32 = .ok (.aload_n 0, 1) := by decide +kernel
theorem dX10_clear_33 : decode cX10_clear 33 = .ok (.getfield 38, 3) := by decide +kernel
theorem dX10_clear_36 : decode cX10_clear 36 = .ok (.iconst 1, 1) := by decide +kernel
theorem dX10_clear_37 : decode cX10_clear 37 = .ok (.bipush 10, 2) := by decide +kernel
theorem dX10_clear_39 : decode cX10_clear 39 = .ok (.iastore, 1) := by decide +kernel
theorem dX10_clear_40 : decode cX10_clear 40 = .ok (.aload_n 0, 1) := by decide +kernel
theorem dX10_clear_41 : decode cX10_clear 41 = .ok (.getfield 38, 3) := by decide +kernel
theorem dX10_clear_44 : decode cX10_clear 44 = .ok (.iconst 3, 1) := by decide +kernel
theorem dX10_clear_45 : decode cX10_clear 45 = .ok (.bipush 35, 2) := by decide +kernel
theorem dX10_clear_47 : decode cX10_clear 47 = .ok (.iastore, 1) := by decide +kernel
theorem dX10_clear_48 : decode cX10_clear 48 = .ok (.aload_n 0, 1) := by decide +kernel
theorem dX10_clear_49 : decode cX10_clear 49 = .ok (.getfield 38, 3) := by decide +kernel
theorem dX10_clear_52 : decode cX10_clear 52 = .ok (.iconst 4, 1) := by decide +kernel
theorem dX10_clear_53 : decode cX10_clear 53 = .ok (.bipush 35, 2) := by decide +kernel
theorem dX10_clear_55 : decode cX10_clear 55 = .ok (.iastore, 1) := by decide +kernel
theorem dX10_clear_56 : decode cX10_clear 56 = .ok (.aload_n 0, 1) := by decide +kernel
theorem dX10_clear_57 : decode cX10_clear 57 = .ok (.getfield 38, 3) := by decide +kernel
theorem dX10_clear_60 : decode cX10_clear 60 = .ok (.bipush 10, 2) := by decide +kernel
theorem dX10_clear_62 : decode cX10_clear 62 = .ok (.iconst 1, 1) := by decide +kernel
theorem dX10_clear_63 : decode cX10_clear 63 = .ok (.iastore, 1) := by decide +kernel
theorem dX10_clear_64 : decode cX10_clear 64 = .ok (.aload_n 0, 1) := by decide +kernel
theorem dX10_clear_65 : decode cX10_clear 65 = .ok (.getfield 38, 3) := by decide +kernel
theorem dX10_clear_68 : decode cX10_clear 68 = .ok (.iconst 4, 1) := by decide +kernel
theorem dX10_clear_69 : decode cX10_clear 69 = .ok (.iload_n 1, 1) := by decide +kernel
theorem dX10_clear_70 : decode cX10_clear 70 = .ok (.iconst 1, 1) := by decide +kernel
theorem dX10_clear_71 : decode cX10_clear 71 = .ok (.if_icmp .ne 7, 3) := by decide +kernel
theorem dX10_clear_74 : decode cX10_clear 74 = .ok (.iconst 1, 1) := by decide +kernel
theorem dX10_clear_75 : decode cX10_clear 75 = .ok (.goto 9, 3) := by decide +kernel
theorem dX10_clear_78 : decode cX10_clear 78 = .ok (.aload_n 0, 1) := by decide +kernel
theorem dX10_clear_79 : decode cX10_clear 79 = .ok (.getfield 38, 3) := by decide +kernel
theorem dX10_clear_82 : decode cX10_clear 82 = .ok (.iconst 4, 1) := by decide +kernel
theorem dX10_clear_83 : decode cX10_clear 83 = .ok (.iaload, 1) := by decide +kernel
theorem dX10_clear_84 : decode cX10_clear 84 = .ok (.iastore, 1) := by decide +kernel
theorem dX10_clear_85 : decode cX10_clear 85 = .ok (.return_, 1) := by decide +kernel
set_option maxRecDepth 20000 in
theorem dX10_readText_0 : decode cX10_readText 0 = .ok (.aload_n 0, 1) := by decide +kernel
theorem dX10_readText_1 : decode cX10_readText 1 = .ok (.iload_n 1, 1) := by decide +kernel
theorem dX10_readText_2 : decode cX10_readText 2 = .ok (.invokevirtual 205, 3) := by decide +kernel
theorem dX10_readText_5 : decode cX10_readText 5 = .ok (.aload_n 0, 1) := by decide +kernel
theorem dX10_readText_6 : decode cX10_readText 6 = .ok (.iconst 0, 1) := by decide +kernel
theorem dX10_readText_7 : decode cX10_readText 7 = .ok (.putfield 97, 3) := by decide +kernel
theorem dX10_readText_10 : decode cX10_readText 10 = .ok (.aload_n 0, 1) := by decide +kernel
theorem dX10_readText_11 : decode cX10_readText 11 = .ok (.iconst 0, 1) := by decide +kernel
theorem dX10_readText_12 : decode cX10_readText 12 = .ok (.putfield 123, 3) := by decide +kernel
theorem dX10_readText_15 : decode cX10_readText 15 = .ok (.iconst 1, 1) := by decide +kernel
theorem dX10_readText_16 : decode cX10_readText 16 = .ok (.istore_n 2, 1) := by decide +kernel
theorem dX10_readText_17 : decode cX10_readText 17 = .ok (.aload_n 0, 1) := by decide +kernel
theorem dX10_readText_18 : decode cX10_readText 18 = .ok (.invokevirtual 140, 3) := by decide +kernel
theorem dX10_readText_21 : decode cX10_readText 21 = .ok (.iload_n 2, 1) := by decide +kernel
theorem dX10_readText_22 : decode cX10_readText 22 = .ok (.ifCond .eq 111, 3) := by decide +kernel
theorem dX10_readText_25 : decode cX10_readText 25 = .ok (.aload_n 0, 1) := by decide +kernel
theorem dX10_readText_26 : decode cX10_readText 26 = .ok (.getfield 114, 3) := by decide +kernel
theorem dX10_readText_29 : decode cX10_readText 29 = .ok (.ifCond .eq 104, 3) := by decide +kernel
theorem dX10_readText_32 : decode cX10_readText 32 = .ok (.aload_n 0, 1) := by decide +kernel
theorem dX10_readText_33 : decode cX10_readText 33 = .ok (.getfield 107, 3) := by decide +kernel
theorem dX10_readText_36 : decode cX10_readText 36 = .ok (.istore_n 3, 1) := by decide +kernel
theorem dX10_readText_37 : decode cX10_readText 37 = .ok (.aload_n 0, 1) := by decide +kernel
theorem dX10_readText_38 : decode cX10_readText 38 = .ok (.getfield 114, 3) := by decide +kernel
theorem dX10_readText_41 : decode cX10_readText 41 = .ok (.iconst 2, 1) := by decide +kernel
theorem dX10_readText_42 : decode cX10_readText 42 = .ok (.if_icmp .ne 10, 3) := by decide +kernel
theorem dX10_readText_45 : decode cX10_readText 45 = .ok (.aload_n 0, 1) := by decide +kernel
theorem dX10_readText_46 : decode cX10_readText 46 = .ok (.getfield 110, 3) := by decide +kernel
theorem dX10_readText_49 : decode cX10_readText 49 = .ok (.goto 4, 3) := by decide +kernel
theorem dX10_readText_52 : decode cX10_readText 52 = .ok (.lconst 0, 1) := by decide +kernel
theorem dX10_readText_53 : decode cX10_readText 53 = .ok (.lstore 4, 2) := by decide +kernel
theorem dX10_readText_55 : decode cX10_readText 55 = .ok (.iload_n 1, 1) := by decide +kernel
theorem dX10_readText_56 : decode cX10_readText 56 = .ok (.ifCond .ne 12, 3) := by decide +kernel
theorem dX10_readText_59 : decode cX10_readText 59 = .ok (.aload_n 0, 1) := by decide +kernel
theorem dX10_readText_60 : decode cX10_readText 60 = .ok (.lload 4, 2) := by decide +kernel
theorem dX10_readText_62 : decode cX10_readText 62 = .ok (.invokevirtual 208, 3) := by decide +kernel
theorem dX10_readText_65 : decode cX10_readText 65 = .ok (.goto 39, 3) := by decide +kernel
theorem dX10_readText_68 : decode cX10_readText 68 = .ok (.iload_n 1, 1) := by decide +kernel
theorem dX10_readText_69 : decode cX10_readText 69 = .ok (.iconst 1, 1) := by decide +kernel
theorem dX10_readText_70 : decode cX10_readText 70 = .ok (.if_icmp .ne 13, 3) := by decide +kernel
theorem dX10_readText_73 : decode cX10_readText 73 = .ok (.aload_n 0, 1) := by decide +kernel
theorem dX10_readText_74 : decode cX10_readText 74 = .ok (.lload 4, 2) := by decide +kernel
theorem dX10_readText_76 : decode cX10_readText 76 = .ok (.iload_n 3, 1) := by decide +kernel
theorem dX10_readText_77 : decode cX10_readText 77 = .ok (.invokevirtual 212, 3) := by decide +kernel
theorem dX10_readText_80 : decode cX10_readText 80 = .ok (.goto 24, 3) := by decide +kernel
theorem dX10_readText_83 : decode cX10_readText 83 = .ok (.iload_n 1, 1) := by decide +kernel
theorem dX10_readText_84 : decode cX10_readText 84 = .ok (.iconst 2, 1) := by decide +kernel
theorem dX10_readText_85 : decode cX10_readText 85 = .ok (.if_icmp .ne 12, 3) := by decide +kernel
theorem dX10_readText_88 : decode cX10_readText 88 = .ok (.aload_n 0, 1) := by decide +kernel
theorem dX10_readText_89 : decode cX10_readText 89 = .ok (.lload 4, 2) := by decide +kernel
theorem dX10_readText_91 : decode cX10_readText 91 = .ok (.invokevirtual 216, 3) := by decide +kernel
theorem dX10_readText_94 : decode cX10_readText 94 = .ok (.goto 10, 3) := by decide +kernel
theorem dX10_readText_97 : decode cX10_readText 97 = .ok (.aload_n 0, 1) := by decide +kernel
theorem dX10_readText_98 : decode cX10_readText 98 = .ok (.lload 4, 2) := by decide +kernel
theorem dX10_readText_100 : decode cX10_readText 100 = .ok (.iload_n 3, 1) := by decide +kernel
theorem dX10_readText_101 : decode cX10_readText 101 = .ok (.invokevirtual 219, 3) := by decide +kernel
theorem dX10_readText_104 : decode cX10_readText 104 = .ok (.istore_n 2, 1) := by decide +kernel
theorem dX10_readText_105 : decode cX10_readText 105 = .ok (.iload_n 2, 1) := by decide +kernel
theorem dX10_readText_106 : decode cX10_readText 106 = .ok (.ifCond .eq 16, 3) := by decide +kernel
theorem dX10_readText_109 : decode cX10_readText 109 = .ok (.aload_n 0, 1) := by decide +kernel
theorem dX10_readText_110 : decode cX10_readText 110 = .ok (.getfield 114, 3) := by decide +kernel
theorem dX10_readText_113 : decode cX10_readText 113 = .ok (.iconst 4, 1) := by decide +kernel
theorem dX10_readText_114 : decode cX10_readText 114 = .ok (.if_icmp .eq 8, 3) := by decide +kernel
theorem dX10_readText_117 : decode cX10_readText 117 = .ok (.aload_n 0, 1) := by decide +kernel
theorem dX10_readText_118 : decode cX10_readText 118 = .ok (.invokevirtual 129, 3) := by decide +kernel
theorem dX10_readText_121 : decode cX10_readText 121 = .ok (.istore_n 2, 1) := by decide +kernel
theorem dX10_readText_122 : decode cX10_readText 122 = .ok (.iload_n 2, 1) := by decide +kernel
theorem dX10_readText_123 : decode cX10_readText 123 = .ok (.ifCond .eq 7, 3) := by decide +kernel
theorem dX10_readText_126 : decode cX10_readText 126 = .ok (.aload_n 0, 1) := by decide +kernel
theorem dX10_readText_127 : decode cX10_readText 127 = .ok (.invokevirtual 140, 3) := by decide +kernel
theorem dX10_readText_130 : decode cX10_readText 130 = .ok (.goto (-109), 3) := by decide +kernel
theorem dX10_readText_133 : decode cX10_readText 133 = .ok (.iload_n 2, 1) := by decide +kernel
theorem dX10_readText_134 : decode cX10_readText 134 = .ok (.ifCond .eq 33, 3) := by decide +kernel
theorem dX10_readText_137 : decode cX10_readText 137 = .ok (.iload_n 1, 1) := by decide +kernel
theorem dX10_readText_138 : decode cX10_readText 138 = .ok (.iconst 2, 1) := by decide +kernel
theorem dX10_readText_139 : decode cX10_readText 139 = .ok (.if_icmp .ne 28, 3) := by decide +kernel
theorem dX10_readText_142 : decode cX10_readText 142 = .ok (.aload_n 0, 1) := by decide +kernel
theorem dX10_readText_143 : decode cX10_readText 143 = .ok (.getfield 38, 3) := by decide +kernel
theorem dX10_readText_146 : decode cX10_readText 146 = .ok (.iconst 0, 1) := by decide +kernel
theorem dX10_readText_147 : decode cX10_readText 147 = .ok (.iaload, 1) := by decide +kernel
theorem dX10_readText_148 : decode cX10_readText 148 = .ok (.ifCond .ne 19, 3) := by decide +kernel
theorem dX10_readText_151 : decode cX10_readText 151 = .ok (.aload_n 0, 1) := by decide +kernel
theorem dX10_readText_152 : decode cX10_readText 152 = .ok (.getfield 123, 3) := by decide +kernel
theorem dX10_readText_155 : decode cX10_readText 155 = .ok (.ifCond .ne 12, 3) := by decide +kernel
theorem dX10_readText_158 : decode cX10_readText 158 = .ok (.aload_n 0, 1) := by decide +kernel
theorem dX10_readText_159 : decode cX10_readText 159 = .ok (.iconst 4, 1) := by decide +kernel
theorem dX10_readText_160 : decode cX10_readText 160 = .ok (.aload_n 0, 1) := by decide +kernel
theorem dX10_readText_161 : decode cX10_readText 161 = .ok (.getfield 107, 3) := by decide +kernel
theorem dX10_readText_164 : decode cX10_readText 164 = .ok (.invokevirtual 136, 3) := by decide +kernel
theorem dX10_readText_167 : decode cX10_readText 167 = .ok (.aload_n 0, 1) := by decide +kernel
theorem dX10_readText_168 : decode cX10_readText 168 = .ok (.getfield 17, 3) := by decide +kernel
theorem dX10_readText_171 : decode cX10_readText 171 = .ok (.iconst 0, 1) := by decide +kernel
theorem dX10_readText_172 : decode cX10_readText 172 = .ok (.iload_n 2, 1) := by decide +kernel
theorem dX10_readText_173 : decode cX10_readText 173 = .ok (.ifCond .eq 10, 3) := by decide +kernel
theorem dX10_readText_176 : decode cX10_readText 176 = .ok (.aload_n 0, 1) := by decide +kernel
theorem dX10_readText_177 : decode cX10_readText 177 = .ok (.getfield 123, 3) := by decide +kernel
theorem dX10_readText_180 : decode cX10_readText 180 = .ok (.goto 4, 3) := by decide +kernel
theorem dX10_readText_183 : decode cX10_readText 183 = .ok (.iconst 1, 1) := by decide +kernel
theorem dX10_readText_184 : decode cX10_readText 184 = .ok (.iastore, 1) := by decide +kernel
theorem dX10_readText_185 : decode cX10_readText 185 = .ok (.aload_n 0, 1) := by decide +kernel
theorem dX10_readText_186 : decode cX10_readText 186 = .ok (.getfield 20, 3) := by decide +kernel
theorem dX10_readText_189 : decode cX10_readText 189 = .ok (.iconst 0, 1) := by decide +kernel
theorem dX10_readText_190 : decode cX10_readText 190 = .ok (.iload_n 2, 1) := by decide +kernel
theorem dX10_readText_191 : decode cX10_readText 191 = .ok (.ifCond .ne 10, 3) := by decide +kernel
theorem dX10_readText_194 : decode cX10_readText 194 = .ok (.aload_n 0, 1) := by decide +kernel
theorem dX10_readText_195 : decode cX10_readText 195 = .ok (.getfield 120, 3) := by decide +kernel
theorem dX10_readText_198 : decode cX10_readText 198 = .ok (.goto 18, 3) := by decide +kernel
theorem dX10_readText_201 : decode cX10_readText 201 = .ok (.aload_n 0, 1) := by decide +kernel
theorem dX10_readText_202 : decode cX10_readText 202 = .ok (.getfield 123, 3) := by decide +kernel
theorem dX10_readText_205 : decode cX10_readText 205 = .ok (.ifCond .le 10, 3) := by decide +kernel
theorem dX10_readText_208 : decode cX10_readText 208 = .ok (.aload_n 0, 1) := by decide +kernel
theorem dX10_readText_209 : decode cX10_readText 209 = .ok (.getfield 126, 3) := by decide +kernel
theorem dX10_readText_212 : decode cX10_readText 212 = .ok (.goto 4, 3) := by decide +kernel
theorem dX10_readText_215 : decode cX10_readText 215 = .ok (.iconst (-1), 1) := by decide +kernel
theorem dX10_readText_216 : decode cX10_readText 216 = .ok (.iastore, 1) := by decide +kernel
theorem dX10_readText_217 : decode cX10_readText 217 = .ok (.aload_n 0, 1) := by decide +kernel
theorem dX10_readText_218 : decode cX10_readText 218 = .ok (.getfield 17, 3) := by decide +kernel
theorem dX10_readText_221 : decode cX10_readText 221 = .ok (.iconst 0, 1) := by decide +kernel
theorem dX10_readText_222 : decode cX10_readText 222 = .ok (.iaload, 1) := by decide +kernel
theorem dX10_readText_223 : decode cX10_readText 223 = .ok (.ifCond .ne 7, 3) := by decide +kernel
theorem dX10_readText_226 : decode cX10_readText 226 = .ok (.iconst 1, 1) := by decide +kernel
theorem dX10_readText_227 : decode cX10_readText 227 = .ok (.goto 4, 3) := by decide +kernel
theorem dX10_readText_230 : decode cX10_readText 230 = .ok (.iconst 0, 1) := by decide +kernel
theorem dX10_readText_231 : decode cX10_readText 231 = .ok (.ireturn, 1) := by decide +kernel
theorem dX10_store_0 : decode cX10_store 0 = .ok (.iconst 0, 1) := by decide +kernel
theorem dX10_store_1 : decode cX10_store 1 = .ok (.istore_n 3, 1) := by decide +kernel
theorem dX10_store_2 : decode cX10_store 2 = .ok (.iload_n 3, 1) := by decide +kernel
theorem dX10_store_3 : decode cX10_store 3 = .ok (.bipush 23, 2) := by decide +kernel
theorem dX10_store_5 : decode cX10_store 5 = .ok (.if_icmp .ge 30, 3) := by decide +kernel
theorem dX10_store_8 : decode cX10_store 8 = .ok (.iload_n 1, 1) := by decide +kernel
theorem dX10_store_9 : decode cX10_store 9 = .ok (.ifCond .ne 26, 3) := by decide +kernel
theorem dX10_store_12 : decode cX10_store 12 = .ok (.aload_n 0, 1) := by decide +kernel
theorem dX10_store_13 : decode cX10_store 13 = .ok (.getfield 26, 3) := by decide +kernel
theorem dX10_store_16 : decode cX10_store 16 = .ok (.bipush 23, 2) := by decide +kernel
theorem dX10_store_18 : decode cX10_store 18 = .ok (.iload_n 2, 1) := by decide +kernel
theorem dX10_store_19 : decode cX10_store 19 = .ok (.imul, 1) := by decide +kernel
theorem dX10_store_20 : decode cX10_store 20 = .ok (.iload_n 3, 1) := by decide +kernel
theorem dX10_store_21 : decode cX10_store 21 = .ok (.iadd, 1) := by decide +kernel
theorem dX10_store_22 : decode cX10_store 22 = .ok (.aload_n 0, 1) := by decide +kernel
theorem dX10_store_23 : decode cX10_store 23 = .ok (.getfield 38, 3) := by decide +kernel
theorem dX10_store_26 : decode cX10_store 26 = .ok (.iload_n 3, 1) := by decide +kernel
theorem dX10_store_27 : decode cX10_store 27 = .ok (.iaload, 1) := by decide +kernel
theorem dX10_store_28 : decode cX10_store 28 = .ok (.iastore, 1) := by decide +kernel
theorem dX10_store_29 : decode cX10_store 29 = .ok (.iinc 3 1, 3) := by decide +kernel
theorem dX10_store_32 : decode cX10_store 32 = .ok (.goto (-30), 3) := by decide +kernel
theorem dX10_store_35 : decode cX10_store 35 = .ok (.iconst 0, 1) := by decide +kernel
theorem dX10_store_36 : decode cX10_store 36 = .ok (.istore_n 3, 1) := by decide +kernel
theorem dX10_store_37 : decode cX10_store 37 = .ok (.iload_n 3, 1) := by decide +kernel
theorem dX10_store_38 : decode cX10_store 38 = .ok (.bipush 18, 2) := by decide +kernel
theorem dX10_store_40 : decode cX10_store 40 = .ok (.if_icmp .ge 31, 3) := by decide +kernel
theorem dX10_store_43 : decode cX10_store 43 = .ok (.iload_n 1, 1) := by decide +kernel
theorem dX10_store_44 : decode cX10_store 44 = .ok (.iconst 1, 1) := by decide +kernel
theorem dX10_store_45 : decode cX10_store 45 = .ok (.if_icmp .ne 26, 3) := by decide +kernel
theorem dX10_store_48 : decode cX10_store 48 = .ok (.aload_n 0, 1) := by decide +kernel
theorem dX10_store_49 : decode cX10_store 49 = .ok (.getfield 29, 3) := by decide +kernel
theorem dX10_store_52 : decode cX10_store 52 = .ok (.bipush 18, 2) := by decide +kernel
theorem dX10_store_54 : decode cX10_store 54 = .ok (.iload_n 2, 1) := by decide +kernel
theorem dX10_store_55 : decode cX10_store 55 = .ok (.imul, 1) := by decide +kernel
theorem dX10_store_56 : decode cX10_store 56 = .ok (.iload_n 3, 1) := by decide +kernel
theorem dX10_store_57 : decode cX10_store 57 = .ok (.iadd, 1) := by decide +kernel
theorem dX10_store_58 : decode cX10_store 58 = .ok (.aload_n 0, 1) := by decide +kernel
theorem dX10_store_59 : decode cX10_store 59 = .ok (.getfield 38, 3) := by decide +kernel
theorem dX10_store_62 : decode cX10_store 62 = .ok (.iload_n 3, 1) := by decide +kernel
theorem dX10_store_63 : decode cX10_store 63 = .ok (.iaload, 1) := by decide +kernel
theorem dX10_store_64 : decode cX10_store 64 = .ok (.iastore, 1) := by decide +kernel
theorem dX10_store_65 : decode cX10_store 65 = .ok (.iinc 3 1, 3) := by decide +kernel
theorem dX10_store_68 : decode cX10_store 68 = .ok (.goto (-31), 3) := by decide +kernel
theorem dX10_store_71 : decode cX10_store 71 = .ok (.iconst 0, 1) := by decide +kernel
theorem dX10_store_72 : decode cX10_store 72 = .ok (.istore_n 3, 1) := by decide +kernel
theorem dX10_store_73 : decode cX10_store 73 = .ok (.iload_n 3, 1) := by decide +kernel
theorem dX10_store_74 : decode cX10_store 74 = .ok (.bipush 61, 2) := by decide +kernel
theorem dX10_store_76 : decode cX10_store 76 = .ok (.if_icmp .ge 31, 3) := by decide +kernel
theorem dX10_store_79 : decode cX10_store 79 = .ok (.iload_n 1, 1) := by decide +kernel
theorem dX10_store_80 : decode cX10_store 80 = .ok (.iconst 2, 1) := by decide +kernel
theorem dX10_store_81 : decode cX10_store 81 = .ok (.if_icmp .ne 26, 3) := by decide +kernel
theorem dX10_store_84 : decode cX10_store 84 = .ok (.aload_n 0, 1) := by decide +kernel
theorem dX10_store_85 : decode cX10_store 85 = .ok (.getfield 32, 3) := by decide +kernel
theorem dX10_store_88 : decode cX10_store 88 = .ok (.bipush 61, 2) := by decide +kernel
theorem dX10_store_90 : decode cX10_store 90 = .ok (.iload_n 2, 1) := by decide +kernel
theorem dX10_store_91 : decode cX10_store 91 = .ok (.imul, 1) := by decide +kernel
theorem dX10_store_92 : decode cX10_store 92 = .ok (.iload_n 3, 1) := by decide +kernel
theorem dX10_store_93 : decode cX10_store 93 = .ok (.iadd, 1) := by decide +kernel
theorem dX10_store_94 : decode cX10_store 94 = .ok (.aload_n 0, 1) := by decide +kernel
theorem dX10_store_95 : decode cX10_store 95 = .ok (.getfield 38, 3) := by decide +kernel
theorem dX10_store_98 : decode cX10_store 98 = .ok (.iload_n 3, 1) := by decide +kernel
theorem dX10_store_99 : decode cX10_store 99 = .ok (.iaload, 1) := by decide +kernel
theorem dX10_store_100 : decode cX10_store 100 = .ok (.iastore, 1) := by decide +kernel
theorem dX10_store_101 : decode cX10_store 101 = .ok (.iinc 3 1, 3) := by decide +kernel
theorem dX10_store_104 : decode cX10_store 104 = .ok (.goto (-31), 3) := by decide +kernel
theorem dX10_store_107 : decode cX10_store 107 = .ok (.iconst 0, 1) := by decide +kernel
theorem dX10_store_108 : decode cX10_store 108 = .ok (.istore_n 3, 1) := by decide +kernel
theorem dX10_store_109 : decode cX10_store 109 = .ok (.iload_n 3, 1) := by decide +kernel
theorem dX10_store_110 : decode cX10_store 110 = .ok (.bipush 17, 2) := by decide +kernel
theorem dX10_store_112 : decode cX10_store 112 = .ok (.if_icmp .ge 31, 3) := by decide +kernel
theorem dX10_store_115 : decode cX10_store 115 = .ok (.iload_n 1, 1) := by decide +kernel
theorem dX10_store_116 : decode cX10_store 116 = .ok (.iconst 3, 1) := by decide +kernel
theorem dX10_store_117 : decode cX10_store 117 = .ok (.if_icmp .ne 26, 3) := by decide +kernel
theorem dX10_store_120 : decode cX10_store 120 = .ok (.aload_n 0, 1) := by decide +kernel
theorem dX10_store_121 : decode cX10_store 121 = .ok (.getfield 35, 3) := by decide +kernel
theorem dX10_store_124 : decode cX10_store 124 = .ok (.bipush 17, 2) := by decide +kernel
theorem dX10_store_126 : decode cX10_store 126 = .ok (.iload_n 2, 1) := by decide +kernel
theorem dX10_store_127 : decode cX10_store 127 = .ok (.imul, 1) := by decide +kernel
theorem dX10_store_128 : decode cX10_store 128 = .ok (.iload_n 3, 1) := by decide +kernel
theorem dX10_store_129 : decode cX10_store 129 = .ok (.iadd, 1) := by decide +kernel
theorem dX10_store_130 : decode cX10_store 130 = .ok (.aload_n 0, 1) := by decide +kernel
theorem dX10_store_131 : decode cX10_store 131 = .ok (.getfield 38, 3) := by decide +kernel
theorem dX10_store_134 : decode cX10_store 134 = .ok (.iload_n 3, 1) := by decide +kernel
theorem dX10_store_135 : decode cX10_store 135 = .ok (.iaload, 1) := by decide +kernel
theorem dX10_store_136 : decode cX10_store 136 = .ok (.iastore, 1) := by decide +kernel
theorem dX10_store_137 : decode cX10_store 137 = .ok (.iinc 3 1, 3) := by decide +kernel
theorem dX10_store_140 : decode cX10_store 140 = .ok (.goto (-31), 3) := by decide +kernel
theorem dX10_store_143 : decode cX10_store 143 = .ok (.return_, 1) := by decide +kernel
set_option maxRecDepth 20000 in
theorem dX10_text_0 : decode cX10_text 0 = .ok (.aload_n 0, 1) := by decide +kernel
theorem dX10_text_1 : decode cX10_text 1 = .ok (.iconst 0, 1) := by decide +kernel
theorem dX10_text_2 : decode cX10_text 2 = .ok (.putfield 81, 3) := by decide +kernel
theorem dX10_text_5 : decode cX10_text 5 = .ok (.aload_n 0, 1) := by decide +kernel
theorem dX10_text_6 : decode cX10_text 6 = .ok (.aload_n 0, 1) := by decide +kernel
theorem dX10_text_7 : decode cX10_text 7 = .ok (.getfield 13, 3) := by decide +kernel
theorem dX10_text_10 : decode cX10_text 10 = .ok (.iconst 0, 1) := by decide +kernel
theorem dX10_text_11 : decode cX10_text 11 = .ok (.iaload, 1) := by decide +kernel
theorem dX10_text_12 : decode cX10_text 12 = .ok (.putfield 100, 3) := by decide +kernel
theorem dX10_text_15 : decode cX10_text 15 = .ok (.aload_n 0, 1) := by decide +kernel
theorem dX10_text_16 : decode cX10_text 16 = .ok (.getfield 13, 3) := by decide +kernel
theorem dX10_text_19 : decode cX10_text 19 = .ok (.iconst 0, 1) := by decide +kernel
theorem dX10_text_20 : decode cX10_text 20 = .ok (.iconst 0, 1) := by decide +kernel
theorem dX10_text_21 : decode cX10_text 21 = .ok (.iastore, 1) := by decide +kernel
theorem dX10_text_22 : decode cX10_text 22 = .ok (.aload_n 0, 1) := by decide +kernel
theorem dX10_text_23 : decode cX10_text 23 = .ok (.getfield 17, 3) := by decide +kernel
theorem dX10_text_26 : decode cX10_text 26 = .ok (.iconst 0, 1) := by decide +kernel
theorem dX10_text_27 : decode cX10_text 27 = .ok (.iconst 0, 1) := by decide +kernel
theorem dX10_text_28 : decode cX10_text 28 = .ok (.iastore, 1) := by decide +kernel
theorem dX10_text_29 : decode cX10_text 29 = .ok (.aload_n 0, 1) := by decide +kernel
theorem dX10_text_30 : decode cX10_text 30 = .ok (.getfield 20, 3) := by decide +kernel
theorem dX10_text_33 : decode cX10_text 33 = .ok (.iconst 0, 1) := by decide +kernel
theorem dX10_text_34 : decode cX10_text 34 = .ok (.iconst (-1), 1) := by decide +kernel
theorem dX10_text_35 : decode cX10_text 35 = .ok (.iastore, 1) := by decide +kernel
theorem dX10_text_36 : decode cX10_text 36 = .ok (.iload_n 1, 1) := by decide +kernel
theorem dX10_text_37 : decode cX10_text 37 = .ok (.iconst 0, 1) := by decide +kernel
theorem dX10_text_38 : decode cX10_text 38 = .ok (.iconst 3, 1) := by decide +kernel
theorem dX10_text_39 : decode cX10_text 39 = .ok (.invokestatic 89, 3) := by decide +kernel
theorem dX10_text_42 : decode cX10_text 42 = .ok (.ifCond .eq 33, 3) := by decide +kernel
theorem dX10_text_45 : decode cX10_text 45 = .ok (.iload_n 2, 1) := by decide +kernel
theorem dX10_text_46 : decode cX10_text 46 = .ok (.iconst (-1), 1) := by decide +kernel
theorem dX10_text_47 : decode cX10_text 47 = .ok (.if_icmp .ne 19, 3) := by decide +kernel
theorem dX10_text_50 : decode cX10_text 50 = .ok (.aload_n 0, 1) := by decide +kernel
theorem dX10_text_51 : decode cX10_text 51 = .ok (.getfield 23, 3) := by decide +kernel
theorem dX10_text_54 : decode cX10_text 54 = .ok (.iload_n 1, 1) := by decide +kernel
theorem dX10_text_55 : decode cX10_text 55 = .ok (.iaload, 1) := by decide +kernel
theorem dX10_text_56 : decode cX10_text 56 = .ok (.iload_n 1, 1) := by decide +kernel
theorem dX10_text_57 : decode cX10_text 57 = .ok (.invokestatic 222, 3) := by decide +kernel
theorem dX10_text_60 : decode cX10_text 60 = .ok (.if_icmp .ne 18, 3) := by decide +kernel
theorem dX10_text_63 : decode cX10_text 63 = .ok (.goto 12, 3) := by decide +kernel
theorem dX10_text_66 : decode cX10_text 66 = .ok (.aload_n 0, 1) := by decide +kernel
theorem dX10_text_67 : decode cX10_text 67 = .ok (.iload_n 1, 1) := by decide +kernel
theorem dX10_text_68 : decode cX10_text 68 = .ok (.iload_n 2, 1) := by decide +kernel
theorem dX10_text_69 : decode cX10_text 69 = .ok (.invokevirtual 226, 3) := by decide +kernel
theorem dX10_text_72 : decode cX10_text 72 = .ok (.ifCond .ne 6, 3) := by decide +kernel
theorem dX10_text_75 : decode cX10_text 75 = .ok (.bipush (-2), 2) := by decide +kernel
theorem dX10_text_77 : decode cX10_text 77 = .ok (.ireturn, 1) := by decide +kernel
theorem dX10_text_78 : decode cX10_text 78 = .ok (.aload_n 0, 1) := by decide +kernel
theorem dX10_text_79 : decode cX10_text 79 = .ok (.iload_n 1, 1) := by decide +kernel
theorem dX10_text_80 : decode cX10_text 80 = .ok (.invokevirtual 229, 3) := by decide +kernel
theorem dX10_text_83 : decode cX10_text 83 = .ok (.ifCond .ne 5, 3) := by decide +kernel
theorem dX10_text_86 : decode cX10_text 86 = .ok (.iconst (-1), 1) := by decide +kernel
theorem dX10_text_87 : decode cX10_text 87 = .ok (.ireturn, 1) := by decide +kernel
theorem dX10_text_88 : decode cX10_text 88 = .ok (.iload_n 2, 1) := by decide +kernel
theorem dX10_text_89 : decode cX10_text 89 = .ok (.iconst (-1), 1) := by decide +kernel
theorem dX10_text_90 : decode cX10_text 90 = .ok (.if_icmp .ne 12, 3) := by decide +kernel
theorem dX10_text_93 : decode cX10_text 93 = .ok (.aload_n 0, 1) := by decide +kernel
theorem dX10_text_94 : decode cX10_text 94 = .ok (.getfield 23, 3) := by decide +kernel
theorem dX10_text_97 : decode cX10_text 97 = .ok (.iload_n 1, 1) := by decide +kernel
theorem dX10_text_98 : decode cX10_text 98 = .ok (.iaload, 1) := by decide +kernel
theorem dX10_text_99 : decode cX10_text 99 = .ok (.goto 4, 3) := by decide +kernel
theorem dX10_text_102 : decode cX10_text 102 = .ok (.iload_n 2, 1) := by decide +kernel
theorem dX10_text_103 : decode cX10_text 103 = .ok (.istore_n 3, 1) := by decide +kernel
theorem dX10_text_104 : decode cX10_text 104 = .ok (.aload_n 0, 1) := by decide +kernel
theorem dX10_text_105 : decode cX10_text 105 = .ok (.getfield 23, 3) := by decide +kernel
theorem dX10_text_108 : decode cX10_text 108 = .ok (.iload_n 1, 1) := by decide +kernel
theorem dX10_text_109 : decode cX10_text 109 = .ok (.dup2, 1) := by decide +kernel
theorem dX10_text_110 : decode cX10_text 110 = .ok (.iaload, 1) := by decide +kernel
theorem dX10_text_111 : decode cX10_text 111 = .ok (.iload_n 2, 1) := by decide +kernel
theorem dX10_text_112 : decode cX10_text 112 = .ok (.iconst (-1), 1) := by decide +kernel
theorem dX10_text_113 : decode cX10_text 113 = .ok (.if_icmp .ne 7, 3) := by decide +kernel
theorem dX10_text_116 : decode cX10_text 116 = .ok (.iconst 1, 1) := by decide +kernel
theorem dX10_text_117 : decode cX10_text 117 = .ok (.goto 4, 3) := by decide +kernel
theorem dX10_text_120 : decode cX10_text 120 = .ok (.iconst 0, 1) := by decide +kernel
theorem dX10_text_121 : decode cX10_text 121 = .ok (.iadd, 1) := by decide +kernel
theorem dX10_text_122 : decode cX10_text 122 = .ok (.iastore, 1) := by decide +kernel
theorem dX10_text_123 : decode cX10_text 123 = .ok (.aload_n 0, 1) := by decide +kernel
theorem dX10_text_124 : decode cX10_text 124 = .ok (.iload_n 1, 1) := by decide +kernel
theorem dX10_text_125 : decode cX10_text 125 = .ok (.iload_n 3, 1) := by decide +kernel
theorem dX10_text_126 : decode cX10_text 126 = .ok (.invokevirtual 232, 3) := by decide +kernel
theorem dX10_text_129 : decode cX10_text 129 = .ok (.iload_n 3, 1) := by decide +kernel
theorem dX10_text_130 : decode cX10_text 130 = .ok (.ireturn, 1) := by decide +kernel
theorem dX10_fault_0 : decode cX10_fault 0 = .ok (.aload_n 0, 1) := by decide +kernel
theorem dX10_fault_1 : decode cX10_fault 1 = .ok (.iconst 0, 1) := by decide +kernel
theorem dX10_fault_2 : decode cX10_fault 2 = .ok (.putfield 81, 3) := by decide +kernel
theorem dX10_fault_5 : decode cX10_fault 5 = .ok (.iload_n 1, 1) := by decide +kernel
theorem dX10_fault_6 : decode cX10_fault 6 = .ok (.ifCond .ne 12, 3) := by decide +kernel
theorem dX10_fault_9 : decode cX10_fault 9 = .ok (.aload_n 0, 1) := by decide +kernel
theorem dX10_fault_10 : decode cX10_fault 10 = .ok (.getfield 17, 3) := by decide +kernel
theorem dX10_fault_13 : decode cX10_fault 13 = .ok (.iconst 0, 1) := by decide +kernel
theorem dX10_fault_14 : decode cX10_fault 14 = .ok (.iaload, 1) := by decide +kernel
theorem dX10_fault_15 : decode cX10_fault 15 = .ok (.goto 18, 3) := by decide +kernel
theorem dX10_fault_18 : decode cX10_fault 18 = .ok (.iload_n 1, 1) := by decide +kernel
theorem dX10_fault_19 : decode cX10_fault 19 = .ok (.iconst 1, 1) := by decide +kernel
theorem dX10_fault_20 : decode cX10_fault 20 = .ok (.if_icmp .ne 12, 3) := by decide +kernel
theorem dX10_fault_23 : decode cX10_fault 23 = .ok (.aload_n 0, 1) := by decide +kernel
theorem dX10_fault_24 : decode cX10_fault 24 = .ok (.getfield 20, 3) := by decide +kernel
theorem dX10_fault_27 : decode cX10_fault 27 = .ok (.iconst 0, 1) := by decide +kernel
theorem dX10_fault_28 : decode cX10_fault 28 = .ok (.iaload, 1) := by decide +kernel
theorem dX10_fault_29 : decode cX10_fault 29 = .ok (.goto 4, 3) := by decide +kernel
theorem dX10_fault_32 : decode cX10_fault 32 = .ok (.iconst (-1), 1) := by decide +kernel
theorem dX10_fault_33 : decode cX10_fault 33 = .ok (.ireturn, 1) := by decide +kernel
set_option maxRecDepth 20000 in
theorem dX10_ship_0 : decode cX10_ship 0 = .ok (.aload_n 0, 1) := by decide +kernel
theorem dX10_ship_1 : decode cX10_ship 1 = .ok (.iconst 0, 1) := by decide +kernel
theorem dX10_ship_2 : decode cX10_ship 2 = .ok (.putfield 81, 3) := by decide +kernel
theorem dX10_ship_5 : decode cX10_ship 5 = .ok (.aload_n 0, 1) := by decide +kernel
theorem dX10_ship_6 : decode cX10_ship 6 = .ok (.iconst 0, 1) := by decide +kernel
theorem dX10_ship_7 : decode cX10_ship 7 = .ok (.iload_n 1, 1) := by decide +kernel
theorem dX10_ship_8 : decode cX10_ship 8 = .ok (.invokevirtual 226, 3) := by decide +kernel
theorem dX10_ship_11 : decode cX10_ship 11 = .ok (.ifCond .ne 6, 3) := by decide +kernel
theorem dX10_ship_14 : decode cX10_ship 14 = .ok (.ldc 235, 2) := by decide +kernel
theorem dX10_ship_16 : decode cX10_ship 16 = .ok (.ireturn, 1) := by decide +kernel
theorem dX10_ship_17 : decode cX10_ship 17 = .ok (.iload_n 2, 1) := by decide +kernel
theorem dX10_ship_18 : decode cX10_ship 18 = .ok (.iconst 0, 1) := by decide +kernel
theorem dX10_ship_19 : decode cX10_ship 19 = .ok (.bipush 10, 2) := by decide +kernel
theorem dX10_ship_21 : decode cX10_ship 21 = .ok (.invokestatic 89, 3) := by decide +kernel
theorem dX10_ship_24 : decode cX10_ship 24 = .ok (.ifCond .eq 17, 3) := by decide +kernel
theorem dX10_ship_27 : decode cX10_ship 27 = .ok (.aload_n 0, 1) := by decide +kernel
theorem dX10_ship_28 : decode cX10_ship 28 = .ok (.getfield 26, 3) := by decide +kernel
theorem dX10_ship_31 : decode cX10_ship 31 = .ok (.bipush 23, 2) := by decide +kernel
theorem dX10_ship_33 : decode cX10_ship 33 = .ok (.iload_n 1, 1) := by decide +kernel
theorem dX10_ship_34 : decode cX10_ship 34 = .ok (.imul, 1) := by decide +kernel
theorem dX10_ship_35 : decode cX10_ship 35 = .ok (.iload_n 2, 1) := by decide +kernel
theorem dX10_ship_36 : decode cX10_ship 36 = .ok (.iadd, 1) := by decide +kernel
theorem dX10_ship_37 : decode cX10_ship 37 = .ok (.iaload, 1) := by decide +kernel
theorem dX10_ship_38 : decode cX10_ship 38 = .ok (.goto 51, 3) := by decide +kernel
theorem dX10_ship_41 : decode cX10_ship 41 = .ok (.iload_n 2, 1) := by decide +kernel
theorem dX10_ship_42 : decode cX10_ship 42 = .ok (.bipush 20, 2) := by decide +kernel
theorem dX10_ship_44 : decode cX10_ship 44 = .ok (.bipush 19, 2) := by decide +kernel
theorem dX10_ship_46 : decode cX10_ship 46 = .ok (.aload_n 0, 1) := by decide +kernel
theorem dX10_ship_47 : decode cX10_ship 47 = .ok (.getfield 26, 3) := by decide +kernel
theorem dX10_ship_50 : decode cX10_ship 50 = .ok (.bipush 23, 2) := by decide +kernel
theorem dX10_ship_52 : decode cX10_ship 52 = .ok (.iload_n 1, 1) := by decide +kernel
theorem dX10_ship_53 : decode cX10_ship 53 = .ok (.imul, 1) := by decide +kernel
theorem dX10_ship_54 : decode cX10_ship 54 = .ok (.bipush 10, 2) := by decide +kernel
theorem dX10_ship_56 : decode cX10_ship 56 = .ok (.iadd, 1) := by decide +kernel
theorem dX10_ship_57 : decode cX10_ship 57 = .ok (.iaload, 1) := by decide +kernel
theorem dX10_ship_58 : decode cX10_ship 58 = .ok (.iadd, 1) := by decide +kernel
theorem dX10_ship_59 : decode cX10_ship 59 = .ok (.invokestatic 89, 3) := by decide +kernel
theorem dX10_ship_62 : decode cX10_ship 62 = .ok (.ifCond .eq 25, 3) := by decide +kernel
theorem dX10_ship_65 : decode cX10_ship 65 = .ok (.aload_n 0, 1) := by decide +kernel
theorem dX10_ship_66 : decode cX10_ship 66 = .ok (.getfield 26, 3) := by decide +kernel
theorem dX10_ship_69 : decode cX10_ship 69 = .ok (.bipush 23, 2) := by decide +kernel
theorem dX10_ship_71 : decode cX10_ship 71 = .ok (.iload_n 1, 1) := by decide +kernel
theorem dX10_ship_72 : decode cX10_ship 72 = .ok (.imul, 1) := by decide +kernel
theorem dX10_ship_73 : decode cX10_ship 73 = .ok (.bipush 10, 2) := by decide +kernel
theorem dX10_ship_75 : decode cX10_ship 75 = .ok (.iadd, 1) := by decide +kernel
theorem dX10_ship_76 : decode cX10_ship 76 = .ok (.iconst 1, 1) := by decide +kernel
theorem dX10_ship_77 : decode cX10_ship 77 = .ok (.iadd, 1) := by decide +kernel
theorem dX10_ship_78 : decode cX10_ship 78 = .ok (.iload_n 2, 1) := by decide +kernel
theorem dX10_ship_79 : decode cX10_ship 79 = .ok (.iadd, 1) := by decide +kernel
theorem dX10_ship_80 : decode cX10_ship 80 = .ok (.bipush 20, 2) := by decide +kernel
theorem dX10_ship_82 : decode cX10_ship 82 = .ok (.isub, 1) := by decide +kernel
theorem dX10_ship_83 : decode cX10_ship 83 = .ok (.iaload, 1) := by decide +kernel
theorem dX10_ship_84 : decode cX10_ship 84 = .ok (.goto 5, 3) := by decide +kernel
theorem dX10_ship_87 : decode cX10_ship 87 = .ok (.ldc 235, 2) := by decide +kernel
theorem dX10_ship_89 : decode cX10_ship 89 = .ok (.ireturn, 1) := by decide +kernel
set_option maxRecDepth 20000 in
theorem dX10_hand_0 : decode cX10_hand 0 = .ok (.aload_n 0, 1) := by decide +kernel
theorem dX10_hand_1 : decode cX10_hand 1 = .ok (.iconst 0, 1) := by decide +kernel
theorem dX10_hand_2 : decode cX10_hand 2 = .ok (.putfield 81, 3) := by decide +kernel
theorem dX10_hand_5 : decode cX10_hand 5 = .ok (.aload_n 0, 1) := by decide +kernel
theorem dX10_hand_6 : decode cX10_hand 6 = .ok (.iconst 1, 1) := by decide +kernel
theorem dX10_hand_7 : decode cX10_hand 7 = .ok (.iload_n 1, 1) := by decide +kernel
theorem dX10_hand_8 : decode cX10_hand 8 = .ok (.invokevirtual 226, 3) := by decide +kernel
theorem dX10_hand_11 : decode cX10_hand 11 = .ok (.ifCond .ne 5, 3) := by decide +kernel
theorem dX10_hand_14 : decode cX10_hand 14 = .ok (.iconst (-1), 1) := by decide +kernel
theorem dX10_hand_15 : decode cX10_hand 15 = .ok (.ireturn, 1) := by decide +kernel
theorem dX10_hand_16 : decode cX10_hand 16 = .ok (.aload_n 0, 1) := by decide +kernel
theorem dX10_hand_17 : decode cX10_hand 17 = .ok (.getfield 29, 3) := by decide +kernel
theorem dX10_hand_20 : decode cX10_hand 20 = .ok (.bipush 18, 2) := by decide +kernel
theorem dX10_hand_22 : decode cX10_hand 22 = .ok (.iload_n 1, 1) := by decide +kernel
theorem dX10_hand_23 : decode cX10_hand 23 = .ok (.imul, 1) := by decide +kernel
theorem dX10_hand_24 : decode cX10_hand 24 = .ok (.bipush 9, 2) := by decide +kernel
theorem dX10_hand_26 : decode cX10_hand 26 = .ok (.iadd, 1) := by decide +kernel
theorem dX10_hand_27 : decode cX10_hand 27 = .ok (.iaload, 1) := by decide +kernel
theorem dX10_hand_28 : decode cX10_hand 28 = .ok (.istore_n 3, 1) := by decide +kernel
theorem dX10_hand_29 : decode cX10_hand 29 = .ok (.iload_n 2, 1) := by decide +kernel
theorem dX10_hand_30 : decode cX10_hand 30 = .ok (.iconst 0, 1) := by decide +kernel
theorem dX10_hand_31 : decode cX10_hand 31 = .ok (.bipush 9, 2) := by decide +kernel
theorem dX10_hand_33 : decode cX10_hand 33 = .ok (.invokestatic 89, 3) := by decide +kernel
theorem dX10_hand_36 : decode cX10_hand 36 = .ok (.ifCond .eq 15, 3) := by decide +kernel
theorem dX10_hand_39 : decode cX10_hand 39 = .ok (.aload_n 0, 1) := by decide +kernel
theorem dX10_hand_40 : decode cX10_hand 40 = .ok (.getfield 29, 3) := by decide +kernel
theorem dX10_hand_43 : decode cX10_hand 43 = .ok (.bipush 18, 2) := by decide +kernel
theorem dX10_hand_45 : decode cX10_hand 45 = .ok (.iload_n 1, 1) := by decide +kernel
theorem dX10_hand_46 : decode cX10_hand 46 = .ok (.imul, 1) := by decide +kernel
theorem dX10_hand_47 : decode cX10_hand 47 = .ok (.iload_n 2, 1) := by decide +kernel
theorem dX10_hand_48 : decode cX10_hand 48 = .ok (.iadd, 1) := by decide +kernel
theorem dX10_hand_49 : decode cX10_hand 49 = .ok (.iaload, 1) := by decide +kernel
theorem dX10_hand_50 : decode cX10_hand 50 = .ok (.ireturn, 1) := by decide +kernel
theorem dX10_hand_51 : decode cX10_hand 51 = .ok (.iload_n 2, 1) := by decide +kernel
theorem dX10_hand_52 : decode cX10_hand 52 = .ok (.bipush 10, 2) := by decide +kernel
theorem dX10_hand_54 : decode cX10_hand 54 = .ok (.bipush 9, 2) := by decide +kernel
theorem dX10_hand_56 : decode cX10_hand 56 = .ok (.iload_n 3, 1) := by decide +kernel
theorem dX10_hand_57 : decode cX10_hand 57 = .ok (.iadd, 1) := by decide +kernel
theorem dX10_hand_58 : decode cX10_hand 58 = .ok (.invokestatic 89, 3) := by decide +kernel
theorem dX10_hand_61 : decode cX10_hand 61 = .ok (.ifCond .eq 27, 3) := by decide +kernel
theorem dX10_hand_64 : decode cX10_hand 64 = .ok (.aload_n 0, 1) := by decide +kernel
theorem dX10_hand_65 : decode cX10_hand 65 = .ok (.getfield 29, 3) := by decide +kernel
theorem dX10_hand_68 : decode cX10_hand 68 = .ok (.bipush 18, 2) := by decide +kernel
theorem dX10_hand_70 : decode cX10_hand 70 = .ok (.iload_n 1, 1) := by decide +kernel
theorem dX10_hand_71 : decode cX10_hand 71 = .ok (.imul, 1) := by decide +kernel
theorem dX10_hand_72 : decode cX10_hand 72 = .ok (.bipush 9, 2) := by decide +kernel
theorem dX10_hand_74 : decode cX10_hand 74 = .ok (.iadd, 1) := by decide +kernel
theorem dX10_hand_75 : decode cX10_hand 75 = .ok (.iconst 1, 1) := by decide +kernel
theorem dX10_hand_76 : decode cX10_hand 76 = .ok (.iadd, 1) := by decide +kernel
theorem dX10_hand_77 : decode cX10_hand 77 = .ok (.iconst 2, 1) := by decide +kernel
theorem dX10_hand_78 : decode cX10_hand 78 = .ok (.iload_n 2, 1) := by decide +kernel
theorem dX10_hand_79 : decode cX10_hand 79 = .ok (.bipush 10, 2) := by decide +kernel
theorem dX10_hand_81 : decode cX10_hand 81 = .ok (.isub, 1) := by decide +kernel
theorem dX10_hand_82 : decode cX10_hand 82 = .ok (.imul, 1) := by decide +kernel
theorem dX10_hand_83 : decode cX10_hand 83 = .ok (.iadd, 1) := by decide +kernel
theorem dX10_hand_84 : decode cX10_hand 84 = .ok (.iaload, 1) := by decide +kernel
theorem dX10_hand_85 : decode cX10_hand 85 = .ok (.goto 41, 3) := by decide +kernel
theorem dX10_hand_88 : decode cX10_hand 88 = .ok (.iload_n 2, 1) := by decide +kernel
theorem dX10_hand_89 : decode cX10_hand 89 = .ok (.bipush 20, 2) := by decide +kernel
theorem dX10_hand_91 : decode cX10_hand 91 = .ok (.bipush 19, 2) := by decide +kernel
theorem dX10_hand_93 : decode cX10_hand 93 = .ok (.iload_n 3, 1) := by decide +kernel
theorem dX10_hand_94 : decode cX10_hand 94 = .ok (.iadd, 1) := by decide +kernel
theorem dX10_hand_95 : decode cX10_hand 95 = .ok (.invokestatic 89, 3) := by decide +kernel
theorem dX10_hand_98 : decode cX10_hand 98 = .ok (.ifCond .eq 27, 3) := by decide +kernel
theorem dX10_hand_101 : decode cX10_hand 101 = .ok (.aload_n 0, 1) := by decide +kernel
theorem dX10_hand_102 : decode cX10_hand 102 = .ok (.getfield 29, 3) := by decide +kernel
theorem dX10_hand_105 : decode cX10_hand 105 = .ok (.bipush 18, 2) := by decide +kernel
theorem dX10_hand_107 : decode cX10_hand 107 = .ok (.iload_n 1, 1) := by decide +kernel
theorem dX10_hand_108 : decode cX10_hand 108 = .ok (.imul, 1) := by decide +kernel
theorem dX10_hand_109 : decode cX10_hand 109 = .ok (.bipush 9, 2) := by decide +kernel
theorem dX10_hand_111 : decode cX10_hand 111 = .ok (.iadd, 1) := by decide +kernel
theorem dX10_hand_112 : decode cX10_hand 112 = .ok (.iconst 2, 1) := by decide +kernel
theorem dX10_hand_113 : decode cX10_hand 113 = .ok (.iadd, 1) := by decide +kernel
theorem dX10_hand_114 : decode cX10_hand 114 = .ok (.iconst 2, 1) := by decide +kernel
theorem dX10_hand_115 : decode cX10_hand 115 = .ok (.iload_n 2, 1) := by decide +kernel
theorem dX10_hand_116 : decode cX10_hand 116 = .ok (.bipush 20, 2) := by decide +kernel
theorem dX10_hand_118 : decode cX10_hand 118 = .ok (.isub, 1) := by decide +kernel
theorem dX10_hand_119 : decode cX10_hand 119 = .ok (.imul, 1) := by decide +kernel
theorem dX10_hand_120 : decode cX10_hand 120 = .ok (.iadd, 1) := by decide +kernel
theorem dX10_hand_121 : decode cX10_hand 121 = .ok (.iaload, 1) := by decide +kernel
theorem dX10_hand_122 : decode cX10_hand 122 = .ok (.goto 4, 3) := by decide +kernel
theorem dX10_hand_125 : decode cX10_hand 125 = .ok (.iconst (-1), 1) := by decide +kernel
theorem dX10_hand_126 : decode cX10_hand 126 = .ok (.ireturn, 1) := by decide +kernel
set_option maxRecDepth 20000 in
theorem dX10_paper_0 : decode cX10_paper 0 = .ok (.aload_n 0, 1) := by decide +kernel
theorem dX10_paper_1 : decode cX10_paper 1 = .ok (.iconst 0, 1) := by decide +kernel
theorem dX10_paper_2 : decode cX10_paper 2 = .ok (.putfield 81, 3) := by decide +kernel
theorem dX10_paper_5 : decode cX10_paper 5 = .ok (.aload_n 0, 1) := by decide +kernel
theorem dX10_paper_6 : decode cX10_paper 6 = .ok (.iconst 2, 1) := by decide +kernel
theorem dX10_paper_7 : decode cX10_paper 7 = .ok (.iload_n 1, 1) := by decide +kernel
theorem dX10_paper_8 : decode cX10_paper 8 = .ok (.invokevirtual 226, 3) := by decide +kernel
theorem dX10_paper_11 : decode cX10_paper 11 = .ok (.ifCond .ne 6, 3) := by decide +kernel
theorem dX10_paper_14 : decode cX10_paper 14 = .ok (.ldc 235, 2) := by decide +kernel
theorem dX10_paper_16 : decode cX10_paper 16 = .ok (.ireturn, 1) := by decide +kernel
theorem dX10_paper_17 : decode cX10_paper 17 = .ok (.iload_n 2, 1) := by decide +kernel
theorem dX10_paper_18 : decode cX10_paper 18 = .ok (.iconst (-1), 1) := by decide +kernel
theorem dX10_paper_19 : decode cX10_paper 19 = .ok (.if_icmp .ne 15, 3) := by decide +kernel
theorem dX10_paper_22 : decode cX10_paper 22 = .ok (.aload_n 0, 1) := by decide +kernel
theorem dX10_paper_23 : decode cX10_paper 23 = .ok (.getfield 32, 3) := by decide +kernel
theorem dX10_paper_26 : decode cX10_paper 26 = .ok (.bipush 61, 2) := by decide +kernel
theorem dX10_paper_28 : decode cX10_paper 28 = .ok (.iload_n 1, 1) := by decide +kernel
theorem dX10_paper_29 : decode cX10_paper 29 = .ok (.imul, 1) := by decide +kernel
theorem dX10_paper_30 : decode cX10_paper 30 = .ok (.iaload, 1) := by decide +kernel
theorem dX10_paper_31 : decode cX10_paper 31 = .ok (.goto 40, 3) := by decide +kernel
theorem dX10_paper_34 : decode cX10_paper 34 = .ok (.iload_n 2, 1) := by decide +kernel
theorem dX10_paper_35 : decode cX10_paper 35 = .ok (.iconst 0, 1) := by decide +kernel
theorem dX10_paper_36 : decode cX10_paper 36 = .ok (.aload_n 0, 1) := by decide +kernel
theorem dX10_paper_37 : decode cX10_paper 37 = .ok (.getfield 32, 3) := by decide +kernel
theorem dX10_paper_40 : decode cX10_paper 40 = .ok (.bipush 61, 2) := by decide +kernel
theorem dX10_paper_42 : decode cX10_paper 42 = .ok (.iload_n 1, 1) := by decide +kernel
theorem dX10_paper_43 : decode cX10_paper 43 = .ok (.imul, 1) := by decide +kernel
theorem dX10_paper_44 : decode cX10_paper 44 = .ok (.iaload, 1) := by decide +kernel
theorem dX10_paper_45 : decode cX10_paper 45 = .ok (.iconst 1, 1) := by decide +kernel
theorem dX10_paper_46 : decode cX10_paper 46 = .ok (.isub, 1) := by decide +kernel
theorem dX10_paper_47 : decode cX10_paper 47 = .ok (.invokestatic 89, 3) := by decide +kernel
theorem dX10_paper_50 : decode cX10_paper 50 = .ok (.ifCond .eq 19, 3) := by decide +kernel
theorem dX10_paper_53 : decode cX10_paper 53 = .ok (.aload_n 0, 1) := by decide +kernel
theorem dX10_paper_54 : decode cX10_paper 54 = .ok (.getfield 32, 3) := by decide +kernel
theorem dX10_paper_57 : decode cX10_paper 57 = .ok (.bipush 61, 2) := by decide +kernel
theorem dX10_paper_59 : decode cX10_paper 59 = .ok (.iload_n 1, 1) := by decide +kernel
theorem dX10_paper_60 : decode cX10_paper 60 = .ok (.imul, 1) := by decide +kernel
theorem dX10_paper_61 : decode cX10_paper 61 = .ok (.iconst 1, 1) := by decide +kernel
theorem dX10_paper_62 : decode cX10_paper 62 = .ok (.iadd, 1) := by decide +kernel
theorem dX10_paper_63 : decode cX10_paper 63 = .ok (.iload_n 2, 1) := by decide +kernel
theorem dX10_paper_64 : decode cX10_paper 64 = .ok (.iadd, 1) := by decide +kernel
theorem dX10_paper_65 : decode cX10_paper 65 = .ok (.iaload, 1) := by decide +kernel
theorem dX10_paper_66 : decode cX10_paper 66 = .ok (.goto 5, 3) := by decide +kernel
theorem dX10_paper_69 : decode cX10_paper 69 = .ok (.ldc 235, 2) := by decide +kernel
theorem dX10_paper_71 : decode cX10_paper 71 = .ok (.ireturn, 1) := by decide +kernel
set_option maxRecDepth 20000 in
theorem dX10_watch_0 : decode cX10_watch 0 = .ok (.aload_n 0, 1) := by decide +kernel
theorem dX10_watch_1 : decode cX10_watch 1 = .ok (.iconst 0, 1) := by decide +kernel
theorem dX10_watch_2 : decode cX10_watch 2 = .ok (.putfield 81, 3) := by decide +kernel
theorem dX10_watch_5 : decode cX10_watch 5 = .ok (.aload_n 0, 1) := by decide +kernel
theorem dX10_watch_6 : decode cX10_watch 6 = .ok (.iconst 3, 1) := by decide +kernel
theorem dX10_watch_7 : decode cX10_watch 7 = .ok (.iload_n 1, 1) := by decide +kernel
theorem dX10_watch_8 : decode cX10_watch 8 = .ok (.invokevirtual 226, 3) := by decide +kernel
theorem dX10_watch_11 : decode cX10_watch 11 = .ok (.ifCond .ne 5, 3) := by decide +kernel
theorem dX10_watch_14 : decode cX10_watch 14 = .ok (.iconst (-1), 1) := by decide +kernel
theorem dX10_watch_15 : decode cX10_watch 15 = .ok (.ireturn, 1) := by decide +kernel
theorem dX10_watch_16 : decode cX10_watch 16 = .ok (.iload_n 2, 1) := by decide +kernel
theorem dX10_watch_17 : decode cX10_watch 17 = .ok (.iconst (-1), 1) := by decide +kernel
theorem dX10_watch_18 : decode cX10_watch 18 = .ok (.if_icmp .ne 21, 3) := by decide +kernel
theorem dX10_watch_21 : decode cX10_watch 21 = .ok (.iload_n 3, 1) := by decide +kernel
theorem dX10_watch_22 : decode cX10_watch 22 = .ok (.ifCond .ne 15, 3) := by decide +kernel
theorem dX10_watch_25 : decode cX10_watch 25 = .ok (.aload_n 0, 1) := by decide +kernel
theorem dX10_watch_26 : decode cX10_watch 26 = .ok (.getfield 35, 3) := by decide +kernel
theorem dX10_watch_29 : decode cX10_watch 29 = .ok (.bipush 17, 2) := by decide +kernel
theorem dX10_watch_31 : decode cX10_watch 31 = .ok (.iload_n 1, 1) := by decide +kernel
theorem dX10_watch_32 : decode cX10_watch 32 = .ok (.imul, 1) := by decide +kernel
theorem dX10_watch_33 : decode cX10_watch 33 = .ok (.iaload, 1) := by decide +kernel
theorem dX10_watch_34 : decode cX10_watch 34 = .ok (.goto 4, 3) := by decide +kernel
theorem dX10_watch_37 : decode cX10_watch 37 = .ok (.iconst (-1), 1) := by decide +kernel
theorem dX10_watch_38 : decode cX10_watch 38 = .ok (.ireturn, 1) := by decide +kernel
theorem dX10_watch_39 : decode cX10_watch 39 = .ok (.iload_n 2, 1) := by decide +kernel
theorem dX10_watch_40 : decode cX10_watch 40 = .ok (.iconst 0, 1) := by decide +kernel
theorem dX10_watch_41 : decode cX10_watch 41 = .ok (.aload_n 0, 1) := by decide +kernel
theorem dX10_watch_42 : decode cX10_watch 42 = .ok (.getfield 35, 3) := by decide +kernel
theorem dX10_watch_45 : decode cX10_watch 45 = .ok (.bipush 17, 2) := by decide +kernel
theorem dX10_watch_47 : decode cX10_watch 47 = .ok (.iload_n 1, 1) := by decide +kernel
theorem dX10_watch_48 : decode cX10_watch 48 = .ok (.imul, 1) := by decide +kernel
theorem dX10_watch_49 : decode cX10_watch 49 = .ok (.iaload, 1) := by decide +kernel
theorem dX10_watch_50 : decode cX10_watch 50 = .ok (.iconst 1, 1) := by decide +kernel
theorem dX10_watch_51 : decode cX10_watch 51 = .ok (.isub, 1) := by decide +kernel
theorem dX10_watch_52 : decode cX10_watch 52 = .ok (.invokestatic 89, 3) := by decide +kernel
theorem dX10_watch_55 : decode cX10_watch 55 = .ok (.ifCond .eq 32, 3) := by decide +kernel
theorem dX10_watch_58 : decode cX10_watch 58 = .ok (.iload_n 3, 1) := by decide +kernel
theorem dX10_watch_59 : decode cX10_watch 59 = .ok (.iconst 0, 1) := by decide +kernel
theorem dX10_watch_60 : decode cX10_watch 60 = .ok (.iconst 1, 1) := by decide +kernel
theorem dX10_watch_61 : decode cX10_watch 61 = .ok (.invokestatic 89, 3) := by decide +kernel
theorem dX10_watch_64 : decode cX10_watch 64 = .ok (.ifCond .eq 23, 3) := by decide +kernel
theorem dX10_watch_67 : decode cX10_watch 67 = .ok (.aload_n 0, 1) := by decide +kernel
theorem dX10_watch_68 : decode cX10_watch 68 = .ok (.getfield 35, 3) := by decide +kernel
theorem dX10_watch_71 : decode cX10_watch 71 = .ok (.bipush 17, 2) := by decide +kernel
theorem dX10_watch_73 : decode cX10_watch 73 = .ok (.iload_n 1, 1) := by decide +kernel
theorem dX10_watch_74 : decode cX10_watch 74 = .ok (.imul, 1) := by decide +kernel
theorem dX10_watch_75 : decode cX10_watch 75 = .ok (.iconst 1, 1) := by decide +kernel
theorem dX10_watch_76 : decode cX10_watch 76 = .ok (.iadd, 1) := by decide +kernel
theorem dX10_watch_77 : decode cX10_watch 77 = .ok (.iconst 2, 1) := by decide +kernel
theorem dX10_watch_78 : decode cX10_watch 78 = .ok (.iload_n 2, 1) := by decide +kernel
theorem dX10_watch_79 : decode cX10_watch 79 = .ok (.imul, 1) := by decide +kernel
theorem dX10_watch_80 : decode cX10_watch 80 = .ok (.iadd, 1) := by decide +kernel
theorem dX10_watch_81 : decode cX10_watch 81 = .ok (.iload_n 3, 1) := by decide +kernel
theorem dX10_watch_82 : decode cX10_watch 82 = .ok (.iadd, 1) := by decide +kernel
theorem dX10_watch_83 : decode cX10_watch 83 = .ok (.iaload, 1) := by decide +kernel
theorem dX10_watch_84 : decode cX10_watch 84 = .ok (.goto 4, 3) := by decide +kernel
theorem dX10_watch_87 : decode cX10_watch 87 = .ok (.iconst (-1), 1) := by decide +kernel
theorem dX10_watch_88 : decode cX10_watch 88 = .ok (.ireturn, 1) := by decide +kernel
theorem dX10_layShip_0 : decode cX10_layShip 0 = .ok (.iconst 0, 1) := by decide +kernel
theorem dX10_layShip_1 : decode cX10_layShip 1 = .ok (.istore_n 2, 1) := by decide +kernel
theorem dX10_layShip_2 : decode cX10_layShip 2 = .ok (.iload_n 2, 1) := by decide +kernel
theorem dX10_layShip_3 : decode cX10_layShip 3 = .ok (.bipush 23, 2) := by decide +kernel
theorem dX10_layShip_5 : decode cX10_layShip 5 = .ok (.if_icmp .ge 26, 3) := by decide +kernel
theorem dX10_layShip_8 : decode cX10_layShip 8 = .ok (.aload_n 0, 1) := by decide +kernel
theorem dX10_layShip_9 : decode cX10_layShip 9 = .ok (.getfield 41, 3) := by decide +kernel
theorem dX10_layShip_12 : decode cX10_layShip 12 = .ok (.iload_n 2, 1) := by decide +kernel
theorem dX10_layShip_13 : decode cX10_layShip 13 = .ok (.aload_n 0, 1) := by decide +kernel
theorem dX10_layShip_14 : decode cX10_layShip 14 = .ok (.getfield 26, 3) := by decide +kernel
theorem dX10_layShip_17 : decode cX10_layShip 17 = .ok (.bipush 23, 2) := by decide +kernel
theorem dX10_layShip_19 : decode cX10_layShip 19 = .ok (.iload_n 1, 1) := by decide +kernel
theorem dX10_layShip_20 : decode cX10_layShip 20 = .ok (.imul, 1) := by decide +kernel
theorem dX10_layShip_21 : decode cX10_layShip 21 = .ok (.iload_n 2, 1) := by decide +kernel
theorem dX10_layShip_22 : decode cX10_layShip 22 = .ok (.iadd, 1) := by decide +kernel
theorem dX10_layShip_23 : decode cX10_layShip 23 = .ok (.iaload, 1) := by decide +kernel
theorem dX10_layShip_24 : decode cX10_layShip 24 = .ok (.iastore, 1) := by decide +kernel
theorem dX10_layShip_25 : decode cX10_layShip 25 = .ok (.iinc 2 1, 3) := by decide +kernel
theorem dX10_layShip_28 : decode cX10_layShip 28 = .ok (.goto (-26), 3) := by decide +kernel
theorem dX10_layShip_31 : decode cX10_layShip 31 = .ok (.return_, 1) := by decide +kernel
theorem dX10_layHand_0 : decode cX10_layHand 0 = .ok (.iconst 0, 1) := by decide +kernel
theorem dX10_layHand_1 : decode cX10_layHand 1 = .ok (.istore_n 3, 1) := by decide +kernel
theorem dX10_layHand_2 : decode cX10_layHand 2 = .ok (.iload_n 3, 1) := by decide +kernel
theorem dX10_layHand_3 : decode cX10_layHand 3 = .ok (.bipush 18, 2) := by decide +kernel
theorem dX10_layHand_5 : decode cX10_layHand 5 = .ok (.if_icmp .ge 31, 3) := by decide +kernel
theorem dX10_layHand_8 : decode cX10_layHand 8 = .ok (.aload_n 0, 1) := by decide +kernel
theorem dX10_layHand_9 : decode cX10_layHand 9 = .ok (.getfield 44, 3) := by decide +kernel
theorem dX10_layHand_12 : decode cX10_layHand 12 = .ok (.bipush 18, 2) := by decide +kernel
theorem dX10_layHand_14 : decode cX10_layHand 14 = .ok (.iload_n 1, 1) := by decide +kernel
theorem dX10_layHand_15 : decode cX10_layHand 15 = .ok (.imul, 1) := by decide +kernel
theorem dX10_layHand_16 : decode cX10_layHand 16 = .ok (.iload_n 3, 1) := by decide +kernel
theorem dX10_layHand_17 : decode cX10_layHand 17 = .ok (.iadd, 1) := by decide +kernel
theorem dX10_layHand_18 : decode cX10_layHand 18 = .ok (.aload_n 0, 1) := by decide +kernel
theorem dX10_layHand_19 : decode cX10_layHand 19 = .ok (.getfield 29, 3) := by decide +kernel
theorem dX10_layHand_22 : decode cX10_layHand 22 = .ok (.bipush 18, 2) := by decide +kernel
theorem dX10_layHand_24 : decode cX10_layHand 24 = .ok (.iload_n 2, 1) := by decide +kernel
theorem dX10_layHand_25 : decode cX10_layHand 25 = .ok (.imul, 1) := by decide +kernel
theorem dX10_layHand_26 : decode cX10_layHand 26 = .ok (.iload_n 3, 1) := by decide +kernel
theorem dX10_layHand_27 : decode cX10_layHand 27 = .ok (.iadd, 1) := by decide +kernel
theorem dX10_layHand_28 : decode cX10_layHand 28 = .ok (.iaload, 1) := by decide +kernel
theorem dX10_layHand_29 : decode cX10_layHand 29 = .ok (.iastore, 1) := by decide +kernel
theorem dX10_layHand_30 : decode cX10_layHand 30 = .ok (.iinc 3 1, 3) := by decide +kernel
theorem dX10_layHand_33 : decode cX10_layHand 33 = .ok (.goto (-31), 3) := by decide +kernel
theorem dX10_layHand_36 : decode cX10_layHand 36 = .ok (.return_, 1) := by decide +kernel
theorem dX10_of_0 : decode cX10_of 0 = .ok (.aload_n 0, 1) := by decide +kernel
theorem dX10_of_1 : decode cX10_of 1 = .ok (.getfield 44, 3) := by decide +kernel
theorem dX10_of_4 : decode cX10_of 4 = .ok (.bipush 18, 2) := by decide +kernel
theorem dX10_of_6 : decode cX10_of 6 = .ok (.iload_n 1, 1) := by decide +kernel
theorem dX10_of_7 : decode cX10_of 7 = .ok (.imul, 1) := by decide +kernel
theorem dX10_of_8 : decode cX10_of 8 = .ok (.iload_n 2, 1) := by decide +kernel
theorem dX10_of_9 : decode cX10_of 9 = .ok (.iadd, 1) := by decide +kernel
theorem dX10_of_10 : decode cX10_of 10 = .ok (.iaload, 1) := by decide +kernel
theorem dX10_of_11 : decode cX10_of 11 = .ok (.ireturn, 1) := by decide +kernel
theorem dX10_draw_0 : decode cX10_draw 0 = .ok (.aload_n 0, 1) := by decide +kernel
theorem dX10_draw_1 : decode cX10_draw 1 = .ok (.aload_n 0, 1) := by decide +kernel
theorem dX10_draw_2 : decode cX10_draw 2 = .ok (.getfield 236, 3) := by decide +kernel
theorem dX10_draw_5 : decode cX10_draw 5 = .ok (.ldc 239, 2) := by decide +kernel
theorem dX10_draw_7 : decode cX10_draw 7 = .ok (.imul, 1) := by decide +kernel
theorem dX10_draw_8 : decode cX10_draw 8 = .ok (.sipush 12345, 3) := by decide +kernel
theorem dX10_draw_11 : decode cX10_draw 11 = .ok (.iadd, 1) := by decide +kernel
theorem dX10_draw_12 : decode cX10_draw 12 = .ok (.putfield 236, 3) := by decide +kernel
theorem dX10_draw_15 : decode cX10_draw 15 = .ok (.aload_n 0, 1) := by decide +kernel
theorem dX10_draw_16 : decode cX10_draw 16 = .ok (.getfield 236, 3) := by decide +kernel
theorem dX10_draw_19 : decode cX10_draw 19 = .ok (.bipush 16, 2) := by decide +kernel
theorem dX10_draw_21 : decode cX10_draw 21 = .ok (.iushr, 1) := by decide +kernel
theorem dX10_draw_22 : decode cX10_draw 22 = .ok (.iload_n 1, 1) := by decide +kernel
theorem dX10_draw_23 : decode cX10_draw 23 = .ok (.irem, 1) := by decide +kernel
theorem dX10_draw_24 : decode cX10_draw 24 = .ok (.ireturn, 1) := by decide +kernel
theorem dX10_signOf_0 : decode cX10_signOf 0 = .ok (.iload_n 0, 1) := by decide +kernel
theorem dX10_signOf_1 : decode cX10_signOf 1 = .ok (.ifCond .le 7, 3) := by decide +kernel
theorem dX10_signOf_4 : decode cX10_signOf 4 = .ok (.iconst 1, 1) := by decide +kernel
theorem dX10_signOf_5 : decode cX10_signOf 5 = .ok (.goto 12, 3) := by decide +kernel
theorem dX10_signOf_8 : decode cX10_signOf 8 = .ok (.iload_n 0, 1) := by decide +kernel
theorem dX10_signOf_9 : decode cX10_signOf 9 = .ok (.ifCond .ge 7, 3) := by decide +kernel
theorem dX10_signOf_12 : decode cX10_signOf 12 = .ok (.iconst (-1), 1) := by decide +kernel
theorem dX10_signOf_13 : decode cX10_signOf 13 = .ok (.goto 4, 3) := by decide +kernel
theorem dX10_signOf_16 : decode cX10_signOf 16 = .ok (.iconst 0, 1) := by decide +kernel
theorem dX10_signOf_17 : decode cX10_signOf 17 = .ok (.ireturn, 1) := by decide +kernel
set_option maxRecDepth 20000 in
theorem dX10_begin_0 : decode cX10_begin 0 = .ok (.aload_n 0, 1) := by decide +kernel
theorem dX10_begin_1 : decode cX10_begin 1 = .ok (.iload_n 1, 1) := by decide +kernel
theorem dX10_begin_2 : decode cX10_begin 2 = .ok (.putfield 236, 3) := by decide +kernel
theorem dX10_begin_5 : decode cX10_begin 5 = .ok (.aload_n 0, 1) := by decide +kernel
theorem dX10_begin_6 : decode cX10_begin 6 = .ok (.iconst 0, 1) := by decide +kernel
theorem dX10_begin_7 : decode cX10_begin 7 = .ok (.putfield 240, 3) := by decide +kernel
theorem dX10_begin_10 : decode cX10_begin 10 = .ok (.aload_n 0, 1) := by decide +kernel
theorem dX10_begin_11 : decode cX10_begin 11 = .ok (.getfield 56, 3) := by decide +kernel
theorem dX10_begin_14 : decode cX10_begin 14 = .ok (.iconst 0, 1) := by decide +kernel
theorem dX10_begin_15 : decode cX10_begin 15 = .ok (.aload_n 0, 1) := by decide +kernel
theorem dX10_begin_16 : decode cX10_begin 16 = .ok (.getfield 41, 3) := by decide +kernel
theorem dX10_begin_19 : decode cX10_begin 19 = .ok (.bipush 8, 2) := by decide +kernel
theorem dX10_begin_21 : decode cX10_begin 21 = .ok (.iaload, 1) := by decide +kernel
theorem dX10_begin_22 : decode cX10_begin 22 = .ok (.iastore, 1) := by decide +kernel
theorem dX10_begin_23 : decode cX10_begin 23 = .ok (.aload_n 0, 1) := by decide +kernel
theorem dX10_begin_24 : decode cX10_begin 24 = .ok (.getfield 59, 3) := by decide +kernel
theorem dX10_begin_27 : decode cX10_begin 27 = .ok (.iconst 0, 1) := by decide +kernel
theorem dX10_begin_28 : decode cX10_begin 28 = .ok (.aload_n 0, 1) := by decide +kernel
theorem dX10_begin_29 : decode cX10_begin 29 = .ok (.getfield 41, 3) := by decide +kernel
theorem dX10_begin_32 : decode cX10_begin 32 = .ok (.bipush 9, 2) := by decide +kernel
theorem dX10_begin_34 : decode cX10_begin 34 = .ok (.iaload, 1) := by decide +kernel
theorem dX10_begin_35 : decode cX10_begin 35 = .ok (.iastore, 1) := by decide +kernel
theorem dX10_begin_36 : decode cX10_begin 36 = .ok (.aload_n 0, 1) := by decide +kernel
theorem dX10_begin_37 : decode cX10_begin 37 = .ok (.getfield 62, 3) := by decide +kernel
theorem dX10_begin_40 : decode cX10_begin 40 = .ok (.iconst 0, 1) := by decide +kernel
theorem dX10_begin_41 : decode cX10_begin 41 = .ok (.iconst 0, 1) := by decide +kernel
theorem dX10_begin_42 : decode cX10_begin 42 = .ok (.iastore, 1) := by decide +kernel
theorem dX10_begin_43 : decode cX10_begin 43 = .ok (.aload_n 0, 1) := by decide +kernel
theorem dX10_begin_44 : decode cX10_begin 44 = .ok (.getfield 65, 3) := by decide +kernel
theorem dX10_begin_47 : decode cX10_begin 47 = .ok (.iconst 0, 1) := by decide +kernel
theorem dX10_begin_48 : decode cX10_begin 48 = .ok (.iconst 0, 1) := by decide +kernel
theorem dX10_begin_49 : decode cX10_begin 49 = .ok (.iastore, 1) := by decide +kernel
theorem dX10_begin_50 : decode cX10_begin 50 = .ok (.aload_n 0, 1) := by decide +kernel
theorem dX10_begin_51 : decode cX10_begin 51 = .ok (.lconst 0, 1) := by decide +kernel
theorem dX10_begin_52 : decode cX10_begin 52 = .ok (.putfield 243, 3) := by decide +kernel
theorem dX10_begin_55 : decode cX10_begin 55 = .ok (.aload_n 0, 1) := by decide +kernel
theorem dX10_begin_56 : decode cX10_begin 56 = .ok (.iconst 0, 1) := by decide +kernel
theorem dX10_begin_57 : decode cX10_begin 57 = .ok (.putfield 246, 3) := by decide +kernel
theorem dX10_begin_60 : decode cX10_begin 60 = .ok (.aload_n 0, 1) := by decide +kernel
theorem dX10_begin_61 : decode cX10_begin 61 = .ok (.lconst 0, 1) := by decide +kernel
theorem dX10_begin_62 : decode cX10_begin 62 = .ok (.putfield 249, 3) := by decide +kernel
theorem dX10_begin_65 : decode cX10_begin 65 = .ok (.aload_n 0, 1) := by decide +kernel
theorem dX10_begin_66 : decode cX10_begin 66 = .ok (.iconst 0, 1) := by decide +kernel
theorem dX10_begin_67 : decode cX10_begin 67 = .ok (.putfield 252, 3) := by decide +kernel
theorem dX10_begin_70 : decode cX10_begin 70 = .ok (.aload_n 0, 1) := by decide +kernel
theorem dX10_begin_71 : decode cX10_begin 71 = .ok (.lconst 0, 1) := by decide +kernel
theorem dX10_begin_72 : decode cX10_begin 72 = .ok (.putfield 255, 3) := by decide +kernel
theorem dX10_begin_75 : decode cX10_begin 75 = .ok (.aload_n 0, 1) := by decide +kernel
theorem dX10_begin_76 : decode cX10_begin 76 = .ok (.iconst 0, 1) := by decide +kernel
theorem dX10_begin_77 : decode cX10_begin 77 = .ok (.putfield 258, 3) := by decide +kernel
theorem dX10_begin_80 : decode cX10_begin 80 = .ok (.aload_n 0, 1) := by decide +kernel
theorem dX10_begin_81 : decode cX10_begin 81 = .ok (.getfield 68, 3) := by decide +kernel
theorem dX10_begin_84 : decode cX10_begin 84 = .ok (.iconst 0, 1) := by decide +kernel
theorem dX10_begin_85 : decode cX10_begin 85 = .ok (.iconst 0, 1) := by decide +kernel
theorem dX10_begin_86 : decode cX10_begin 86 = .ok (.iastore, 1) := by decide +kernel
theorem dX10_begin_87 : decode cX10_begin 87 = .ok (.aload_n 0, 1) := by decide +kernel
theorem dX10_begin_88 : decode cX10_begin 88 = .ok (.aload_n 0, 1) := by decide +kernel
theorem dX10_begin_89 : decode cX10_begin 89 = .ok (.getfield 41, 3) := by decide +kernel
theorem dX10_begin_92 : decode cX10_begin 92 = .ok (.bipush 8, 2) := by decide +kernel
theorem dX10_begin_94 : decode cX10_begin 94 = .ok (.iaload, 1) := by decide +kernel
theorem dX10_begin_95 : decode cX10_begin 95 = .ok (.invokestatic 261, 3) := by decide +kernel
theorem dX10_begin_98 : decode cX10_begin 98 = .ok (.putfield 264, 3) := by decide +kernel
theorem dX10_begin_101 : decode cX10_begin 101 = .ok (.aload_n 0, 1) := by decide +kernel
theorem dX10_begin_102 : decode cX10_begin 102 = .ok (.iconst 0, 1) := by decide +kernel
theorem dX10_begin_103 : decode cX10_begin 103 = .ok (.putfield 267, 3) := by decide +kernel
theorem dX10_begin_106 : decode cX10_begin 106 = .ok (.aload_n 0, 1) := by decide +kernel
theorem dX10_begin_107 : decode cX10_begin 107 = .ok (.iconst 0, 1) := by decide +kernel
theorem dX10_begin_108 : decode cX10_begin 108 = .ok (.putfield 270, 3) := by decide +kernel
theorem dX10_begin_111 : decode cX10_begin 111 = .ok (.aload_n 0, 1) := by decide +kernel
theorem dX10_begin_112 : decode cX10_begin 112 = .ok (.iconst 0, 1) := by decide +kernel
theorem dX10_begin_113 : decode cX10_begin 113 = .ok (.putfield 273, 3) := by decide +kernel
theorem dX10_begin_116 : decode cX10_begin 116 = .ok (.return_, 1) := by decide +kernel
theorem dX10_takes_0 : decode cX10_takes 0 = .ok (.aload_n 0, 1) := by decide +kernel
theorem dX10_takes_1 : decode cX10_takes 1 = .ok (.getfield 47, 3) := by decide +kernel
theorem dX10_takes_4 : decode cX10_takes 4 = .ok (.iload_n 1, 1) := by decide +kernel
theorem dX10_takes_5 : decode cX10_takes 5 = .ok (.iconst 0, 1) := by decide +kernel
theorem dX10_takes_6 : decode cX10_takes 6 = .ok (.iastore, 1) := by decide +kernel
theorem dX10_takes_7 : decode cX10_takes 7 = .ok (.aload_n 0, 1) := by decide +kernel
theorem dX10_takes_8 : decode cX10_takes 8 = .ok (.getfield 50, 3) := by decide +kernel
theorem dX10_takes_11 : decode cX10_takes 11 = .ok (.iload_n 1, 1) := by decide +kernel
theorem dX10_takes_12 : decode cX10_takes 12 = .ok (.iconst 0, 1) := by decide +kernel
theorem dX10_takes_13 : decode cX10_takes 13 = .ok (.iastore, 1) := by decide +kernel
theorem dX10_takes_14 : decode cX10_takes 14 = .ok (.aload_n 0, 1) := by decide +kernel
theorem dX10_takes_15 : decode cX10_takes 15 = .ok (.getfield 53, 3) := by decide +kernel
theorem dX10_takes_18 : decode cX10_takes 18 = .ok (.iload_n 1, 1) := by decide +kernel
theorem dX10_takes_19 : decode cX10_takes 19 = .ok (.aload_n 0, 1) := by decide +kernel
theorem dX10_takes_20 : decode cX10_takes 20 = .ok (.getfield 240, 3) := by decide +kernel
theorem dX10_takes_23 : decode cX10_takes 23 = .ok (.iastore, 1) := by decide +kernel
theorem dX10_takes_24 : decode cX10_takes 24 = .ok (.return_, 1) := by decide +kernel
set_option maxRecDepth 20000 in
theorem dX10_isStar_0 : decode cX10_isStar 0 = .ok (.iconst 0, 1) := by decide +kernel
theorem dX10_isStar_1 : decode cX10_isStar 1 = .ok (.istore_n 3, 1) := by decide +kernel
theorem dX10_isStar_2 : decode cX10_isStar 2 = .ok (.iload_n 3, 1) := by decide +kernel
theorem dX10_isStar_3 : decode cX10_isStar 3 = .ok (.aload_n 0, 1) := by decide +kernel
theorem dX10_isStar_4 : decode cX10_isStar 4 = .ok (.iload_n 1, 1) := by decide +kernel
theorem dX10_isStar_5 : decode cX10_isStar 5 = .ok (.bipush 9, 2) := by decide +kernel
theorem dX10_isStar_7 : decode cX10_isStar 7 = .ok (.invokevirtual 276, 3) := by decide +kernel
theorem dX10_isStar_10 : decode cX10_isStar 10 = .ok (.if_icmp .ge 40, 3) := by decide +kernel
theorem dX10_isStar_13 : decode cX10_isStar 13 = .ok (.iload_n 2, 1) := by decide +kernel
theorem dX10_isStar_14 : decode cX10_isStar 14 = .ok (.aload_n 0, 1) := by decide +kernel
theorem dX10_isStar_15 : decode cX10_isStar 15 = .ok (.iload_n 1, 1) := by decide +kernel
theorem dX10_isStar_16 : decode cX10_isStar 16 = .ok (.bipush 10, 2) := by decide +kernel
theorem dX10_isStar_18 : decode cX10_isStar 18 = .ok (.iconst 2, 1) := by decide +kernel
theorem dX10_isStar_19 : decode cX10_isStar 19 = .ok (.iload_n 3, 1) := by decide +kernel
theorem dX10_isStar_20 : decode cX10_isStar 20 = .ok (.imul, 1) := by decide +kernel
theorem dX10_isStar_21 : decode cX10_isStar 21 = .ok (.iadd, 1) := by decide +kernel
theorem dX10_isStar_22 : decode cX10_isStar 22 = .ok (.invokevirtual 276, 3) := by decide +kernel
theorem dX10_isStar_25 : decode cX10_isStar 25 = .ok (.aload_n 0, 1) := by decide +kernel
theorem dX10_isStar_26 : decode cX10_isStar 26 = .ok (.iload_n 1, 1) := by decide +kernel
theorem dX10_isStar_27 : decode cX10_isStar 27 = .ok (.bipush 11, 2) := by decide +kernel
theorem dX10_isStar_29 : decode cX10_isStar 29 = .ok (.iconst 2, 1) := by decide +kernel
theorem dX10_isStar_30 : decode cX10_isStar 30 = .ok (.iload_n 3, 1) := by decide +kernel
theorem dX10_isStar_31 : decode cX10_isStar 31 = .ok (.imul, 1) := by decide +kernel
theorem dX10_isStar_32 : decode cX10_isStar 32 = .ok (.iadd, 1) := by decide +kernel
theorem dX10_isStar_33 : decode cX10_isStar 33 = .ok (.invokevirtual 276, 3) := by decide +kernel
theorem dX10_isStar_36 : decode cX10_isStar 36 = .ok (.invokestatic 89, 3) := by decide +kernel
theorem dX10_isStar_39 : decode cX10_isStar 39 = .ok (.ifCond .eq 5, 3) := by decide +kernel
theorem dX10_isStar_42 : decode cX10_isStar 42 = .ok (.iconst 1, 1) := by decide +kernel
theorem dX10_isStar_43 : decode cX10_isStar 43 = .ok (.ireturn, 1) := by decide +kernel
theorem dX10_isStar_44 : decode cX10_isStar 44 = .ok (.iinc 3 1, 3) := by decide +kernel
theorem dX10_isStar_47 : decode cX10_isStar 47 = .ok (.goto (-45), 3) := by decide +kernel
theorem dX10_isStar_50 : decode cX10_isStar 50 = .ok (.iconst 0, 1) := by decide +kernel
theorem dX10_isStar_51 : decode cX10_isStar 51 = .ok (.ireturn, 1) := by decide +kernel
set_option maxRecDepth 20000 in
theorem dX10_sees_0 : decode cX10_sees 0 = .ok (.aload_n 0, 1) := by decide +kernel
theorem dX10_sees_1 : decode cX10_sees 1 = .ok (.iload_n 1, 1) := by decide +kernel
theorem dX10_sees_2 : decode cX10_sees 2 = .ok (.bipush 6, 2) := by decide +kernel
theorem dX10_sees_4 : decode cX10_sees 4 = .ok (.invokevirtual 276, 3) := by decide +kernel
theorem dX10_sees_7 : decode cX10_sees 7 = .ok (.ifCond .ne 7, 3) := by decide +kernel
theorem dX10_sees_10 : decode cX10_sees 10 = .ok (.iconst 0, 1) := by decide +kernel
theorem dX10_sees_11 : decode cX10_sees 11 = .ok (.goto 29, 3) := by decide +kernel
theorem dX10_sees_14 : decode cX10_sees 14 = .ok (.iload_n 2, 1) := by decide +kernel
theorem dX10_sees_15 : decode cX10_sees 15 = .ok (.aload_n 0, 1) := by decide +kernel
theorem dX10_sees_16 : decode cX10_sees 16 = .ok (.iload_n 1, 1) := by decide +kernel
theorem dX10_sees_17 : decode cX10_sees 17 = .ok (.bipush 6, 2) := by decide +kernel
theorem dX10_sees_19 : decode cX10_sees 19 = .ok (.invokevirtual 276, 3) := by decide +kernel
theorem dX10_sees_22 : decode cX10_sees 22 = .ok (.idiv, 1) := by decide +kernel
theorem dX10_sees_23 : decode cX10_sees 23 = .ok (.iconst 5, 1) := by decide +kernel
theorem dX10_sees_24 : decode cX10_sees 24 = .ok (.if_icmp .ge 15, 3) := by decide +kernel
theorem dX10_sees_27 : decode cX10_sees 27 = .ok (.iload_n 2, 1) := by decide +kernel
theorem dX10_sees_28 : decode cX10_sees 28 = .ok (.aload_n 0, 1) := by decide +kernel
theorem dX10_sees_29 : decode cX10_sees 29 = .ok (.iload_n 1, 1) := by decide +kernel
theorem dX10_sees_30 : decode cX10_sees 30 = .ok (.bipush 6, 2) := by decide +kernel
theorem dX10_sees_32 : decode cX10_sees 32 = .ok (.invokevirtual 276, 3) := by decide +kernel
theorem dX10_sees_35 : decode cX10_sees 35 = .ok (.idiv, 1) := by decide +kernel
theorem dX10_sees_36 : decode cX10_sees 36 = .ok (.goto 4, 3) := by decide +kernel
theorem dX10_sees_39 : decode cX10_sees 39 = .ok (.iconst 5, 1) := by decide +kernel
theorem dX10_sees_40 : decode cX10_sees 40 = .ok (.istore_n 3, 1) := by decide +kernel
theorem dX10_sees_41 : decode cX10_sees 41 = .ok (.aload_n 0, 1) := by decide +kernel
theorem dX10_sees_42 : decode cX10_sees 42 = .ok (.iload_n 1, 1) := by decide +kernel
theorem dX10_sees_43 : decode cX10_sees 43 = .ok (.iload_n 2, 1) := by decide +kernel
theorem dX10_sees_44 : decode cX10_sees 44 = .ok (.invokevirtual 280, 3) := by decide +kernel
theorem dX10_sees_47 : decode cX10_sees 47 = .ok (.ifCond .eq 7, 3) := by decide +kernel
theorem dX10_sees_50 : decode cX10_sees 50 = .ok (.iconst 0, 1) := by decide +kernel
theorem dX10_sees_51 : decode cX10_sees 51 = .ok (.goto 11, 3) := by decide +kernel
theorem dX10_sees_54 : decode cX10_sees 54 = .ok (.aload_n 0, 1) := by decide +kernel
theorem dX10_sees_55 : decode cX10_sees 55 = .ok (.getfield 41, 3) := by decide +kernel
theorem dX10_sees_58 : decode cX10_sees 58 = .ok (.iconst 2, 1) := by decide +kernel
theorem dX10_sees_59 : decode cX10_sees 59 = .ok (.iaload, 1) := by decide +kernel
theorem dX10_sees_60 : decode cX10_sees 60 = .ok (.iload_n 3, 1) := by decide +kernel
theorem dX10_sees_61 : decode cX10_sees 61 = .ok (.iadd, 1) := by decide +kernel
theorem dX10_sees_62 : decode cX10_sees 62 = .ok (.istore 4, 2) := by decide +kernel
theorem dX10_sees_64 : decode cX10_sees 64 = .ok (.aload_n 0, 1) := by decide +kernel
theorem dX10_sees_65 : decode cX10_sees 65 = .ok (.getfield 56, 3) := by decide +kernel
theorem dX10_sees_68 : decode cX10_sees 68 = .ok (.aload_n 0, 1) := by decide +kernel
theorem dX10_sees_69 : decode cX10_sees 69 = .ok (.getfield 240, 3) := by decide +kernel
theorem dX10_sees_72 : decode cX10_sees 72 = .ok (.iload 4, 2) := by decide +kernel
theorem dX10_sees_74 : decode cX10_sees 74 = .ok (.if_icmp .ge 7, 3) := by decide +kernel
theorem dX10_sees_77 : decode cX10_sees 77 = .ok (.iconst 0, 1) := by decide +kernel
theorem dX10_sees_78 : decode cX10_sees 78 = .ok (.goto 10, 3) := by decide +kernel
theorem dX10_sees_81 : decode cX10_sees 81 = .ok (.aload_n 0, 1) := by decide +kernel
theorem dX10_sees_82 : decode cX10_sees 82 = .ok (.getfield 240, 3) := by decide +kernel
theorem dX10_sees_85 : decode cX10_sees 85 = .ok (.iload 4, 2) := by decide +kernel
theorem dX10_sees_87 : decode cX10_sees 87 = .ok (.isub, 1) := by decide +kernel
theorem dX10_sees_88 : decode cX10_sees 88 = .ok (.iaload, 1) := by decide +kernel
theorem dX10_sees_89 : decode cX10_sees 89 = .ok (.istore 5, 2) := by decide +kernel
theorem dX10_sees_91 : decode cX10_sees 91 = .ok (.iload 5, 2) := by decide +kernel
theorem dX10_sees_93 : decode cX10_sees 93 = .ok (.iload 5, 2) := by decide +kernel
theorem dX10_sees_95 : decode cX10_sees 95 = .ok (.aload_n 0, 1) := by decide +kernel
theorem dX10_sees_96 : decode cX10_sees 96 = .ok (.iload_n 1, 1) := by decide +kernel
theorem dX10_sees_97 : decode cX10_sees 97 = .ok (.iconst 4, 1) := by decide +kernel
theorem dX10_sees_98 : decode cX10_sees 98 = .ok (.invokevirtual 276, 3) := by decide +kernel
theorem dX10_sees_101 : decode cX10_sees 101 = .ok (.irem, 1) := by decide +kernel
theorem dX10_sees_102 : decode cX10_sees 102 = .ok (.isub, 1) := by decide +kernel
theorem dX10_sees_103 : decode cX10_sees 103 = .ok (.ireturn, 1) := by decide +kernel
set_option maxRecDepth 20000 in
theorem dX10_wants_0 : decode cX10_wants 0 = .ok (.aload_n 0, 1) := by decide +kernel
theorem dX10_wants_1 : decode cX10_wants 1 = .ok (.getfield 240, 3) := by decide +kernel
theorem dX10_wants_4 : decode cX10_wants 4 = .ok (.iconst 1, 1) := by decide +kernel
theorem dX10_wants_5 : decode cX10_wants 5 = .ok (.iadd, 1) := by decide +kernel
theorem dX10_wants_6 : decode cX10_wants 6 = .ok (.aload_n 0, 1) := by decide +kernel
theorem dX10_wants_7 : decode cX10_wants 7 = .ok (.getfield 53, 3) := by decide +kernel
theorem dX10_wants_10 : decode cX10_wants 10 = .ok (.iload_n 1, 1) := by decide +kernel
theorem dX10_wants_11 : decode cX10_wants 11 = .ok (.iaload, 1) := by decide +kernel
theorem dX10_wants_12 : decode cX10_wants 12 = .ok (.isub, 1) := by decide +kernel
theorem dX10_wants_13 : decode cX10_wants 13 = .ok (.istore_n 2, 1) := by decide +kernel
theorem dX10_wants_14 : decode cX10_wants 14 = .ok (.aload_n 0, 1) := by decide +kernel
theorem dX10_wants_15 : decode cX10_wants 15 = .ok (.iload_n 1, 1) := by decide +kernel
theorem dX10_wants_16 : decode cX10_wants 16 = .ok (.iload_n 2, 1) := by decide +kernel
theorem dX10_wants_17 : decode cX10_wants 17 = .ok (.invokevirtual 283, 3) := by decide +kernel
theorem dX10_wants_20 : decode cX10_wants 20 = .ok (.istore_n 3, 1) := by decide +kernel
theorem dX10_wants_21 : decode cX10_wants 21 = .ok (.iload_n 2, 1) := by decide +kernel
theorem dX10_wants_22 : decode cX10_wants 22 = .ok (.iconst 1, 1) := by decide +kernel
theorem dX10_wants_23 : decode cX10_wants 23 = .ok (.if_icmp .ne 7, 3) := by decide +kernel
theorem dX10_wants_26 : decode cX10_wants 26 = .ok (.iconst 0, 1) := by decide +kernel
theorem dX10_wants_27 : decode cX10_wants 27 = .ok (.goto 11, 3) := by decide +kernel
theorem dX10_wants_30 : decode cX10_wants 30 = .ok (.iload_n 3, 1) := by decide +kernel
theorem dX10_wants_31 : decode cX10_wants 31 = .ok (.aload_n 0, 1) := by decide +kernel
theorem dX10_wants_32 : decode cX10_wants 32 = .ok (.getfield 47, 3) := by decide +kernel
theorem dX10_wants_35 : decode cX10_wants 35 = .ok (.iload_n 1, 1) := by decide +kernel
theorem dX10_wants_36 : decode cX10_wants 36 = .ok (.iaload, 1) := by decide +kernel
theorem dX10_wants_37 : decode cX10_wants 37 = .ok (.isub, 1) := by decide +kernel
theorem dX10_wants_38 : decode cX10_wants 38 = .ok (.istore 4, 2) := by decide +kernel
theorem dX10_wants_40 : decode cX10_wants 40 = .ok (.aload_n 0, 1) := by decide +kernel
theorem dX10_wants_41 : decode cX10_wants 41 = .ok (.getfield 47, 3) := by decide +kernel
theorem dX10_wants_44 : decode cX10_wants 44 = .ok (.iload_n 1, 1) := by decide +kernel
theorem dX10_wants_45 : decode cX10_wants 45 = .ok (.iload_n 3, 1) := by decide +kernel
theorem dX10_wants_46 : decode cX10_wants 46 = .ok (.iastore, 1) := by decide +kernel
theorem dX10_wants_47 : decode cX10_wants 47 = .ok (.aload_n 0, 1) := by decide +kernel
theorem dX10_wants_48 : decode cX10_wants 48 = .ok (.getfield 50, 3) := by decide +kernel
theorem dX10_wants_51 : decode cX10_wants 51 = .ok (.iload_n 1, 1) := by decide +kernel
theorem dX10_wants_52 : decode cX10_wants 52 = .ok (.aload_n 0, 1) := by decide +kernel
theorem dX10_wants_53 : decode cX10_wants 53 = .ok (.getfield 50, 3) := by decide +kernel
theorem dX10_wants_56 : decode cX10_wants 56 = .ok (.iload_n 1, 1) := by decide +kernel
theorem dX10_wants_57 : decode cX10_wants 57 = .ok (.iaload, 1) := by decide +kernel
theorem dX10_wants_58 : decode cX10_wants 58 = .ok (.iload_n 3, 1) := by decide +kernel
theorem dX10_wants_59 : decode cX10_wants 59 = .ok (.iadd, 1) := by decide +kernel
theorem dX10_wants_60 : decode cX10_wants 60 = .ok (.sipush 9999, 3) := by decide +kernel
theorem dX10_wants_63 : decode cX10_wants 63 = .ok (.invokestatic 286, 3) := by decide +kernel
theorem dX10_wants_66 : decode cX10_wants 66 = .ok (.iastore, 1) := by decide +kernel
theorem dX10_wants_67 : decode cX10_wants 67 = .ok (.aload_n 0, 1) := by decide +kernel
theorem dX10_wants_68 : decode cX10_wants 68 = .ok (.iload_n 1, 1) := by decide +kernel
theorem dX10_wants_69 : decode cX10_wants 69 = .ok (.iconst 0, 1) := by decide +kernel
theorem dX10_wants_70 : decode cX10_wants 70 = .ok (.invokevirtual 276, 3) := by decide +kernel
theorem dX10_wants_73 : decode cX10_wants 73 = .ok (.ineg, 1) := by decide +kernel
theorem dX10_wants_74 : decode cX10_wants 74 = .ok (.iload_n 3, 1) := by decide +kernel
theorem dX10_wants_75 : decode cX10_wants 75 = .ok (.imul, 1) := by decide +kernel
theorem dX10_wants_76 : decode cX10_wants 76 = .ok (.aload_n 0, 1) := by decide +kernel
theorem dX10_wants_77 : decode cX10_wants 77 = .ok (.iload_n 1, 1) := by decide +kernel
theorem dX10_wants_78 : decode cX10_wants 78 = .ok (.iconst 1, 1) := by decide +kernel
theorem dX10_wants_79 : decode cX10_wants 79 = .ok (.invokevirtual 276, 3) := by decide +kernel
theorem dX10_wants_82 : decode cX10_wants 82 = .ok (.iload 4, 2) := by decide +kernel
theorem dX10_wants_84 : decode cX10_wants 84 = .ok (.imul, 1) := by decide +kernel
theorem dX10_wants_85 : decode cX10_wants 85 = .ok (.isub, 1) := by decide +kernel
theorem dX10_wants_86 : decode cX10_wants 86 = .ok (.aload_n 0, 1) := by decide +kernel
theorem dX10_wants_87 : decode cX10_wants 87 = .ok (.iload_n 1, 1) := by decide +kernel
theorem dX10_wants_88 : decode cX10_wants 88 = .ok (.iconst 2, 1) := by decide +kernel
theorem dX10_wants_89 : decode cX10_wants 89 = .ok (.invokevirtual 276, 3) := by decide +kernel
theorem dX10_wants_92 : decode cX10_wants 92 = .ok (.aload_n 0, 1) := by decide +kernel
theorem dX10_wants_93 : decode cX10_wants 93 = .ok (.getfield 50, 3) := by decide +kernel
theorem dX10_wants_96 : decode cX10_wants 96 = .ok (.iload_n 1, 1) := by decide +kernel
theorem dX10_wants_97 : decode cX10_wants 97 = .ok (.iaload, 1) := by decide +kernel
theorem dX10_wants_98 : decode cX10_wants 98 = .ok (.imul, 1) := by decide +kernel
theorem dX10_wants_99 : decode cX10_wants 99 = .ok (.bipush 100, 2) := by decide +kernel
theorem dX10_wants_101 : decode cX10_wants 101 = .ok (.idiv, 1) := by decide +kernel
theorem dX10_wants_102 : decode cX10_wants 102 = .ok (.isub, 1) := by decide +kernel
theorem dX10_wants_103 : decode cX10_wants 103 = .ok (.bipush 100, 2) := by decide +kernel
theorem dX10_wants_105 : decode cX10_wants 105 = .ok (.idiv, 1) := by decide +kernel
theorem dX10_wants_106 : decode cX10_wants 106 = .ok (.aload_n 0, 1) := by decide +kernel
theorem dX10_wants_107 : decode cX10_wants 107 = .ok (.getfield 41, 3) := by decide +kernel
theorem dX10_wants_110 : decode cX10_wants 110 = .ok (.iconst 3, 1) := by decide +kernel
theorem dX10_wants_111 : decode cX10_wants 111 = .ok (.iaload, 1) := by decide +kernel
theorem dX10_wants_112 : decode cX10_wants 112 = .ok (.invokestatic 286, 3) := by decide +kernel
theorem dX10_wants_115 : decode cX10_wants 115 = .ok (.istore 5, 2) := by decide +kernel
theorem dX10_wants_117 : decode cX10_wants 117 = .ok (.iload_n 3, 1) := by decide +kernel
theorem dX10_wants_118 : decode cX10_wants 118 = .ok (.invokestatic 289, 3) := by decide +kernel
theorem dX10_wants_121 : decode cX10_wants 121 = .ok (.aload_n 0, 1) := by decide +kernel
theorem dX10_wants_122 : decode cX10_wants 122 = .ok (.iload_n 1, 1) := by decide +kernel
theorem dX10_wants_123 : decode cX10_wants 123 = .ok (.iconst 3, 1) := by decide +kernel
theorem dX10_wants_124 : decode cX10_wants 124 = .ok (.invokevirtual 276, 3) := by decide +kernel
theorem dX10_wants_127 : decode cX10_wants 127 = .ok (.if_icmp .gt 7, 3) := by decide +kernel
theorem dX10_wants_130 : decode cX10_wants 130 = .ok (.iconst 0, 1) := by decide +kernel
theorem dX10_wants_131 : decode cX10_wants 131 = .ok (.goto 5, 3) := by decide +kernel
theorem dX10_wants_134 : decode cX10_wants 134 = .ok (.iload 5, 2) := by decide +kernel
theorem dX10_wants_136 : decode cX10_wants 136 = .ok (.istore 5, 2) := by decide +kernel
theorem dX10_wants_138 : decode cX10_wants 138 = .ok (.aload_n 0, 1) := by decide +kernel
theorem dX10_wants_139 : decode cX10_wants 139 = .ok (.iload_n 1, 1) := by decide +kernel
theorem dX10_wants_140 : decode cX10_wants 140 = .ok (.bipush 8, 2) := by decide +kernel
theorem dX10_wants_142 : decode cX10_wants 142 = .ok (.invokevirtual 276, 3) := by decide +kernel
theorem dX10_wants_145 : decode cX10_wants 145 = .ok (.iconst 1, 1) := by decide +kernel
theorem dX10_wants_146 : decode cX10_wants 146 = .ok (.if_icmp .ne 20, 3) := by decide +kernel
theorem dX10_wants_149 : decode cX10_wants 149 = .ok (.iload 4, 2) := by decide +kernel
theorem dX10_wants_151 : decode cX10_wants 151 = .ok (.invokestatic 261, 3) := by decide +kernel
theorem dX10_wants_154 : decode cX10_wants 154 = .ok (.iload_n 3, 1) := by decide +kernel
theorem dX10_wants_155 : decode cX10_wants 155 = .ok (.invokestatic 261, 3) := by decide +kernel
theorem dX10_wants_158 : decode cX10_wants 158 = .ok (.imul, 1) := by decide +kernel
theorem dX10_wants_159 : decode cX10_wants 159 = .ok (.ifCond .ge 7, 3) := by decide +kernel
theorem dX10_wants_162 : decode cX10_wants 162 = .ok (.iconst 0, 1) := by decide +kernel
theorem dX10_wants_163 : decode cX10_wants 163 = .ok (.goto 5, 3) := by decide +kernel
theorem dX10_wants_166 : decode cX10_wants 166 = .ok (.iload 5, 2) := by decide +kernel
theorem dX10_wants_168 : decode cX10_wants 168 = .ok (.istore 5, 2) := by decide +kernel
theorem dX10_wants_170 : decode cX10_wants 170 = .ok (.iload_n 2, 1) := by decide +kernel
theorem dX10_wants_171 : decode cX10_wants 171 = .ok (.aload_n 0, 1) := by decide +kernel
theorem dX10_wants_172 : decode cX10_wants 172 = .ok (.iload_n 1, 1) := by decide +kernel
theorem dX10_wants_173 : decode cX10_wants 173 = .ok (.iconst 5, 1) := by decide +kernel
theorem dX10_wants_174 : decode cX10_wants 174 = .ok (.invokevirtual 276, 3) := by decide +kernel
theorem dX10_wants_177 : decode cX10_wants 177 = .ok (.if_icmp .gt 9, 3) := by decide +kernel
theorem dX10_wants_180 : decode cX10_wants 180 = .ok (.iload 5, 2) := by decide +kernel
theorem dX10_wants_182 : decode cX10_wants 182 = .ok (.ineg, 1) := by decide +kernel
theorem dX10_wants_183 : decode cX10_wants 183 = .ok (.goto 5, 3) := by decide +kernel
theorem dX10_wants_186 : decode cX10_wants 186 = .ok (.iload 5, 2) := by decide +kernel
theorem dX10_wants_188 : decode cX10_wants 188 = .ok (.istore 5, 2) := by decide +kernel
theorem dX10_wants_190 : decode cX10_wants 190 = .ok (.aload_n 0, 1) := by decide +kernel
theorem dX10_wants_191 : decode cX10_wants 191 = .ok (.iload_n 1, 1) := by decide +kernel
theorem dX10_wants_192 : decode cX10_wants 192 = .ok (.bipush 7, 2) := by decide +kernel
theorem dX10_wants_194 : decode cX10_wants 194 = .ok (.invokevirtual 276, 3) := by decide +kernel
theorem dX10_wants_197 : decode cX10_wants 197 = .ok (.ifCond .le 30, 3) := by decide +kernel
theorem dX10_wants_200 : decode cX10_wants 200 = .ok (.aload_n 0, 1) := by decide +kernel
theorem dX10_wants_201 : decode cX10_wants 201 = .ok (.bipush 100, 2) := by decide +kernel
theorem dX10_wants_203 : decode cX10_wants 203 = .ok (.invokevirtual 292, 3) := by decide +kernel
theorem dX10_wants_206 : decode cX10_wants 206 = .ok (.aload_n 0, 1) := by decide +kernel
theorem dX10_wants_207 : decode cX10_wants 207 = .ok (.iload_n 1, 1) := by decide +kernel
theorem dX10_wants_208 : decode cX10_wants 208 = .ok (.bipush 7, 2) := by decide +kernel
theorem dX10_wants_210 : decode cX10_wants 210 = .ok (.invokevirtual 276, 3) := by decide +kernel
theorem dX10_wants_213 : decode cX10_wants 213 = .ok (.if_icmp .ge 14, 3) := by decide +kernel
theorem dX10_wants_216 : decode cX10_wants 216 = .ok (.aload_n 0, 1) := by decide +kernel
theorem dX10_wants_217 : decode cX10_wants 217 = .ok (.getfield 62, 3) := by decide +kernel
theorem dX10_wants_220 : decode cX10_wants 220 = .ok (.aload_n 0, 1) := by decide +kernel
theorem dX10_wants_221 : decode cX10_wants 221 = .ok (.getfield 240, 3) := by decide +kernel
theorem dX10_wants_224 : decode cX10_wants 224 = .ok (.iaload, 1) := by decide +kernel
theorem dX10_wants_225 : decode cX10_wants 225 = .ok (.istore 5, 2) := by decide +kernel
theorem dX10_wants_227 : decode cX10_wants 227 = .ok (.iload 5, 2) := by decide +kernel
theorem dX10_wants_229 : decode cX10_wants 229 = .ok (.ireturn, 1) := by decide +kernel
set_option maxRecDepth 20000 in
theorem dX10_pass_0 : decode cX10_pass 0 = .ok (.aload_n 0, 1) := by decide +kernel
theorem dX10_pass_1 : decode cX10_pass 1 = .ok (.getfield 62, 3) := by decide +kernel
theorem dX10_pass_4 : decode cX10_pass 4 = .ok (.aload_n 0, 1) := by decide +kernel
theorem dX10_pass_5 : decode cX10_pass 5 = .ok (.getfield 240, 3) := by decide +kernel
theorem dX10_pass_8 : decode cX10_pass 8 = .ok (.iaload, 1) := by decide +kernel
theorem dX10_pass_9 : decode cX10_pass 9 = .ok (.iload_n 1, 1) := by decide +kernel
theorem dX10_pass_10 : decode cX10_pass 10 = .ok (.aload_n 0, 1) := by decide +kernel
theorem dX10_pass_11 : decode cX10_pass 11 = .ok (.getfield 62, 3) := by decide +kernel
theorem dX10_pass_14 : decode cX10_pass 14 = .ok (.aload_n 0, 1) := by decide +kernel
theorem dX10_pass_15 : decode cX10_pass 15 = .ok (.getfield 240, 3) := by decide +kernel
theorem dX10_pass_18 : decode cX10_pass 18 = .ok (.iaload, 1) := by decide +kernel
theorem dX10_pass_19 : decode cX10_pass 19 = .ok (.isub, 1) := by decide +kernel
theorem dX10_pass_20 : decode cX10_pass 20 = .ok (.aload_n 0, 1) := by decide +kernel
theorem dX10_pass_21 : decode cX10_pass 21 = .ok (.getfield 41, 3) := by decide +kernel
theorem dX10_pass_24 : decode cX10_pass 24 = .ok (.iconst 4, 1) := by decide +kernel
theorem dX10_pass_25 : decode cX10_pass 25 = .ok (.iaload, 1) := by decide +kernel
theorem dX10_pass_26 : decode cX10_pass 26 = .ok (.invokestatic 286, 3) := by decide +kernel
theorem dX10_pass_29 : decode cX10_pass 29 = .ok (.iadd, 1) := by decide +kernel
theorem dX10_pass_30 : decode cX10_pass 30 = .ok (.istore_n 3, 1) := by decide +kernel
theorem dX10_pass_31 : decode cX10_pass 31 = .ok (.aload_n 0, 1) := by decide +kernel
theorem dX10_pass_32 : decode cX10_pass 32 = .ok (.getfield 56, 3) := by decide +kernel
theorem dX10_pass_35 : decode cX10_pass 35 = .ok (.aload_n 0, 1) := by decide +kernel
theorem dX10_pass_36 : decode cX10_pass 36 = .ok (.getfield 240, 3) := by decide +kernel
theorem dX10_pass_39 : decode cX10_pass 39 = .ok (.iaload, 1) := by decide +kernel
theorem dX10_pass_40 : decode cX10_pass 40 = .ok (.istore 4, 2) := by decide +kernel
theorem dX10_pass_42 : decode cX10_pass 42 = .ok (.aload_n 0, 1) := by decide +kernel
theorem dX10_pass_43 : decode cX10_pass 43 = .ok (.getfield 59, 3) := by decide +kernel
theorem dX10_pass_46 : decode cX10_pass 46 = .ok (.aload_n 0, 1) := by decide +kernel
theorem dX10_pass_47 : decode cX10_pass 47 = .ok (.getfield 240, 3) := by decide +kernel
theorem dX10_pass_50 : decode cX10_pass 50 = .ok (.iaload, 1) := by decide +kernel
theorem dX10_pass_51 : decode cX10_pass 51 = .ok (.istore 5, 2) := by decide +kernel
theorem dX10_pass_53 : decode cX10_pass 53 = .ok (.aload_n 0, 1) := by decide +kernel
theorem dX10_pass_54 : decode cX10_pass 54 = .ok (.getfield 41, 3) := by decide +kernel
theorem dX10_pass_57 : decode cX10_pass 57 = .ok (.bipush 11, 2) := by decide +kernel
theorem dX10_pass_59 : decode cX10_pass 59 = .ok (.aload_n 0, 1) := by decide +kernel
theorem dX10_pass_60 : decode cX10_pass 60 = .ok (.getfield 240, 3) := by decide +kernel
theorem dX10_pass_63 : decode cX10_pass 63 = .ok (.aload_n 0, 1) := by decide +kernel
theorem dX10_pass_64 : decode cX10_pass 64 = .ok (.getfield 41, 3) := by decide +kernel
theorem dX10_pass_67 : decode cX10_pass 67 = .ok (.bipush 10, 2) := by decide +kernel
theorem dX10_pass_69 : decode cX10_pass 69 = .ok (.iaload, 1) := by decide +kernel
theorem dX10_pass_70 : decode cX10_pass 70 = .ok (.irem, 1) := by decide +kernel
theorem dX10_pass_71 : decode cX10_pass 71 = .ok (.iadd, 1) := by decide +kernel
theorem dX10_pass_72 : decode cX10_pass 72 = .ok (.iaload, 1) := by decide +kernel
theorem dX10_pass_73 : decode cX10_pass 73 = .ok (.istore 6, 2) := by decide +kernel
theorem dX10_pass_75 : decode cX10_pass 75 = .ok (.iload_n 3, 1) := by decide +kernel
theorem dX10_pass_76 : decode cX10_pass 76 = .ok (.aload_n 0, 1) := by decide +kernel
theorem dX10_pass_77 : decode cX10_pass 77 = .ok (.getfield 62, 3) := by decide +kernel
theorem dX10_pass_80 : decode cX10_pass 80 = .ok (.aload_n 0, 1) := by decide +kernel
theorem dX10_pass_81 : decode cX10_pass 81 = .ok (.getfield 240, 3) := by decide +kernel
theorem dX10_pass_84 : decode cX10_pass 84 = .ok (.iaload, 1) := by decide +kernel
theorem dX10_pass_85 : decode cX10_pass 85 = .ok (.isub, 1) := by decide +kernel
theorem dX10_pass_86 : decode cX10_pass 86 = .ok (.invokestatic 289, 3) := by decide +kernel
theorem dX10_pass_89 : decode cX10_pass 89 = .ok (.istore 7, 2) := by decide +kernel
theorem dX10_pass_91 : decode cX10_pass 91 = .ok (.aload_n 0, 1) := by decide +kernel
theorem dX10_pass_92 : decode cX10_pass 92 = .ok (.dup, 1) := by decide +kernel
theorem dX10_pass_93 : decode cX10_pass 93 = .ok (.getfield 240, 3) := by decide +kernel
theorem dX10_pass_96 : decode cX10_pass 96 = .ok (.iconst 1, 1) := by decide +kernel
theorem dX10_pass_97 : decode cX10_pass 97 = .ok (.iadd, 1) := by decide +kernel
theorem dX10_pass_98 : decode cX10_pass 98 = .ok (.putfield 240, 3) := by decide +kernel
theorem dX10_pass_101 : decode cX10_pass 101 = .ok (.aload_n 0, 1) := by decide +kernel
theorem dX10_pass_102 : decode cX10_pass 102 = .ok (.getfield 62, 3) := by decide +kernel
theorem dX10_pass_105 : decode cX10_pass 105 = .ok (.aload_n 0, 1) := by decide +kernel
theorem dX10_pass_106 : decode cX10_pass 106 = .ok (.getfield 240, 3) := by decide +kernel
theorem dX10_pass_109 : decode cX10_pass 109 = .ok (.iload_n 3, 1) := by decide +kernel
theorem dX10_pass_110 : decode cX10_pass 110 = .ok (.iastore, 1) := by decide +kernel
theorem dX10_pass_111 : decode cX10_pass 111 = .ok (.aload_n 0, 1) := by decide +kernel
theorem dX10_pass_112 : decode cX10_pass 112 = .ok (.getfield 65, 3) := by decide +kernel
theorem dX10_pass_115 : decode cX10_pass 115 = .ok (.aload_n 0, 1) := by decide +kernel
theorem dX10_pass_116 : decode cX10_pass 116 = .ok (.getfield 240, 3) := by decide +kernel
theorem dX10_pass_119 : decode cX10_pass 119 = .ok (.iload_n 2, 1) := by decide +kernel
theorem dX10_pass_120 : decode cX10_pass 120 = .ok (.iastore, 1) := by decide +kernel
theorem dX10_pass_121 : decode cX10_pass 121 = .ok (.aload_n 0, 1) := by decide +kernel
theorem dX10_pass_122 : decode cX10_pass 122 = .ok (.getfield 59, 3) := by decide +kernel
theorem dX10_pass_125 : decode cX10_pass 125 = .ok (.aload_n 0, 1) := by decide +kernel
theorem dX10_pass_126 : decode cX10_pass 126 = .ok (.getfield 240, 3) := by decide +kernel
theorem dX10_pass_129 : decode cX10_pass 129 = .ok (.iload 5, 2) := by decide +kernel
theorem dX10_pass_131 : decode cX10_pass 131 = .ok (.iload 5, 2) := by decide +kernel
theorem dX10_pass_133 : decode cX10_pass 133 = .ok (.aload_n 0, 1) := by decide +kernel
theorem dX10_pass_134 : decode cX10_pass 134 = .ok (.getfield 41, 3) := by decide +kernel
theorem dX10_pass_137 : decode cX10_pass 137 = .ok (.iconst 1, 1) := by decide +kernel
theorem dX10_pass_138 : decode cX10_pass 138 = .ok (.iaload, 1) := by decide +kernel
theorem dX10_pass_139 : decode cX10_pass 139 = .ok (.imul, 1) := by decide +kernel
theorem dX10_pass_140 : decode cX10_pass 140 = .ok (.bipush 100, 2) := by decide +kernel
theorem dX10_pass_142 : decode cX10_pass 142 = .ok (.idiv, 1) := by decide +kernel
theorem dX10_pass_143 : decode cX10_pass 143 = .ok (.isub, 1) := by decide +kernel
theorem dX10_pass_144 : decode cX10_pass 144 = .ok (.aload_n 0, 1) := by decide +kernel
theorem dX10_pass_145 : decode cX10_pass 145 = .ok (.getfield 41, 3) := by decide +kernel
theorem dX10_pass_148 : decode cX10_pass 148 = .ok (.iconst 0, 1) := by decide +kernel
theorem dX10_pass_149 : decode cX10_pass 149 = .ok (.iaload, 1) := by decide +kernel
theorem dX10_pass_150 : decode cX10_pass 150 = .ok (.iload_n 3, 1) := by decide +kernel
theorem dX10_pass_151 : decode cX10_pass 151 = .ok (.imul, 1) := by decide +kernel
theorem dX10_pass_152 : decode cX10_pass 152 = .ok (.iadd, 1) := by decide +kernel
theorem dX10_pass_153 : decode cX10_pass 153 = .ok (.aload_n 0, 1) := by decide +kernel
theorem dX10_pass_154 : decode cX10_pass 154 = .ok (.getfield 41, 3) := by decide +kernel
theorem dX10_pass_157 : decode cX10_pass 157 = .ok (.bipush 6, 2) := by decide +kernel
theorem dX10_pass_159 : decode cX10_pass 159 = .ok (.iaload, 1) := by decide +kernel
theorem dX10_pass_160 : decode cX10_pass 160 = .ok (.iadd, 1) := by decide +kernel
theorem dX10_pass_161 : decode cX10_pass 161 = .ok (.iload 6, 2) := by decide +kernel
theorem dX10_pass_163 : decode cX10_pass 163 = .ok (.iadd, 1) := by decide +kernel
theorem dX10_pass_164 : decode cX10_pass 164 = .ok (.aload_n 0, 1) := by decide +kernel
theorem dX10_pass_165 : decode cX10_pass 165 = .ok (.getfield 41, 3) := by decide +kernel
theorem dX10_pass_168 : decode cX10_pass 168 = .ok (.bipush 7, 2) := by decide +kernel
theorem dX10_pass_170 : decode cX10_pass 170 = .ok (.iaload, 1) := by decide +kernel
theorem dX10_pass_171 : decode cX10_pass 171 = .ok (.iload 4, 2) := by decide +kernel
theorem dX10_pass_173 : decode cX10_pass 173 = .ok (.imul, 1) := by decide +kernel
theorem dX10_pass_174 : decode cX10_pass 174 = .ok (.bipush 100, 2) := by decide +kernel
theorem dX10_pass_176 : decode cX10_pass 176 = .ok (.idiv, 1) := by decide +kernel
theorem dX10_pass_177 : decode cX10_pass 177 = .ok (.isub, 1) := by decide +kernel
theorem dX10_pass_178 : decode cX10_pass 178 = .ok (.sipush 9999, 3) := by decide +kernel
theorem dX10_pass_181 : decode cX10_pass 181 = .ok (.invokestatic 286, 3) := by decide +kernel
theorem dX10_pass_184 : decode cX10_pass 184 = .ok (.iastore, 1) := by decide +kernel
theorem dX10_pass_185 : decode cX10_pass 185 = .ok (.aload_n 0, 1) := by decide +kernel
theorem dX10_pass_186 : decode cX10_pass 186 = .ok (.getfield 56, 3) := by decide +kernel
theorem dX10_pass_189 : decode cX10_pass 189 = .ok (.aload_n 0, 1) := by decide +kernel
theorem dX10_pass_190 : decode cX10_pass 190 = .ok (.getfield 240, 3) := by decide +kernel
theorem dX10_pass_193 : decode cX10_pass 193 = .ok (.iload 4, 2) := by decide +kernel
theorem dX10_pass_195 : decode cX10_pass 195 = .ok (.aload_n 0, 1) := by decide +kernel
theorem dX10_pass_196 : decode cX10_pass 196 = .ok (.getfield 59, 3) := by decide +kernel
theorem dX10_pass_199 : decode cX10_pass 199 = .ok (.aload_n 0, 1) := by decide +kernel
theorem dX10_pass_200 : decode cX10_pass 200 = .ok (.getfield 240, 3) := by decide +kernel
theorem dX10_pass_203 : decode cX10_pass 203 = .ok (.iaload, 1) := by decide +kernel
theorem dX10_pass_204 : decode cX10_pass 204 = .ok (.iadd, 1) := by decide +kernel
theorem dX10_pass_205 : decode cX10_pass 205 = .ok (.sipush 18000, 3) := by decide +kernel
theorem dX10_pass_208 : decode cX10_pass 208 = .ok (.invokestatic 286, 3) := by decide +kernel
theorem dX10_pass_211 : decode cX10_pass 211 = .ok (.iastore, 1) := by decide +kernel
theorem dX10_pass_212 : decode cX10_pass 212 = .ok (.aload_n 0, 1) := by decide +kernel
theorem dX10_pass_213 : decode cX10_pass 213 = .ok (.dup, 1) := by decide +kernel
theorem dX10_pass_214 : decode cX10_pass 214 = .ok (.getfield 246, 3) := by decide +kernel
theorem dX10_pass_217 : decode cX10_pass 217 = .ok (.iload 7, 2) := by decide +kernel
theorem dX10_pass_219 : decode cX10_pass 219 = .ok (.iadd, 1) := by decide +kernel
theorem dX10_pass_220 : decode cX10_pass 220 = .ok (.putfield 246, 3) := by decide +kernel
theorem dX10_pass_223 : decode cX10_pass 223 = .ok (.aload_n 0, 1) := by decide +kernel
theorem dX10_pass_224 : decode cX10_pass 224 = .ok (.dup, 1) := by decide +kernel
theorem dX10_pass_225 : decode cX10_pass 225 = .ok (.getfield 267, 3) := by decide +kernel
theorem dX10_pass_228 : decode cX10_pass 228 = .ok (.iload 7, 2) := by decide +kernel
theorem dX10_pass_230 : decode cX10_pass 230 = .ok (.ifCond .le 7, 3) := by decide +kernel
theorem dX10_pass_233 : decode cX10_pass 233 = .ok (.iconst 1, 1) := by decide +kernel
theorem dX10_pass_234 : decode cX10_pass 234 = .ok (.goto 4, 3) := by decide +kernel
theorem dX10_pass_237 : decode cX10_pass 237 = .ok (.iconst 0, 1) := by decide +kernel
theorem dX10_pass_238 : decode cX10_pass 238 = .ok (.iadd, 1) := by decide +kernel
theorem dX10_pass_239 : decode cX10_pass 239 = .ok (.putfield 267, 3) := by decide +kernel
theorem dX10_pass_242 : decode cX10_pass 242 = .ok (.aload_n 0, 1) := by decide +kernel
theorem dX10_pass_243 : decode cX10_pass 243 = .ok (.iload 7, 2) := by decide +kernel
theorem dX10_pass_245 : decode cX10_pass 245 = .ok (.ifCond .le 7, 3) := by decide +kernel
theorem dX10_pass_248 : decode cX10_pass 248 = .ok (.iconst 0, 1) := by decide +kernel
theorem dX10_pass_249 : decode cX10_pass 249 = .ok (.goto 9, 3) := by decide +kernel
theorem dX10_pass_252 : decode cX10_pass 252 = .ok (.aload_n 0, 1) := by decide +kernel
theorem dX10_pass_253 : decode cX10_pass 253 = .ok (.getfield 270, 3) := by decide +kernel
theorem dX10_pass_256 : decode cX10_pass 256 = .ok (.iconst 1, 1) := by decide +kernel
theorem dX10_pass_257 : decode cX10_pass 257 = .ok (.iadd, 1) := by decide +kernel
theorem dX10_pass_258 : decode cX10_pass 258 = .ok (.putfield 270, 3) := by decide +kernel
theorem dX10_pass_261 : decode cX10_pass 261 = .ok (.aload_n 0, 1) := by decide +kernel
theorem dX10_pass_262 : decode cX10_pass 262 = .ok (.aload_n 0, 1) := by decide +kernel
theorem dX10_pass_263 : decode cX10_pass 263 = .ok (.getfield 270, 3) := by decide +kernel
theorem dX10_pass_266 : decode cX10_pass 266 = .ok (.aload_n 0, 1) := by decide +kernel
theorem dX10_pass_267 : decode cX10_pass 267 = .ok (.getfield 273, 3) := by decide +kernel
theorem dX10_pass_270 : decode cX10_pass 270 = .ok (.if_icmp .le 10, 3) := by decide +kernel
theorem dX10_pass_273 : decode cX10_pass 273 = .ok (.aload_n 0, 1) := by decide +kernel
theorem dX10_pass_274 : decode cX10_pass 274 = .ok (.getfield 270, 3) := by decide +kernel
theorem dX10_pass_277 : decode cX10_pass 277 = .ok (.goto 7, 3) := by decide +kernel
theorem dX10_pass_280 : decode cX10_pass 280 = .ok (.aload_n 0, 1) := by decide +kernel
theorem dX10_pass_281 : decode cX10_pass 281 = .ok (.getfield 273, 3) := by decide +kernel
theorem dX10_pass_284 : decode cX10_pass 284 = .ok (.putfield 273, 3) := by decide +kernel
theorem dX10_pass_287 : decode cX10_pass 287 = .ok (.aload_n 0, 1) := by decide +kernel
theorem dX10_pass_288 : decode cX10_pass 288 = .ok (.invokevirtual 295, 3) := by decide +kernel
theorem dX10_pass_291 : decode cX10_pass 291 = .ok (.return_, 1) := by decide +kernel
set_option maxRecDepth 20000 in
theorem dX10_tally_0 : decode cX10_tally 0 = .ok (.aload_n 0, 1) := by decide +kernel
theorem dX10_tally_1 : decode cX10_tally 1 = .ok (.getfield 56, 3) := by decide +kernel
theorem dX10_tally_4 : decode cX10_tally 4 = .ok (.aload_n 0, 1) := by decide +kernel
theorem dX10_tally_5 : decode cX10_tally 5 = .ok (.getfield 240, 3) := by decide +kernel
theorem dX10_tally_8 : decode cX10_tally 8 = .ok (.iaload, 1) := by decide +kernel
theorem dX10_tally_9 : decode cX10_tally 9 = .ok (.istore_n 1, 1) := by decide +kernel
theorem dX10_tally_10 : decode cX10_tally 10 = .ok (.iload_n 1, 1) := by decide +kernel
theorem dX10_tally_11 : decode cX10_tally 11 = .ok (.invokestatic 289, 3) := by decide +kernel
theorem dX10_tally_14 : decode cX10_tally 14 = .ok (.istore_n 2, 1) := by decide +kernel
theorem dX10_tally_15 : decode cX10_tally 15 = .ok (.aload_n 0, 1) := by decide +kernel
theorem dX10_tally_16 : decode cX10_tally 16 = .ok (.dup, 1) := by decide +kernel
theorem dX10_tally_17 : decode cX10_tally 17 = .ok (.getfield 243, 3) := by decide +kernel
theorem dX10_tally_20 : decode cX10_tally 20 = .ok (.iload_n 2, 1) := by decide +kernel
theorem dX10_tally_21 : decode cX10_tally 21 = .ok (.i2l, 1) := by decide +kernel
theorem dX10_tally_22 : decode cX10_tally 22 = .ok (.ladd, 1) := by decide +kernel
theorem dX10_tally_23 : decode cX10_tally 23 = .ok (.putfield 243, 3) := by decide +kernel
theorem dX10_tally_26 : decode cX10_tally 26 = .ok (.aload_n 0, 1) := by decide +kernel
theorem dX10_tally_27 : decode cX10_tally 27 = .ok (.dup, 1) := by decide +kernel
theorem dX10_tally_28 : decode cX10_tally 28 = .ok (.getfield 249, 3) := by decide +kernel
theorem dX10_tally_31 : decode cX10_tally 31 = .ok (.iload_n 1, 1) := by decide +kernel
theorem dX10_tally_32 : decode cX10_tally 32 = .ok (.i2l, 1) := by decide +kernel
theorem dX10_tally_33 : decode cX10_tally 33 = .ok (.iload_n 1, 1) := by decide +kernel
theorem dX10_tally_34 : decode cX10_tally 34 = .ok (.i2l, 1) := by decide +kernel
theorem dX10_tally_35 : decode cX10_tally 35 = .ok (.lmul, 1) := by decide +kernel
theorem dX10_tally_36 : decode cX10_tally 36 = .ok (.ldc2_w 298, 3) := by decide +kernel
theorem dX10_tally_39 : decode cX10_tally 39 = .ok (.ldiv, 1) := by decide +kernel
theorem dX10_tally_40 : decode cX10_tally 40 = .ok (.ladd, 1) := by decide +kernel
theorem dX10_tally_41 : decode cX10_tally 41 = .ok (.putfield 249, 3) := by decide +kernel
theorem dX10_tally_44 : decode cX10_tally 44 = .ok (.aload_n 0, 1) := by decide +kernel
theorem dX10_tally_45 : decode cX10_tally 45 = .ok (.iload_n 2, 1) := by decide +kernel
theorem dX10_tally_46 : decode cX10_tally 46 = .ok (.aload_n 0, 1) := by decide +kernel
theorem dX10_tally_47 : decode cX10_tally 47 = .ok (.getfield 252, 3) := by decide +kernel
theorem dX10_tally_50 : decode cX10_tally 50 = .ok (.if_icmp .le 7, 3) := by decide +kernel
theorem dX10_tally_53 : decode cX10_tally 53 = .ok (.iload_n 2, 1) := by decide +kernel
theorem dX10_tally_54 : decode cX10_tally 54 = .ok (.goto 7, 3) := by decide +kernel
theorem dX10_tally_57 : decode cX10_tally 57 = .ok (.aload_n 0, 1) := by decide +kernel
theorem dX10_tally_58 : decode cX10_tally 58 = .ok (.getfield 252, 3) := by decide +kernel
theorem dX10_tally_61 : decode cX10_tally 61 = .ok (.putfield 252, 3) := by decide +kernel
theorem dX10_tally_64 : decode cX10_tally 64 = .ok (.aload_n 0, 1) := by decide +kernel
theorem dX10_tally_65 : decode cX10_tally 65 = .ok (.dup, 1) := by decide +kernel
theorem dX10_tally_66 : decode cX10_tally 66 = .ok (.getfield 255, 3) := by decide +kernel
theorem dX10_tally_69 : decode cX10_tally 69 = .ok (.iload_n 1, 1) := by decide +kernel
theorem dX10_tally_70 : decode cX10_tally 70 = .ok (.i2l, 1) := by decide +kernel
theorem dX10_tally_71 : decode cX10_tally 71 = .ok (.ladd, 1) := by decide +kernel
theorem dX10_tally_72 : decode cX10_tally 72 = .ok (.putfield 255, 3) := by decide +kernel
theorem dX10_tally_75 : decode cX10_tally 75 = .ok (.iload_n 1, 1) := by decide +kernel
theorem dX10_tally_76 : decode cX10_tally 76 = .ok (.invokestatic 261, 3) := by decide +kernel
theorem dX10_tally_79 : decode cX10_tally 79 = .ok (.istore_n 3, 1) := by decide +kernel
theorem dX10_tally_80 : decode cX10_tally 80 = .ok (.iload_n 3, 1) := by decide +kernel
theorem dX10_tally_81 : decode cX10_tally 81 = .ok (.aload_n 0, 1) := by decide +kernel
theorem dX10_tally_82 : decode cX10_tally 82 = .ok (.getfield 264, 3) := by decide +kernel
theorem dX10_tally_85 : decode cX10_tally 85 = .ok (.imul, 1) := by decide +kernel
theorem dX10_tally_86 : decode cX10_tally 86 = .ok (.ifCond .ge 23, 3) := by decide +kernel
theorem dX10_tally_89 : decode cX10_tally 89 = .ok (.aload_n 0, 1) := by decide +kernel
theorem dX10_tally_90 : decode cX10_tally 90 = .ok (.dup, 1) := by decide +kernel
theorem dX10_tally_91 : decode cX10_tally 91 = .ok (.getfield 258, 3) := by decide +kernel
theorem dX10_tally_94 : decode cX10_tally 94 = .ok (.iconst 1, 1) := by decide +kernel
theorem dX10_tally_95 : decode cX10_tally 95 = .ok (.iadd, 1) := by decide +kernel
theorem dX10_tally_96 : decode cX10_tally 96 = .ok (.putfield 258, 3) := by decide +kernel
theorem dX10_tally_99 : decode cX10_tally 99 = .ok (.aload_n 0, 1) := by decide +kernel
theorem dX10_tally_100 : decode cX10_tally 100 = .ok (.getfield 68, 3) := by decide +kernel
theorem dX10_tally_103 : decode cX10_tally 103 = .ok (.aload_n 0, 1) := by decide +kernel
theorem dX10_tally_104 : decode cX10_tally 104 = .ok (.getfield 258, 3) := by decide +kernel
theorem dX10_tally_107 : decode cX10_tally 107 = .ok (.iconst 0, 1) := by decide +kernel
theorem dX10_tally_108 : decode cX10_tally 108 = .ok (.iastore, 1) := by decide +kernel
theorem dX10_tally_109 : decode cX10_tally 109 = .ok (.aload_n 0, 1) := by decide +kernel
theorem dX10_tally_110 : decode cX10_tally 110 = .ok (.iload_n 3, 1) := by decide +kernel
theorem dX10_tally_111 : decode cX10_tally 111 = .ok (.ifCond .ne 10, 3) := by decide +kernel
theorem dX10_tally_114 : decode cX10_tally 114 = .ok (.aload_n 0, 1) := by decide +kernel
theorem dX10_tally_115 : decode cX10_tally 115 = .ok (.getfield 264, 3) := by decide +kernel
theorem dX10_tally_118 : decode cX10_tally 118 = .ok (.goto 4, 3) := by decide +kernel
theorem dX10_tally_121 : decode cX10_tally 121 = .ok (.iload_n 3, 1) := by decide +kernel
theorem dX10_tally_122 : decode cX10_tally 122 = .ok (.putfield 264, 3) := by decide +kernel
theorem dX10_tally_125 : decode cX10_tally 125 = .ok (.aload_n 0, 1) := by decide +kernel
theorem dX10_tally_126 : decode cX10_tally 126 = .ok (.getfield 68, 3) := by decide +kernel
theorem dX10_tally_129 : decode cX10_tally 129 = .ok (.aload_n 0, 1) := by decide +kernel
theorem dX10_tally_130 : decode cX10_tally 130 = .ok (.getfield 258, 3) := by decide +kernel
theorem dX10_tally_133 : decode cX10_tally 133 = .ok (.iload_n 2, 1) := by decide +kernel
theorem dX10_tally_134 : decode cX10_tally 134 = .ok (.aload_n 0, 1) := by decide +kernel
theorem dX10_tally_135 : decode cX10_tally 135 = .ok (.getfield 68, 3) := by decide +kernel
theorem dX10_tally_138 : decode cX10_tally 138 = .ok (.aload_n 0, 1) := by decide +kernel
theorem dX10_tally_139 : decode cX10_tally 139 = .ok (.getfield 258, 3) := by decide +kernel
theorem dX10_tally_142 : decode cX10_tally 142 = .ok (.iaload, 1) := by decide +kernel
theorem dX10_tally_143 : decode cX10_tally 143 = .ok (.if_icmp .le 7, 3) := by decide +kernel
theorem dX10_tally_146 : decode cX10_tally 146 = .ok (.iload_n 2, 1) := by decide +kernel
theorem dX10_tally_147 : decode cX10_tally 147 = .ok (.goto 12, 3) := by decide +kernel
theorem dX10_tally_150 : decode cX10_tally 150 = .ok (.aload_n 0, 1) := by decide +kernel
theorem dX10_tally_151 : decode cX10_tally 151 = .ok (.getfield 68, 3) := by decide +kernel
theorem dX10_tally_154 : decode cX10_tally 154 = .ok (.aload_n 0, 1) := by decide +kernel
theorem dX10_tally_155 : decode cX10_tally 155 = .ok (.getfield 258, 3) := by decide +kernel
theorem dX10_tally_158 : decode cX10_tally 158 = .ok (.iaload, 1) := by decide +kernel
theorem dX10_tally_159 : decode cX10_tally 159 = .ok (.iastore, 1) := by decide +kernel
theorem dX10_tally_160 : decode cX10_tally 160 = .ok (.return_, 1) := by decide +kernel
set_option maxRecDepth 20000 in
theorem dX10_steer_0 : decode cX10_steer 0 = .ok (.aload_n 0, 1) := by decide +kernel
theorem dX10_steer_1 : decode cX10_steer 1 = .ok (.iload_n 1, 1) := by decide +kernel
theorem dX10_steer_2 : decode cX10_steer 2 = .ok (.invokevirtual 300, 3) := by decide +kernel
theorem dX10_steer_5 : decode cX10_steer 5 = .ok (.iconst 0, 1) := by decide +kernel
theorem dX10_steer_6 : decode cX10_steer 6 = .ok (.istore_n 3, 1) := by decide +kernel
theorem dX10_steer_7 : decode cX10_steer 7 = .ok (.iload_n 3, 1) := by decide +kernel
theorem dX10_steer_8 : decode cX10_steer 8 = .ok (.iload_n 2, 1) := by decide +kernel
theorem dX10_steer_9 : decode cX10_steer 9 = .ok (.if_icmp .ge 28, 3) := by decide +kernel
theorem dX10_steer_12 : decode cX10_steer 12 = .ok (.aload_n 0, 1) := by decide +kernel
theorem dX10_steer_13 : decode cX10_steer 13 = .ok (.iload_n 1, 1) := by decide +kernel
theorem dX10_steer_14 : decode cX10_steer 14 = .ok (.invokevirtual 303, 3) := by decide +kernel
theorem dX10_steer_17 : decode cX10_steer 17 = .ok (.istore 4, 2) := by decide +kernel
theorem dX10_steer_19 : decode cX10_steer 19 = .ok (.aload_n 0, 1) := by decide +kernel
theorem dX10_steer_20 : decode cX10_steer 20 = .ok (.iload 4, 2) := by decide +kernel
theorem dX10_steer_22 : decode cX10_steer 22 = .ok (.aload_n 0, 1) := by decide +kernel
theorem dX10_steer_23 : decode cX10_steer 23 = .ok (.getfield 47, 3) := by decide +kernel
theorem dX10_steer_26 : decode cX10_steer 26 = .ok (.iload_n 1, 1) := by decide +kernel
theorem dX10_steer_27 : decode cX10_steer 27 = .ok (.iaload, 1) := by decide +kernel
theorem dX10_steer_28 : decode cX10_steer 28 = .ok (.invokevirtual 306, 3) := by decide +kernel
theorem dX10_steer_31 : decode cX10_steer 31 = .ok (.iinc 3 1, 3) := by decide +kernel
theorem dX10_steer_34 : decode cX10_steer 34 = .ok (.goto (-27), 3) := by decide +kernel
theorem dX10_steer_37 : decode cX10_steer 37 = .ok (.return_, 1) := by decide +kernel
set_option maxRecDepth 20000 in
theorem dX10_runBy_0 : decode cX10_runBy 0 = .ok (.aload_n 0, 1) := by decide +kernel
theorem dX10_runBy_1 : decode cX10_runBy 1 = .ok (.iload_n 2, 1) := by decide +kernel
theorem dX10_runBy_2 : decode cX10_runBy 2 = .ok (.invokevirtual 309, 3) := by decide +kernel
theorem dX10_runBy_5 : decode cX10_runBy 5 = .ok (.iload_n 1, 1) := by decide +kernel
theorem dX10_runBy_6 : decode cX10_runBy 6 = .ok (.ifCond .eq 10, 3) := by decide +kernel
theorem dX10_runBy_9 : decode cX10_runBy 9 = .ok (.aload_n 0, 1) := by decide +kernel
theorem dX10_runBy_10 : decode cX10_runBy 10 = .ok (.iconst 0, 1) := by decide +kernel
theorem dX10_runBy_11 : decode cX10_runBy 11 = .ok (.iload_n 3, 1) := by decide +kernel
theorem dX10_runBy_12 : decode cX10_runBy 12 = .ok (.invokevirtual 312, 3) := by decide +kernel
theorem dX10_runBy_15 : decode cX10_runBy 15 = .ok (.return_, 1) := by decide +kernel
theorem dX10_runBy_16 : decode cX10_runBy 16 = .ok (.iconst 0, 1) := by decide +kernel
theorem dX10_runBy_17 : decode cX10_runBy 17 = .ok (.istore 4, 2) := by decide +kernel
theorem dX10_runBy_19 : decode cX10_runBy 19 = .ok (.iload 4, 2) := by decide +kernel
theorem dX10_runBy_21 : decode cX10_runBy 21 = .ok (.iload_n 3, 1) := by decide +kernel
theorem dX10_runBy_22 : decode cX10_runBy 22 = .ok (.if_icmp .ge 15, 3) := by decide +kernel
theorem dX10_runBy_25 : decode cX10_runBy 25 = .ok (.aload_n 0, 1) := by decide +kernel
theorem dX10_runBy_26 : decode cX10_runBy 26 = .ok (.iconst 0, 1) := by decide +kernel
theorem dX10_runBy_27 : decode cX10_runBy 27 = .ok (.iconst 0, 1) := by decide +kernel
theorem dX10_runBy_28 : decode cX10_runBy 28 = .ok (.invokevirtual 306, 3) := by decide +kernel
theorem dX10_runBy_31 : decode cX10_runBy 31 = .ok (.iinc 4 1, 3) := by decide +kernel
theorem dX10_runBy_34 : decode cX10_runBy 34 = .ok (.goto (-15), 3) := by decide +kernel
theorem dX10_runBy_37 : decode cX10_runBy 37 = .ok (.return_, 1) := by decide +kernel
theorem dX10_cost_0 : decode cX10_cost 0 = .ok (.aload_n 0, 1) := by decide +kernel
theorem dX10_cost_1 : decode cX10_cost 1 = .ok (.getfield 243, 3) := by decide +kernel
theorem dX10_cost_4 : decode cX10_cost 4 = .ok (.aload_n 0, 1) := by decide +kernel
theorem dX10_cost_5 : decode cX10_cost 5 = .ok (.getfield 41, 3) := by decide +kernel
theorem dX10_cost_8 : decode cX10_cost 8 = .ok (.iconst 5, 1) := by decide +kernel
theorem dX10_cost_9 : decode cX10_cost 9 = .ok (.iaload, 1) := by decide +kernel
theorem dX10_cost_10 : decode cX10_cost 10 = .ok (.i2l, 1) := by decide +kernel
theorem dX10_cost_11 : decode cX10_cost 11 = .ok (.aload_n 0, 1) := by decide +kernel
theorem dX10_cost_12 : decode cX10_cost 12 = .ok (.getfield 246, 3) := by decide +kernel
theorem dX10_cost_15 : decode cX10_cost 15 = .ok (.i2l, 1) := by decide +kernel
theorem dX10_cost_16 : decode cX10_cost 16 = .ok (.lmul, 1) := by decide +kernel
theorem dX10_cost_17 : decode cX10_cost 17 = .ok (.ladd, 1) := by decide +kernel
theorem dX10_cost_18 : decode cX10_cost 18 = .ok (.lreturn, 1) := by decide +kernel
set_option maxRecDepth 20000 in
theorem dX10_costBy_0 : decode cX10_costBy 0 = .ok (.aload_n 0, 1) := by decide +kernel
theorem dX10_costBy_1 : decode cX10_costBy 1 = .ok (.iconst 1, 1) := by decide +kernel
theorem dX10_costBy_2 : decode cX10_costBy 2 = .ok (.iconst 0, 1) := by decide +kernel
theorem dX10_costBy_3 : decode cX10_costBy 3 = .ok (.iload_n 1, 1) := by decide +kernel
theorem dX10_costBy_4 : decode cX10_costBy 4 = .ok (.invokevirtual 315, 3) := by decide +kernel
theorem dX10_costBy_7 : decode cX10_costBy 7 = .ok (.aload_n 0, 1) := by decide +kernel
theorem dX10_costBy_8 : decode cX10_costBy 8 = .ok (.invokevirtual 319, 3) := by decide +kernel
theorem dX10_costBy_11 : decode cX10_costBy 11 = .ok (.lreturn, 1) := by decide +kernel
theorem dX10_grows_0 : decode cX10_grows 0 = .ok (.aload_n 0, 1) := by decide +kernel
theorem dX10_grows_1 : decode cX10_grows 1 = .ok (.getfield 258, 3) := by decide +kernel
theorem dX10_grows_4 : decode cX10_grows 4 = .ok (.iconst 2, 1) := by decide +kernel
theorem dX10_grows_5 : decode cX10_grows 5 = .ok (.if_icmp .lt 32, 3) := by decide +kernel
theorem dX10_grows_8 : decode cX10_grows 8 = .ok (.aload_n 0, 1) := by decide +kernel
theorem dX10_grows_9 : decode cX10_grows 9 = .ok (.getfield 68, 3) := by decide +kernel
theorem dX10_grows_12 : decode cX10_grows 12 = .ok (.aload_n 0, 1) := by decide +kernel
theorem dX10_grows_13 : decode cX10_grows 13 = .ok (.getfield 258, 3) := by decide +kernel
theorem dX10_grows_16 : decode cX10_grows 16 = .ok (.iconst 1, 1) := by decide +kernel
theorem dX10_grows_17 : decode cX10_grows 17 = .ok (.isub, 1) := by decide +kernel
theorem dX10_grows_18 : decode cX10_grows 18 = .ok (.iaload, 1) := by decide +kernel
theorem dX10_grows_19 : decode cX10_grows 19 = .ok (.aload_n 0, 1) := by decide +kernel
theorem dX10_grows_20 : decode cX10_grows 20 = .ok (.getfield 68, 3) := by decide +kernel
theorem dX10_grows_23 : decode cX10_grows 23 = .ok (.aload_n 0, 1) := by decide +kernel
theorem dX10_grows_24 : decode cX10_grows 24 = .ok (.getfield 258, 3) := by decide +kernel
theorem dX10_grows_27 : decode cX10_grows 27 = .ok (.iconst 2, 1) := by decide +kernel
theorem dX10_grows_28 : decode cX10_grows 28 = .ok (.isub, 1) := by decide +kernel
theorem dX10_grows_29 : decode cX10_grows 29 = .ok (.iaload, 1) := by decide +kernel
theorem dX10_grows_30 : decode cX10_grows 30 = .ok (.if_icmp .le 7, 3) := by decide +kernel
theorem dX10_grows_33 : decode cX10_grows 33 = .ok (.iconst 1, 1) := by decide +kernel
theorem dX10_grows_34 : decode cX10_grows 34 = .ok (.goto 4, 3) := by decide +kernel
theorem dX10_grows_37 : decode cX10_grows 37 = .ok (.iconst 0, 1) := by decide +kernel
theorem dX10_grows_38 : decode cX10_grows 38 = .ok (.ireturn, 1) := by decide +kernel
set_option maxRecDepth 20000 in
theorem dX10_lay_0 : decode cX10_lay 0 = .ok (.aload_n 0, 1) := by decide +kernel
theorem dX10_lay_1 : decode cX10_lay 1 = .ok (.iconst 0, 1) := by decide +kernel
theorem dX10_lay_2 : decode cX10_lay 2 = .ok (.iload_n 1, 1) := by decide +kernel
theorem dX10_lay_3 : decode cX10_lay 3 = .ok (.invokevirtual 226, 3) := by decide +kernel
theorem dX10_lay_6 : decode cX10_lay 6 = .ok (.ifCond .eq 21, 3) := by decide +kernel
theorem dX10_lay_9 : decode cX10_lay 9 = .ok (.aload_n 0, 1) := by decide +kernel
theorem dX10_lay_10 : decode cX10_lay 10 = .ok (.iconst 1, 1) := by decide +kernel
theorem dX10_lay_11 : decode cX10_lay 11 = .ok (.iload_n 2, 1) := by decide +kernel
theorem dX10_lay_12 : decode cX10_lay 12 = .ok (.invokevirtual 226, 3) := by decide +kernel
theorem dX10_lay_15 : decode cX10_lay 15 = .ok (.ifCond .ne 14, 3) := by decide +kernel
theorem dX10_lay_18 : decode cX10_lay 18 = .ok (.iload_n 3, 1) := by decide +kernel
theorem dX10_lay_19 : decode cX10_lay 19 = .ok (.ifCond .eq 8, 3) := by decide +kernel
theorem dX10_lay_22 : decode cX10_lay 22 = .ok (.iload_n 2, 1) := by decide +kernel
theorem dX10_lay_23 : decode cX10_lay 23 = .ok (.iconst (-1), 1) := by decide +kernel
theorem dX10_lay_24 : decode cX10_lay 24 = .ok (.if_icmp .eq 5, 3) := by decide +kernel
theorem dX10_lay_27 : decode cX10_lay 27 = .ok (.iconst 0, 1) := by decide +kernel
theorem dX10_lay_28 : decode cX10_lay 28 = .ok (.ireturn, 1) := by decide +kernel
theorem dX10_lay_29 : decode cX10_lay 29 = .ok (.aload_n 0, 1) := by decide +kernel
theorem dX10_lay_30 : decode cX10_lay 30 = .ok (.iload_n 1, 1) := by decide +kernel
theorem dX10_lay_31 : decode cX10_lay 31 = .ok (.invokevirtual 323, 3) := by decide +kernel
theorem dX10_lay_34 : decode cX10_lay 34 = .ok (.iload_n 2, 1) := by decide +kernel
theorem dX10_lay_35 : decode cX10_lay 35 = .ok (.iconst (-1), 1) := by decide +kernel
theorem dX10_lay_36 : decode cX10_lay 36 = .ok (.if_icmp .eq 9, 3) := by decide +kernel
theorem dX10_lay_39 : decode cX10_lay 39 = .ok (.aload_n 0, 1) := by decide +kernel
theorem dX10_lay_40 : decode cX10_lay 40 = .ok (.iconst 0, 1) := by decide +kernel
theorem dX10_lay_41 : decode cX10_lay 41 = .ok (.iload_n 2, 1) := by decide +kernel
theorem dX10_lay_42 : decode cX10_lay 42 = .ok (.invokevirtual 326, 3) := by decide +kernel
theorem dX10_lay_45 : decode cX10_lay 45 = .ok (.iconst 1, 1) := by decide +kernel
theorem dX10_lay_46 : decode cX10_lay 46 = .ok (.ireturn, 1) := by decide +kernel
set_option maxRecDepth 20000 in
theorem dX10_second_0 : decode cX10_second 0 = .ok (.aload_n 0, 1) := by decide +kernel
theorem dX10_second_1 : decode cX10_second 1 = .ok (.iconst 0, 1) := by decide +kernel
theorem dX10_second_2 : decode cX10_second 2 = .ok (.putfield 81, 3) := by decide +kernel
theorem dX10_second_5 : decode cX10_second 5 = .ok (.aload_n 0, 1) := by decide +kernel
theorem dX10_second_6 : decode cX10_second 6 = .ok (.iload_n 1, 1) := by decide +kernel
theorem dX10_second_7 : decode cX10_second 7 = .ok (.iload_n 2, 1) := by decide +kernel
theorem dX10_second_8 : decode cX10_second 8 = .ok (.iconst 1, 1) := by decide +kernel
theorem dX10_second_9 : decode cX10_second 9 = .ok (.invokevirtual 329, 3) := by decide +kernel
theorem dX10_second_12 : decode cX10_second 12 = .ok (.ifCond .eq 25, 3) := by decide +kernel
theorem dX10_second_15 : decode cX10_second 15 = .ok (.iload 4, 2) := by decide +kernel
theorem dX10_second_17 : decode cX10_second 17 = .ok (.iconst 0, 1) := by decide +kernel
theorem dX10_second_18 : decode cX10_second 18 = .ok (.sipush 400, 3) := by decide +kernel
theorem dX10_second_21 : decode cX10_second 21 = .ok (.invokestatic 89, 3) := by decide +kernel
theorem dX10_second_24 : decode cX10_second 24 = .ok (.ifCond .eq 13, 3) := by decide +kernel
theorem dX10_second_27 : decode cX10_second 27 = .ok (.iload 5, 2) := by decide +kernel
theorem dX10_second_29 : decode cX10_second 29 = .ok (.iconst 0, 1) := by decide +kernel
theorem dX10_second_30 : decode cX10_second 30 = .ok (.iconst 3, 1) := by decide +kernel
theorem dX10_second_31 : decode cX10_second 31 = .ok (.invokestatic 89, 3) := by decide +kernel
theorem dX10_second_34 : decode cX10_second 34 = .ok (.ifCond .ne 6, 3) := by decide +kernel
theorem dX10_second_37 : decode cX10_second 37 = .ok (.ldc 235, 2) := by decide +kernel
theorem dX10_second_39 : decode cX10_second 39 = .ok (.ireturn, 1) := by decide +kernel
theorem dX10_second_40 : decode cX10_second 40 = .ok (.aload_n 0, 1) := by decide +kernel
theorem dX10_second_41 : decode cX10_second 41 = .ok (.iload_n 2, 1) := by decide +kernel
theorem dX10_second_42 : decode cX10_second 42 = .ok (.iconst (-1), 1) := by decide +kernel
theorem dX10_second_43 : decode cX10_second 43 = .ok (.if_icmp .eq 7, 3) := by decide +kernel
theorem dX10_second_46 : decode cX10_second 46 = .ok (.iconst 1, 1) := by decide +kernel
theorem dX10_second_47 : decode cX10_second 47 = .ok (.goto 4, 3) := by decide +kernel
theorem dX10_second_50 : decode cX10_second 50 = .ok (.iconst 0, 1) := by decide +kernel
theorem dX10_second_51 : decode cX10_second 51 = .ok (.iload_n 3, 1) := by decide +kernel
theorem dX10_second_52 : decode cX10_second 52 = .ok (.iload 4, 2) := by decide +kernel
theorem dX10_second_54 : decode cX10_second 54 = .ok (.invokevirtual 315, 3) := by decide +kernel
theorem dX10_second_57 : decode cX10_second 57 = .ok (.iload 5, 2) := by decide +kernel
theorem dX10_second_59 : decode cX10_second 59 = .ok (.ifCond .ne 13, 3) := by decide +kernel
theorem dX10_second_62 : decode cX10_second 62 = .ok (.aload_n 0, 1) := by decide +kernel
theorem dX10_second_63 : decode cX10_second 63 = .ok (.getfield 56, 3) := by decide +kernel
theorem dX10_second_66 : decode cX10_second 66 = .ok (.iload 4, 2) := by decide +kernel
theorem dX10_second_68 : decode cX10_second 68 = .ok (.iaload, 1) := by decide +kernel
theorem dX10_second_69 : decode cX10_second 69 = .ok (.goto 42, 3) := by decide +kernel
theorem dX10_second_72 : decode cX10_second 72 = .ok (.iload 5, 2) := by decide +kernel
theorem dX10_second_74 : decode cX10_second 74 = .ok (.iconst 1, 1) := by decide +kernel
theorem dX10_second_75 : decode cX10_second 75 = .ok (.if_icmp .ne 13, 3) := by decide +kernel
theorem dX10_second_78 : decode cX10_second 78 = .ok (.aload_n 0, 1) := by decide +kernel
theorem dX10_second_79 : decode cX10_second 79 = .ok (.getfield 59, 3) := by decide +kernel
theorem dX10_second_82 : decode cX10_second 82 = .ok (.iload 4, 2) := by decide +kernel
theorem dX10_second_84 : decode cX10_second 84 = .ok (.iaload, 1) := by decide +kernel
theorem dX10_second_85 : decode cX10_second 85 = .ok (.goto 26, 3) := by decide +kernel
theorem dX10_second_88 : decode cX10_second 88 = .ok (.iload 5, 2) := by decide +kernel
theorem dX10_second_90 : decode cX10_second 90 = .ok (.iconst 2, 1) := by decide +kernel
theorem dX10_second_91 : decode cX10_second 91 = .ok (.if_icmp .ne 13, 3) := by decide +kernel
theorem dX10_second_94 : decode cX10_second 94 = .ok (.aload_n 0, 1) := by decide +kernel
theorem dX10_second_95 : decode cX10_second 95 = .ok (.getfield 62, 3) := by decide +kernel
theorem dX10_second_98 : decode cX10_second 98 = .ok (.iload 4, 2) := by decide +kernel
theorem dX10_second_100 : decode cX10_second 100 = .ok (.iaload, 1) := by decide +kernel
theorem dX10_second_101 : decode cX10_second 101 = .ok (.goto 10, 3) := by decide +kernel
theorem dX10_second_104 : decode cX10_second 104 = .ok (.aload_n 0, 1) := by decide +kernel
theorem dX10_second_105 : decode cX10_second 105 = .ok (.getfield 65, 3) := by decide +kernel
theorem dX10_second_108 : decode cX10_second 108 = .ok (.iload 4, 2) := by decide +kernel
theorem dX10_second_110 : decode cX10_second 110 = .ok (.iaload, 1) := by decide +kernel
theorem dX10_second_111 : decode cX10_second 111 = .ok (.ireturn, 1) := by decide +kernel
set_option maxRecDepth 20000 in
theorem dX10_run_0 : decode cX10_run 0 = .ok (.aload_n 0, 1) := by decide +kernel
theorem dX10_run_1 : decode cX10_run 1 = .ok (.iconst 0, 1) := by decide +kernel
theorem dX10_run_2 : decode cX10_run 2 = .ok (.putfield 81, 3) := by decide +kernel
theorem dX10_run_5 : decode cX10_run 5 = .ok (.aload_n 0, 1) := by decide +kernel
theorem dX10_run_6 : decode cX10_run 6 = .ok (.iload_n 1, 1) := by decide +kernel
theorem dX10_run_7 : decode cX10_run 7 = .ok (.iload_n 2, 1) := by decide +kernel
theorem dX10_run_8 : decode cX10_run 8 = .ok (.iconst 1, 1) := by decide +kernel
theorem dX10_run_9 : decode cX10_run 9 = .ok (.invokevirtual 329, 3) := by decide +kernel
theorem dX10_run_12 : decode cX10_run 12 = .ok (.ifCond .eq 26, 3) := by decide +kernel
theorem dX10_run_15 : decode cX10_run 15 = .ok (.iload 4, 2) := by decide +kernel
theorem dX10_run_17 : decode cX10_run 17 = .ok (.iconst 1, 1) := by decide +kernel
theorem dX10_run_18 : decode cX10_run 18 = .ok (.sipush 400, 3) := by decide +kernel
theorem dX10_run_21 : decode cX10_run 21 = .ok (.invokestatic 89, 3) := by decide +kernel
theorem dX10_run_24 : decode cX10_run 24 = .ok (.ifCond .eq 14, 3) := by decide +kernel
theorem dX10_run_27 : decode cX10_run 27 = .ok (.iload 5, 2) := by decide +kernel
theorem dX10_run_29 : decode cX10_run 29 = .ok (.iconst 0, 1) := by decide +kernel
theorem dX10_run_30 : decode cX10_run 30 = .ok (.bipush 9, 2) := by decide +kernel
theorem dX10_run_32 : decode cX10_run 32 = .ok (.invokestatic 89, 3) := by decide +kernel
theorem dX10_run_35 : decode cX10_run 35 = .ok (.ifCond .ne 7, 3) := by decide +kernel
theorem dX10_run_38 : decode cX10_run 38 = .ok (.ldc2_w 333, 3) := by decide +kernel
theorem dX10_run_41 : decode cX10_run 41 = .ok (.lreturn, 1) := by decide +kernel
theorem dX10_run_42 : decode cX10_run 42 = .ok (.aload_n 0, 1) := by decide +kernel
theorem dX10_run_43 : decode cX10_run 43 = .ok (.iload_n 2, 1) := by decide +kernel
theorem dX10_run_44 : decode cX10_run 44 = .ok (.iconst (-1), 1) := by decide +kernel
theorem dX10_run_45 : decode cX10_run 45 = .ok (.if_icmp .eq 7, 3) := by decide +kernel
theorem dX10_run_48 : decode cX10_run 48 = .ok (.iconst 1, 1) := by decide +kernel
theorem dX10_run_49 : decode cX10_run 49 = .ok (.goto 4, 3) := by decide +kernel
theorem dX10_run_52 : decode cX10_run 52 = .ok (.iconst 0, 1) := by decide +kernel
theorem dX10_run_53 : decode cX10_run 53 = .ok (.iload_n 3, 1) := by decide +kernel
theorem dX10_run_54 : decode cX10_run 54 = .ok (.iload 4, 2) := by decide +kernel
theorem dX10_run_56 : decode cX10_run 56 = .ok (.invokevirtual 315, 3) := by decide +kernel
theorem dX10_run_59 : decode cX10_run 59 = .ok (.iload 5, 2) := by decide +kernel
theorem dX10_run_61 : decode cX10_run 61 = .ok (.tableswitch 108 0 8 #[51, 56, 61, 67, 72, 78, 83, 89, 102], 51) := by decide +kernel
theorem dX10_run_112 : decode cX10_run 112 = .ok (.aload_n 0, 1) := by decide +kernel
theorem dX10_run_113 : decode cX10_run 113 = .ok (.invokevirtual 319, 3) := by decide +kernel
theorem dX10_run_116 : decode cX10_run 116 = .ok (.lreturn, 1) := by decide +kernel
theorem dX10_run_117 : decode cX10_run 117 = .ok (.aload_n 0, 1) := by decide +kernel
theorem dX10_run_118 : decode cX10_run 118 = .ok (.getfield 243, 3) := by decide +kernel
theorem dX10_run_121 : decode cX10_run 121 = .ok (.lreturn, 1) := by decide +kernel
theorem dX10_run_122 : decode cX10_run 122 = .ok (.aload_n 0, 1) := by decide +kernel
theorem dX10_run_123 : decode cX10_run 123 = .ok (.getfield 246, 3) := by decide +kernel
theorem dX10_run_126 : decode cX10_run 126 = .ok (.i2l, 1) := by decide +kernel
theorem dX10_run_127 : decode cX10_run 127 = .ok (.lreturn, 1) := by decide +kernel
theorem dX10_run_128 : decode cX10_run 128 = .ok (.aload_n 0, 1) := by decide +kernel
theorem dX10_run_129 : decode cX10_run 129 = .ok (.getfield 249, 3) := by decide +kernel
theorem dX10_run_132 : decode cX10_run 132 = .ok (.lreturn, 1) := by decide +kernel
theorem dX10_run_133 : decode cX10_run 133 = .ok (.aload_n 0, 1) := by decide +kernel
theorem dX10_run_134 : decode cX10_run 134 = .ok (.getfield 252, 3) := by decide +kernel
theorem dX10_run_137 : decode cX10_run 137 = .ok (.i2l, 1) := by decide +kernel
theorem dX10_run_138 : decode cX10_run 138 = .ok (.lreturn, 1) := by decide +kernel
theorem dX10_run_139 : decode cX10_run 139 = .ok (.aload_n 0, 1) := by decide +kernel
theorem dX10_run_140 : decode cX10_run 140 = .ok (.getfield 255, 3) := by decide +kernel
theorem dX10_run_143 : decode cX10_run 143 = .ok (.lreturn, 1) := by decide +kernel
theorem dX10_run_144 : decode cX10_run 144 = .ok (.aload_n 0, 1) := by decide +kernel
theorem dX10_run_145 : decode cX10_run 145 = .ok (.getfield 258, 3) := by decide +kernel
theorem dX10_run_148 : decode cX10_run 148 = .ok (.i2l, 1) := by decide +kernel
theorem dX10_run_149 : decode cX10_run 149 = .ok (.lreturn, 1) := by decide +kernel
theorem dX10_run_150 : decode cX10_run 150 = .ok (.aload_n 0, 1) := by decide +kernel
theorem dX10_run_151 : decode cX10_run 151 = .ok (.invokevirtual 335, 3) := by decide +kernel
theorem dX10_run_154 : decode cX10_run 154 = .ok (.ifCond .eq 7, 3) := by decide +kernel
theorem dX10_run_157 : decode cX10_run 157 = .ok (.lconst 1, 1) := by decide +kernel
theorem dX10_run_158 : decode cX10_run 158 = .ok (.goto 4, 3) := by decide +kernel
theorem dX10_run_161 : decode cX10_run 161 = .ok (.lconst 0, 1) := by decide +kernel
theorem dX10_run_162 : decode cX10_run 162 = .ok (.lreturn, 1) := by decide +kernel
theorem dX10_run_163 : decode cX10_run 163 = .ok (.aload_n 0, 1) := by decide +kernel
theorem dX10_run_164 : decode cX10_run 164 = .ok (.getfield 267, 3) := by decide +kernel
theorem dX10_run_167 : decode cX10_run 167 = .ok (.i2l, 1) := by decide +kernel
theorem dX10_run_168 : decode cX10_run 168 = .ok (.lreturn, 1) := by decide +kernel
theorem dX10_run_169 : decode cX10_run 169 = .ok (.aload_n 0, 1) := by decide +kernel
theorem dX10_run_170 : decode cX10_run 170 = .ok (.getfield 273, 3) := by decide +kernel
theorem dX10_run_173 : decode cX10_run 173 = .ok (.i2l, 1) := by decide +kernel
theorem dX10_run_174 : decode cX10_run 174 = .ok (.lreturn, 1) := by decide +kernel
set_option maxRecDepth 20000 in
theorem dX10_peak_0 : decode cX10_peak 0 = .ok (.aload_n 0, 1) := by decide +kernel
theorem dX10_peak_1 : decode cX10_peak 1 = .ok (.iconst 0, 1) := by decide +kernel
theorem dX10_peak_2 : decode cX10_peak 2 = .ok (.putfield 81, 3) := by decide +kernel
theorem dX10_peak_5 : decode cX10_peak 5 = .ok (.aload_n 0, 1) := by decide +kernel
theorem dX10_peak_6 : decode cX10_peak 6 = .ok (.iload_n 1, 1) := by decide +kernel
theorem dX10_peak_7 : decode cX10_peak 7 = .ok (.iload_n 2, 1) := by decide +kernel
theorem dX10_peak_8 : decode cX10_peak 8 = .ok (.iconst 1, 1) := by decide +kernel
theorem dX10_peak_9 : decode cX10_peak 9 = .ok (.invokevirtual 329, 3) := by decide +kernel
theorem dX10_peak_12 : decode cX10_peak 12 = .ok (.ifCond .eq 15, 3) := by decide +kernel
theorem dX10_peak_15 : decode cX10_peak 15 = .ok (.iload 4, 2) := by decide +kernel
theorem dX10_peak_17 : decode cX10_peak 17 = .ok (.iconst 1, 1) := by decide +kernel
theorem dX10_peak_18 : decode cX10_peak 18 = .ok (.sipush 400, 3) := by decide +kernel
theorem dX10_peak_21 : decode cX10_peak 21 = .ok (.invokestatic 89, 3) := by decide +kernel
theorem dX10_peak_24 : decode cX10_peak 24 = .ok (.ifCond .ne 5, 3) := by decide +kernel
theorem dX10_peak_27 : decode cX10_peak 27 = .ok (.iconst (-1), 1) := by decide +kernel
theorem dX10_peak_28 : decode cX10_peak 28 = .ok (.ireturn, 1) := by decide +kernel
theorem dX10_peak_29 : decode cX10_peak 29 = .ok (.aload_n 0, 1) := by decide +kernel
theorem dX10_peak_30 : decode cX10_peak 30 = .ok (.iload_n 2, 1) := by decide +kernel
theorem dX10_peak_31 : decode cX10_peak 31 = .ok (.iconst (-1), 1) := by decide +kernel
theorem dX10_peak_32 : decode cX10_peak 32 = .ok (.if_icmp .eq 7, 3) := by decide +kernel
theorem dX10_peak_35 : decode cX10_peak 35 = .ok (.iconst 1, 1) := by decide +kernel
theorem dX10_peak_36 : decode cX10_peak 36 = .ok (.goto 4, 3) := by decide +kernel
theorem dX10_peak_39 : decode cX10_peak 39 = .ok (.iconst 0, 1) := by decide +kernel
theorem dX10_peak_40 : decode cX10_peak 40 = .ok (.iload_n 3, 1) := by decide +kernel
theorem dX10_peak_41 : decode cX10_peak 41 = .ok (.iload 4, 2) := by decide +kernel
theorem dX10_peak_43 : decode cX10_peak 43 = .ok (.invokevirtual 315, 3) := by decide +kernel
theorem dX10_peak_46 : decode cX10_peak 46 = .ok (.iload 5, 2) := by decide +kernel
theorem dX10_peak_48 : decode cX10_peak 48 = .ok (.iconst 0, 1) := by decide +kernel
theorem dX10_peak_49 : decode cX10_peak 49 = .ok (.aload_n 0, 1) := by decide +kernel
theorem dX10_peak_50 : decode cX10_peak 50 = .ok (.getfield 258, 3) := by decide +kernel
theorem dX10_peak_53 : decode cX10_peak 53 = .ok (.invokestatic 89, 3) := by decide +kernel
theorem dX10_peak_56 : decode cX10_peak 56 = .ok (.ifCond .eq 13, 3) := by decide +kernel
theorem dX10_peak_59 : decode cX10_peak 59 = .ok (.aload_n 0, 1) := by decide +kernel
theorem dX10_peak_60 : decode cX10_peak 60 = .ok (.getfield 68, 3) := by decide +kernel
theorem dX10_peak_63 : decode cX10_peak 63 = .ok (.iload 5, 2) := by decide +kernel
theorem dX10_peak_65 : decode cX10_peak 65 = .ok (.iaload, 1) := by decide +kernel
theorem dX10_peak_66 : decode cX10_peak 66 = .ok (.goto 4, 3) := by decide +kernel
theorem dX10_peak_69 : decode cX10_peak 69 = .ok (.iconst (-1), 1) := by decide +kernel
theorem dX10_peak_70 : decode cX10_peak 70 = .ok (.ireturn, 1) := by decide +kernel
set_option maxRecDepth 20000 in
theorem dX10_layFor_0 : decode cX10_layFor 0 = .ok (.iload_n 3, 1) := by decide +kernel
theorem dX10_layFor_1 : decode cX10_layFor 1 = .ok (.iconst 1, 1) := by decide +kernel
theorem dX10_layFor_2 : decode cX10_layFor 2 = .ok (.sipush 200, 3) := by decide +kernel
theorem dX10_layFor_5 : decode cX10_layFor 5 = .ok (.invokestatic 89, 3) := by decide +kernel
theorem dX10_layFor_8 : decode cX10_layFor 8 = .ok (.ifCond .eq 17, 3) := by decide +kernel
theorem dX10_layFor_11 : decode cX10_layFor 11 = .ok (.aload_n 0, 1) := by decide +kernel
theorem dX10_layFor_12 : decode cX10_layFor 12 = .ok (.iload_n 1, 1) := by decide +kernel
theorem dX10_layFor_13 : decode cX10_layFor 13 = .ok (.iload_n 2, 1) := by decide +kernel
theorem dX10_layFor_14 : decode cX10_layFor 14 = .ok (.iconst 0, 1) := by decide +kernel
theorem dX10_layFor_15 : decode cX10_layFor 15 = .ok (.invokevirtual 329, 3) := by decide +kernel
theorem dX10_layFor_18 : decode cX10_layFor 18 = .ok (.ifCond .eq 7, 3) := by decide +kernel
theorem dX10_layFor_21 : decode cX10_layFor 21 = .ok (.iconst 1, 1) := by decide +kernel
theorem dX10_layFor_22 : decode cX10_layFor 22 = .ok (.goto 4, 3) := by decide +kernel
theorem dX10_layFor_25 : decode cX10_layFor 25 = .ok (.iconst 0, 1) := by decide +kernel
theorem dX10_layFor_26 : decode cX10_layFor 26 = .ok (.ireturn, 1) := by decide +kernel
theorem dX10_put_0 : decode cX10_put 0 = .ok (.aload_n 0, 1) := by decide +kernel
theorem dX10_put_1 : decode cX10_put 1 = .ok (.getfield 44, 3) := by decide +kernel
theorem dX10_put_4 : decode cX10_put 4 = .ok (.iload_n 1, 1) := by decide +kernel
theorem dX10_put_5 : decode cX10_put 5 = .ok (.iload_n 2, 1) := by decide +kernel
theorem dX10_put_6 : decode cX10_put 6 = .ok (.iastore, 1) := by decide +kernel
theorem dX10_put_7 : decode cX10_put 7 = .ok (.return_, 1) := by decide +kernel
set_option maxRecDepth 20000 in
theorem dX10_found_0 : decode cX10_found 0 = .ok (.aload_n 0, 1) := by decide +kernel
theorem dX10_found_1 : decode cX10_found 1 = .ok (.iconst 0, 1) := by decide +kernel
theorem dX10_found_2 : decode cX10_found 2 = .ok (.putfield 81, 3) := by decide +kernel
theorem dX10_found_5 : decode cX10_found 5 = .ok (.aload_n 0, 1) := by decide +kernel
theorem dX10_found_6 : decode cX10_found 6 = .ok (.iload_n 1, 1) := by decide +kernel
theorem dX10_found_7 : decode cX10_found 7 = .ok (.iload_n 2, 1) := by decide +kernel
theorem dX10_found_8 : decode cX10_found 8 = .ok (.iload_n 3, 1) := by decide +kernel
theorem dX10_found_9 : decode cX10_found 9 = .ok (.invokevirtual 338, 3) := by decide +kernel
theorem dX10_found_12 : decode cX10_found 12 = .ok (.ifCond .eq 35, 3) := by decide +kernel
theorem dX10_found_15 : decode cX10_found 15 = .ok (.iload 4, 2) := by decide +kernel
theorem dX10_found_17 : decode cX10_found 17 = .ok (.iconst 0, 1) := by decide +kernel
theorem dX10_found_18 : decode cX10_found 18 = .ok (.bipush 20, 2) := by decide +kernel
theorem dX10_found_20 : decode cX10_found 20 = .ok (.invokestatic 89, 3) := by decide +kernel
theorem dX10_found_23 : decode cX10_found 23 = .ok (.ifCond .eq 24, 3) := by decide +kernel
theorem dX10_found_26 : decode cX10_found 26 = .ok (.iload 5, 2) := by decide +kernel
theorem dX10_found_28 : decode cX10_found 28 = .ok (.iconst 0, 1) := by decide +kernel
theorem dX10_found_29 : decode cX10_found 29 = .ok (.bipush 20, 2) := by decide +kernel
theorem dX10_found_31 : decode cX10_found 31 = .ok (.invokestatic 89, 3) := by decide +kernel
theorem dX10_found_34 : decode cX10_found 34 = .ok (.ifCond .eq 13, 3) := by decide +kernel
theorem dX10_found_37 : decode cX10_found 37 = .ok (.iload 6, 2) := by decide +kernel
theorem dX10_found_39 : decode cX10_found 39 = .ok (.iconst 0, 1) := by decide +kernel
theorem dX10_found_40 : decode cX10_found 40 = .ok (.iconst 2, 1) := by decide +kernel
theorem dX10_found_41 : decode cX10_found 41 = .ok (.invokestatic 89, 3) := by decide +kernel
theorem dX10_found_44 : decode cX10_found 44 = .ok (.ifCond .ne 7, 3) := by decide +kernel
theorem dX10_found_47 : decode cX10_found 47 = .ok (.ldc2_w 341, 3) := by decide +kernel
theorem dX10_found_50 : decode cX10_found 50 = .ok (.lreturn, 1) := by decide +kernel
theorem dX10_found_51 : decode cX10_found 51 = .ok (.iconst (-1), 1) := by decide +kernel
theorem dX10_found_52 : decode cX10_found 52 = .ok (.istore 7, 2) := by decide +kernel
theorem dX10_found_54 : decode cX10_found 54 = .ok (.lconst 0, 1) := by decide +kernel
theorem dX10_found_55 : decode cX10_found 55 = .ok (.lstore 8, 2) := by decide +kernel
theorem dX10_found_57 : decode cX10_found 57 = .ok (.iconst 0, 1) := by decide +kernel
theorem dX10_found_58 : decode cX10_found 58 = .ok (.istore 10, 2) := by decide +kernel
theorem dX10_found_60 : decode cX10_found 60 = .ok (.iload 10, 2) := by decide +kernel
theorem dX10_found_62 : decode cX10_found 62 = .ok (.iload 4, 2) := by decide +kernel
theorem dX10_found_64 : decode cX10_found 64 = .ok (.iconst 1, 1) := by decide +kernel
theorem dX10_found_65 : decode cX10_found 65 = .ok (.iadd, 1) := by decide +kernel
theorem dX10_found_66 : decode cX10_found 66 = .ok (.iload 5, 2) := by decide +kernel
theorem dX10_found_68 : decode cX10_found 68 = .ok (.iconst 1, 1) := by decide +kernel
theorem dX10_found_69 : decode cX10_found 69 = .ok (.iadd, 1) := by decide +kernel
theorem dX10_found_70 : decode cX10_found 70 = .ok (.imul, 1) := by decide +kernel
theorem dX10_found_71 : decode cX10_found 71 = .ok (.if_icmp .ge 62, 3) := by decide +kernel
theorem dX10_found_74 : decode cX10_found 74 = .ok (.aload_n 0, 1) := by decide +kernel
theorem dX10_found_75 : decode cX10_found 75 = .ok (.iconst 0, 1) := by decide +kernel
theorem dX10_found_76 : decode cX10_found 76 = .ok (.iload 10, 2) := by decide +kernel
theorem dX10_found_78 : decode cX10_found 78 = .ok (.iload 5, 2) := by decide +kernel
theorem dX10_found_80 : decode cX10_found 80 = .ok (.iconst 1, 1) := by decide +kernel
theorem dX10_found_81 : decode cX10_found 81 = .ok (.iadd, 1) := by decide +kernel
theorem dX10_found_82 : decode cX10_found 82 = .ok (.idiv, 1) := by decide +kernel
theorem dX10_found_83 : decode cX10_found 83 = .ok (.invokevirtual 343, 3) := by decide +kernel
theorem dX10_found_86 : decode cX10_found 86 = .ok (.aload_n 0, 1) := by decide +kernel
theorem dX10_found_87 : decode cX10_found 87 = .ok (.iconst 1, 1) := by decide +kernel
theorem dX10_found_88 : decode cX10_found 88 = .ok (.iload 10, 2) := by decide +kernel
theorem dX10_found_90 : decode cX10_found 90 = .ok (.iload 5, 2) := by decide +kernel
theorem dX10_found_92 : decode cX10_found 92 = .ok (.iconst 1, 1) := by decide +kernel
theorem dX10_found_93 : decode cX10_found 93 = .ok (.iadd, 1) := by decide +kernel
theorem dX10_found_94 : decode cX10_found 94 = .ok (.irem, 1) := by decide +kernel
theorem dX10_found_95 : decode cX10_found 95 = .ok (.invokevirtual 343, 3) := by decide +kernel
theorem dX10_found_98 : decode cX10_found 98 = .ok (.aload_n 0, 1) := by decide +kernel
theorem dX10_found_99 : decode cX10_found 99 = .ok (.iload_n 3, 1) := by decide +kernel
theorem dX10_found_100 : decode cX10_found 100 = .ok (.invokevirtual 346, 3) := by decide +kernel
theorem dX10_found_103 : decode cX10_found 103 = .ok (.lstore 11, 2) := by decide +kernel
theorem dX10_found_105 : decode cX10_found 105 = .ok (.iload 7, 2) := by decide +kernel
theorem dX10_found_107 : decode cX10_found 107 = .ok (.iconst (-1), 1) := by decide +kernel
theorem dX10_found_108 : decode cX10_found 108 = .ok (.if_icmp .eq 11, 3) := by decide +kernel
theorem dX10_found_111 : decode cX10_found 111 = .ok (.lload 11, 2) := by decide +kernel
theorem dX10_found_113 : decode cX10_found 113 = .ok (.lload 8, 2) := by decide +kernel
theorem dX10_found_115 : decode cX10_found 115 = .ok (.lcmp, 1) := by decide +kernel
theorem dX10_found_116 : decode cX10_found 116 = .ok (.ifCond .ge 11, 3) := by decide +kernel
theorem dX10_found_119 : decode cX10_found 119 = .ok (.iload 10, 2) := by decide +kernel
theorem dX10_found_121 : decode cX10_found 121 = .ok (.istore 7, 2) := by decide +kernel
theorem dX10_found_123 : decode cX10_found 123 = .ok (.lload 11, 2) := by decide +kernel
theorem dX10_found_125 : decode cX10_found 125 = .ok (.lstore 8, 2) := by decide +kernel
theorem dX10_found_127 : decode cX10_found 127 = .ok (.iinc 10 1, 3) := by decide +kernel
theorem dX10_found_130 : decode cX10_found 130 = .ok (.goto (-70), 3) := by decide +kernel
theorem dX10_found_133 : decode cX10_found 133 = .ok (.iload 6, 2) := by decide +kernel
theorem dX10_found_135 : decode cX10_found 135 = .ok (.ifCond .ne 14, 3) := by decide +kernel
theorem dX10_found_138 : decode cX10_found 138 = .ok (.iload 7, 2) := by decide +kernel
theorem dX10_found_140 : decode cX10_found 140 = .ok (.iload 5, 2) := by decide +kernel
theorem dX10_found_142 : decode cX10_found 142 = .ok (.iconst 1, 1) := by decide +kernel
theorem dX10_found_143 : decode cX10_found 143 = .ok (.iadd, 1) := by decide +kernel
theorem dX10_found_144 : decode cX10_found 144 = .ok (.idiv, 1) := by decide +kernel
theorem dX10_found_145 : decode cX10_found 145 = .ok (.i2l, 1) := by decide +kernel
theorem dX10_found_146 : decode cX10_found 146 = .ok (.goto 22, 3) := by decide +kernel
theorem dX10_found_149 : decode cX10_found 149 = .ok (.iload 6, 2) := by decide +kernel
theorem dX10_found_151 : decode cX10_found 151 = .ok (.iconst 1, 1) := by decide +kernel
theorem dX10_found_152 : decode cX10_found 152 = .ok (.if_icmp .ne 14, 3) := by decide +kernel
theorem dX10_found_155 : decode cX10_found 155 = .ok (.iload 7, 2) := by decide +kernel
theorem dX10_found_157 : decode cX10_found 157 = .ok (.iload 5, 2) := by decide +kernel
theorem dX10_found_159 : decode cX10_found 159 = .ok (.iconst 1, 1) := by decide +kernel
theorem dX10_found_160 : decode cX10_found 160 = .ok (.iadd, 1) := by decide +kernel
theorem dX10_found_161 : decode cX10_found 161 = .ok (.irem, 1) := by decide +kernel
theorem dX10_found_162 : decode cX10_found 162 = .ok (.i2l, 1) := by decide +kernel
theorem dX10_found_163 : decode cX10_found 163 = .ok (.goto 5, 3) := by decide +kernel
theorem dX10_found_166 : decode cX10_found 166 = .ok (.lload 8, 2) := by decide +kernel
theorem dX10_found_168 : decode cX10_found 168 = .ok (.lreturn, 1) := by decide +kernel
set_option maxRecDepth 20000 in
theorem dX10_iron_0 : decode cX10_iron 0 = .ok (.aload_n 0, 1) := by decide +kernel
theorem dX10_iron_1 : decode cX10_iron 1 = .ok (.iconst 0, 1) := by decide +kernel
theorem dX10_iron_2 : decode cX10_iron 2 = .ok (.putfield 81, 3) := by decide +kernel
theorem dX10_iron_5 : decode cX10_iron 5 = .ok (.aload_n 0, 1) := by decide +kernel
theorem dX10_iron_6 : decode cX10_iron 6 = .ok (.iload_n 1, 1) := by decide +kernel
theorem dX10_iron_7 : decode cX10_iron 7 = .ok (.iload_n 2, 1) := by decide +kernel
theorem dX10_iron_8 : decode cX10_iron 8 = .ok (.iload_n 3, 1) := by decide +kernel
theorem dX10_iron_9 : decode cX10_iron 9 = .ok (.invokevirtual 338, 3) := by decide +kernel
theorem dX10_iron_12 : decode cX10_iron 12 = .ok (.ifCond .ne 7, 3) := by decide +kernel
theorem dX10_iron_15 : decode cX10_iron 15 = .ok (.ldc2_w 341, 3) := by decide +kernel
theorem dX10_iron_18 : decode cX10_iron 18 = .ok (.lreturn, 1) := by decide +kernel
theorem dX10_iron_19 : decode cX10_iron 19 = .ok (.iconst (-1), 1) := by decide +kernel
theorem dX10_iron_20 : decode cX10_iron 20 = .ok (.istore 5, 2) := by decide +kernel
theorem dX10_iron_22 : decode cX10_iron 22 = .ok (.lconst 0, 1) := by decide +kernel
theorem dX10_iron_23 : decode cX10_iron 23 = .ok (.lstore 6, 2) := by decide +kernel
theorem dX10_iron_25 : decode cX10_iron 25 = .ok (.iconst 0, 1) := by decide +kernel
theorem dX10_iron_26 : decode cX10_iron 26 = .ok (.istore 8, 2) := by decide +kernel
theorem dX10_iron_28 : decode cX10_iron 28 = .ok (.iload 8, 2) := by decide +kernel
theorem dX10_iron_30 : decode cX10_iron 30 = .ok (.bipush 20, 2) := by decide +kernel
theorem dX10_iron_32 : decode cX10_iron 32 = .ok (.if_icmp .gt 45, 3) := by decide +kernel
theorem dX10_iron_35 : decode cX10_iron 35 = .ok (.aload_n 0, 1) := by decide +kernel
theorem dX10_iron_36 : decode cX10_iron 36 = .ok (.iconst 2, 1) := by decide +kernel
theorem dX10_iron_37 : decode cX10_iron 37 = .ok (.iload 8, 2) := by decide +kernel
theorem dX10_iron_39 : decode cX10_iron 39 = .ok (.invokevirtual 343, 3) := by decide +kernel
theorem dX10_iron_42 : decode cX10_iron 42 = .ok (.aload_n 0, 1) := by decide +kernel
theorem dX10_iron_43 : decode cX10_iron 43 = .ok (.iload_n 3, 1) := by decide +kernel
theorem dX10_iron_44 : decode cX10_iron 44 = .ok (.invokevirtual 346, 3) := by decide +kernel
theorem dX10_iron_47 : decode cX10_iron 47 = .ok (.lstore 9, 2) := by decide +kernel
theorem dX10_iron_49 : decode cX10_iron 49 = .ok (.iload 5, 2) := by decide +kernel
theorem dX10_iron_51 : decode cX10_iron 51 = .ok (.iconst (-1), 1) := by decide +kernel
theorem dX10_iron_52 : decode cX10_iron 52 = .ok (.if_icmp .eq 11, 3) := by decide +kernel
theorem dX10_iron_55 : decode cX10_iron 55 = .ok (.lload 9, 2) := by decide +kernel
theorem dX10_iron_57 : decode cX10_iron 57 = .ok (.lload 6, 2) := by decide +kernel
theorem dX10_iron_59 : decode cX10_iron 59 = .ok (.lcmp, 1) := by decide +kernel
theorem dX10_iron_60 : decode cX10_iron 60 = .ok (.ifCond .ge 11, 3) := by decide +kernel
theorem dX10_iron_63 : decode cX10_iron 63 = .ok (.iload 8, 2) := by decide +kernel
theorem dX10_iron_65 : decode cX10_iron 65 = .ok (.istore 5, 2) := by decide +kernel
theorem dX10_iron_67 : decode cX10_iron 67 = .ok (.lload 9, 2) := by decide +kernel
theorem dX10_iron_69 : decode cX10_iron 69 = .ok (.lstore 6, 2) := by decide +kernel
theorem dX10_iron_71 : decode cX10_iron 71 = .ok (.iinc 8 1, 3) := by decide +kernel
theorem dX10_iron_74 : decode cX10_iron 74 = .ok (.goto (-46), 3) := by decide +kernel
theorem dX10_iron_77 : decode cX10_iron 77 = .ok (.iload 4, 2) := by decide +kernel
theorem dX10_iron_79 : decode cX10_iron 79 = .ok (.ifCond .eq 8, 3) := by decide +kernel
theorem dX10_iron_82 : decode cX10_iron 82 = .ok (.lload 6, 2) := by decide +kernel
theorem dX10_iron_84 : decode cX10_iron 84 = .ok (.goto 6, 3) := by decide +kernel
theorem dX10_iron_87 : decode cX10_iron 87 = .ok (.iload 5, 2) := by decide +kernel
theorem dX10_iron_89 : decode cX10_iron 89 = .ok (.i2l, 1) := by decide +kernel
theorem dX10_iron_90 : decode cX10_iron 90 = .ok (.lreturn, 1) := by decide +kernel
set_option maxRecDepth 20000 in
theorem dX10_line_0 : decode cX10_line 0 = .ok (.aload_n 0, 1) := by decide +kernel
theorem dX10_line_1 : decode cX10_line 1 = .ok (.iconst 0, 1) := by decide +kernel
theorem dX10_line_2 : decode cX10_line 2 = .ok (.putfield 81, 3) := by decide +kernel
theorem dX10_line_5 : decode cX10_line 5 = .ok (.aload_n 0, 1) := by decide +kernel
theorem dX10_line_6 : decode cX10_line 6 = .ok (.iload_n 1, 1) := by decide +kernel
theorem dX10_line_7 : decode cX10_line 7 = .ok (.iload_n 2, 1) := by decide +kernel
theorem dX10_line_8 : decode cX10_line 8 = .ok (.iload_n 3, 1) := by decide +kernel
theorem dX10_line_9 : decode cX10_line 9 = .ok (.invokevirtual 338, 3) := by decide +kernel
theorem dX10_line_12 : decode cX10_line 12 = .ok (.ifCond .eq 14, 3) := by decide +kernel
theorem dX10_line_15 : decode cX10_line 15 = .ok (.iload 4, 2) := by decide +kernel
theorem dX10_line_17 : decode cX10_line 17 = .ok (.iconst 0, 1) := by decide +kernel
theorem dX10_line_18 : decode cX10_line 18 = .ok (.bipush 9, 2) := by decide +kernel
theorem dX10_line_20 : decode cX10_line 20 = .ok (.invokestatic 89, 3) := by decide +kernel
theorem dX10_line_23 : decode cX10_line 23 = .ok (.ifCond .ne 5, 3) := by decide +kernel
theorem dX10_line_26 : decode cX10_line 26 = .ok (.iconst (-1), 1) := by decide +kernel
theorem dX10_line_27 : decode cX10_line 27 = .ok (.ireturn, 1) := by decide +kernel
theorem dX10_line_28 : decode cX10_line 28 = .ok (.aload_n 0, 1) := by decide +kernel
theorem dX10_line_29 : decode cX10_line 29 = .ok (.getfield 41, 3) := by decide +kernel
theorem dX10_line_32 : decode cX10_line 32 = .ok (.iconst 2, 1) := by decide +kernel
theorem dX10_line_33 : decode cX10_line 33 = .ok (.iload 4, 2) := by decide +kernel
theorem dX10_line_35 : decode cX10_line 35 = .ok (.iastore, 1) := by decide +kernel
theorem dX10_line_36 : decode cX10_line 36 = .ok (.iconst (-1), 1) := by decide +kernel
theorem dX10_line_37 : decode cX10_line 37 = .ok (.istore 5, 2) := by decide +kernel
theorem dX10_line_39 : decode cX10_line 39 = .ok (.iconst 0, 1) := by decide +kernel
theorem dX10_line_40 : decode cX10_line 40 = .ok (.istore 6, 2) := by decide +kernel
theorem dX10_line_42 : decode cX10_line 42 = .ok (.iload 6, 2) := by decide +kernel
theorem dX10_line_44 : decode cX10_line 44 = .ok (.bipush 99, 2) := by decide +kernel
theorem dX10_line_46 : decode cX10_line 46 = .ok (.if_icmp .gt 39, 3) := by decide +kernel
theorem dX10_line_49 : decode cX10_line 49 = .ok (.aload_n 0, 1) := by decide +kernel
theorem dX10_line_50 : decode cX10_line 50 = .ok (.iconst 0, 1) := by decide +kernel
theorem dX10_line_51 : decode cX10_line 51 = .ok (.iload 6, 2) := by decide +kernel
theorem dX10_line_53 : decode cX10_line 53 = .ok (.invokevirtual 343, 3) := by decide +kernel
theorem dX10_line_56 : decode cX10_line 56 = .ok (.aload_n 0, 1) := by decide +kernel
theorem dX10_line_57 : decode cX10_line 57 = .ok (.iconst 1, 1) := by decide +kernel
theorem dX10_line_58 : decode cX10_line 58 = .ok (.iconst 0, 1) := by decide +kernel
theorem dX10_line_59 : decode cX10_line 59 = .ok (.iload_n 3, 1) := by decide +kernel
theorem dX10_line_60 : decode cX10_line 60 = .ok (.invokevirtual 315, 3) := by decide +kernel
theorem dX10_line_63 : decode cX10_line 63 = .ok (.aload_n 0, 1) := by decide +kernel
theorem dX10_line_64 : decode cX10_line 64 = .ok (.invokevirtual 335, 3) := by decide +kernel
theorem dX10_line_67 : decode cX10_line 67 = .ok (.ifCond .eq 8, 3) := by decide +kernel
theorem dX10_line_70 : decode cX10_line 70 = .ok (.iload 5, 2) := by decide +kernel
theorem dX10_line_72 : decode cX10_line 72 = .ok (.goto 5, 3) := by decide +kernel
theorem dX10_line_75 : decode cX10_line 75 = .ok (.iload 6, 2) := by decide +kernel
theorem dX10_line_77 : decode cX10_line 77 = .ok (.istore 5, 2) := by decide +kernel
theorem dX10_line_79 : decode cX10_line 79 = .ok (.iinc 6 1, 3) := by decide +kernel
theorem dX10_line_82 : decode cX10_line 82 = .ok (.goto (-40), 3) := by decide +kernel
theorem dX10_line_85 : decode cX10_line 85 = .ok (.iload 5, 2) := by decide +kernel
theorem dX10_line_87 : decode cX10_line 87 = .ok (.ireturn, 1) := by decide +kernel
set_option maxRecDepth 20000 in
theorem dX10_alone_0 : decode cX10_alone 0 = .ok (.aload_n 0, 1) := by decide +kernel
theorem dX10_alone_1 : decode cX10_alone 1 = .ok (.iconst 0, 1) := by decide +kernel
theorem dX10_alone_2 : decode cX10_alone 2 = .ok (.putfield 81, 3) := by decide +kernel
theorem dX10_alone_5 : decode cX10_alone 5 = .ok (.iload_n 2, 1) := by decide +kernel
theorem dX10_alone_6 : decode cX10_alone 6 = .ok (.iconst 1, 1) := by decide +kernel
theorem dX10_alone_7 : decode cX10_alone 7 = .ok (.sipush 200, 3) := by decide +kernel
theorem dX10_alone_10 : decode cX10_alone 10 = .ok (.invokestatic 89, 3) := by decide +kernel
theorem dX10_alone_13 : decode cX10_alone 13 = .ok (.ifCond .eq 17, 3) := by decide +kernel
theorem dX10_alone_16 : decode cX10_alone 16 = .ok (.iload_n 3, 1) := by decide +kernel
theorem dX10_alone_17 : decode cX10_alone 17 = .ok (.ifCond .lt 13, 3) := by decide +kernel
theorem dX10_alone_20 : decode cX10_alone 20 = .ok (.aload_n 0, 1) := by decide +kernel
theorem dX10_alone_21 : decode cX10_alone 21 = .ok (.iload_n 1, 1) := by decide +kernel
theorem dX10_alone_22 : decode cX10_alone 22 = .ok (.iconst (-1), 1) := by decide +kernel
theorem dX10_alone_23 : decode cX10_alone 23 = .ok (.iconst 1, 1) := by decide +kernel
theorem dX10_alone_24 : decode cX10_alone 24 = .ok (.invokevirtual 329, 3) := by decide +kernel
theorem dX10_alone_27 : decode cX10_alone 27 = .ok (.ifCond .ne 5, 3) := by decide +kernel
theorem dX10_alone_30 : decode cX10_alone 30 = .ok (.iconst (-1), 1) := by decide +kernel
theorem dX10_alone_31 : decode cX10_alone 31 = .ok (.ireturn, 1) := by decide +kernel
theorem dX10_alone_32 : decode cX10_alone 32 = .ok (.iconst 0, 1) := by decide +kernel
theorem dX10_alone_33 : decode cX10_alone 33 = .ok (.istore 4, 2) := by decide +kernel
theorem dX10_alone_35 : decode cX10_alone 35 = .ok (.iload 4, 2) := by decide +kernel
theorem dX10_alone_37 : decode cX10_alone 37 = .ok (.bipush 99, 2) := by decide +kernel
theorem dX10_alone_39 : decode cX10_alone 39 = .ok (.if_icmp .gt 36, 3) := by decide +kernel
theorem dX10_alone_42 : decode cX10_alone 42 = .ok (.aload_n 0, 1) := by decide +kernel
theorem dX10_alone_43 : decode cX10_alone 43 = .ok (.getfield 41, 3) := by decide +kernel
theorem dX10_alone_46 : decode cX10_alone 46 = .ok (.bipush 7, 2) := by decide +kernel
theorem dX10_alone_48 : decode cX10_alone 48 = .ok (.iload 4, 2) := by decide +kernel
theorem dX10_alone_50 : decode cX10_alone 50 = .ok (.iastore, 1) := by decide +kernel
theorem dX10_alone_51 : decode cX10_alone 51 = .ok (.aload_n 0, 1) := by decide +kernel
theorem dX10_alone_52 : decode cX10_alone 52 = .ok (.iconst 0, 1) := by decide +kernel
theorem dX10_alone_53 : decode cX10_alone 53 = .ok (.iconst 0, 1) := by decide +kernel
theorem dX10_alone_54 : decode cX10_alone 54 = .ok (.iload_n 2, 1) := by decide +kernel
theorem dX10_alone_55 : decode cX10_alone 55 = .ok (.invokevirtual 315, 3) := by decide +kernel
theorem dX10_alone_58 : decode cX10_alone 58 = .ok (.aload_n 0, 1) := by decide +kernel
theorem dX10_alone_59 : decode cX10_alone 59 = .ok (.getfield 252, 3) := by decide +kernel
theorem dX10_alone_62 : decode cX10_alone 62 = .ok (.iload_n 3, 1) := by decide +kernel
theorem dX10_alone_63 : decode cX10_alone 63 = .ok (.if_icmp .gt 6, 3) := by decide +kernel
theorem dX10_alone_66 : decode cX10_alone 66 = .ok (.iload 4, 2) := by decide +kernel
theorem dX10_alone_68 : decode cX10_alone 68 = .ok (.ireturn, 1) := by decide +kernel
theorem dX10_alone_69 : decode cX10_alone 69 = .ok (.iinc 4 1, 3) := by decide +kernel
theorem dX10_alone_72 : decode cX10_alone 72 = .ok (.goto (-37), 3) := by decide +kernel
theorem dX10_alone_75 : decode cX10_alone 75 = .ok (.iconst (-1), 1) := by decide +kernel
theorem dX10_alone_76 : decode cX10_alone 76 = .ok (.ireturn, 1) := by decide +kernel
set_option maxRecDepth 20000 in
theorem dX10_hard_0 : decode cX10_hard 0 = .ok (.aload_n 0, 1) := by decide +kernel
theorem dX10_hard_1 : decode cX10_hard 1 = .ok (.iconst 0, 1) := by decide +kernel
theorem dX10_hard_2 : decode cX10_hard 2 = .ok (.putfield 81, 3) := by decide +kernel
theorem dX10_hard_5 : decode cX10_hard 5 = .ok (.aload_n 0, 1) := by decide +kernel
theorem dX10_hard_6 : decode cX10_hard 6 = .ok (.iload_n 1, 1) := by decide +kernel
theorem dX10_hard_7 : decode cX10_hard 7 = .ok (.iload_n 2, 1) := by decide +kernel
theorem dX10_hard_8 : decode cX10_hard 8 = .ok (.iload_n 3, 1) := by decide +kernel
theorem dX10_hard_9 : decode cX10_hard 9 = .ok (.invokevirtual 338, 3) := by decide +kernel
theorem dX10_hard_12 : decode cX10_hard 12 = .ok (.ifCond .eq 8, 3) := by decide +kernel
theorem dX10_hard_15 : decode cX10_hard 15 = .ok (.iload 4, 2) := by decide +kernel
theorem dX10_hard_17 : decode cX10_hard 17 = .ok (.ifCond .ge 5, 3) := by decide +kernel
theorem dX10_hard_20 : decode cX10_hard 20 = .ok (.iconst (-1), 1) := by decide +kernel
theorem dX10_hard_21 : decode cX10_hard 21 = .ok (.ireturn, 1) := by decide +kernel
theorem dX10_hard_22 : decode cX10_hard 22 = .ok (.iconst (-1), 1) := by decide +kernel
theorem dX10_hard_23 : decode cX10_hard 23 = .ok (.istore 5, 2) := by decide +kernel
theorem dX10_hard_25 : decode cX10_hard 25 = .ok (.iconst 0, 1) := by decide +kernel
theorem dX10_hard_26 : decode cX10_hard 26 = .ok (.istore 6, 2) := by decide +kernel
theorem dX10_hard_28 : decode cX10_hard 28 = .ok (.iload 6, 2) := by decide +kernel
theorem dX10_hard_30 : decode cX10_hard 30 = .ok (.bipush 9, 2) := by decide +kernel
theorem dX10_hard_32 : decode cX10_hard 32 = .ok (.if_icmp .gt 85, 3) := by decide +kernel
theorem dX10_hard_35 : decode cX10_hard 35 = .ok (.iconst 0, 1) := by decide +kernel
theorem dX10_hard_36 : decode cX10_hard 36 = .ok (.istore 7, 2) := by decide +kernel
theorem dX10_hard_38 : decode cX10_hard 38 = .ok (.iload 7, 2) := by decide +kernel
theorem dX10_hard_40 : decode cX10_hard 40 = .ok (.aload_n 0, 1) := by decide +kernel
theorem dX10_hard_41 : decode cX10_hard 41 = .ok (.getfield 41, 3) := by decide +kernel
theorem dX10_hard_44 : decode cX10_hard 44 = .ok (.bipush 10, 2) := by decide +kernel
theorem dX10_hard_46 : decode cX10_hard 46 = .ok (.iaload, 1) := by decide +kernel
theorem dX10_hard_47 : decode cX10_hard 47 = .ok (.if_icmp .ge 39, 3) := by decide +kernel
theorem dX10_hard_50 : decode cX10_hard 50 = .ok (.aload_n 0, 1) := by decide +kernel
theorem dX10_hard_51 : decode cX10_hard 51 = .ok (.getfield 41, 3) := by decide +kernel
theorem dX10_hard_54 : decode cX10_hard 54 = .ok (.bipush 11, 2) := by decide +kernel
theorem dX10_hard_56 : decode cX10_hard 56 = .ok (.iload 7, 2) := by decide +kernel
theorem dX10_hard_58 : decode cX10_hard 58 = .ok (.iadd, 1) := by decide +kernel
theorem dX10_hard_59 : decode cX10_hard 59 = .ok (.iload 6, 2) := by decide +kernel
theorem dX10_hard_61 : decode cX10_hard 61 = .ok (.aload_n 0, 1) := by decide +kernel
theorem dX10_hard_62 : decode cX10_hard 62 = .ok (.getfield 26, 3) := by decide +kernel
theorem dX10_hard_65 : decode cX10_hard 65 = .ok (.bipush 23, 2) := by decide +kernel
theorem dX10_hard_67 : decode cX10_hard 67 = .ok (.iload_n 1, 1) := by decide +kernel
theorem dX10_hard_68 : decode cX10_hard 68 = .ok (.imul, 1) := by decide +kernel
theorem dX10_hard_69 : decode cX10_hard 69 = .ok (.bipush 10, 2) := by decide +kernel
theorem dX10_hard_71 : decode cX10_hard 71 = .ok (.iadd, 1) := by decide +kernel
theorem dX10_hard_72 : decode cX10_hard 72 = .ok (.iconst 1, 1) := by decide +kernel
theorem dX10_hard_73 : decode cX10_hard 73 = .ok (.iadd, 1) := by decide +kernel
theorem dX10_hard_74 : decode cX10_hard 74 = .ok (.iload 7, 2) := by decide +kernel
theorem dX10_hard_76 : decode cX10_hard 76 = .ok (.iadd, 1) := by decide +kernel
theorem dX10_hard_77 : decode cX10_hard 77 = .ok (.iaload, 1) := by decide +kernel
theorem dX10_hard_78 : decode cX10_hard 78 = .ok (.imul, 1) := by decide +kernel
theorem dX10_hard_79 : decode cX10_hard 79 = .ok (.iastore, 1) := by decide +kernel
theorem dX10_hard_80 : decode cX10_hard 80 = .ok (.iinc 7 1, 3) := by decide +kernel
theorem dX10_hard_83 : decode cX10_hard 83 = .ok (.goto (-45), 3) := by decide +kernel
theorem dX10_hard_86 : decode cX10_hard 86 = .ok (.aload_n 0, 1) := by decide +kernel
theorem dX10_hard_87 : decode cX10_hard 87 = .ok (.iconst 1, 1) := by decide +kernel
theorem dX10_hard_88 : decode cX10_hard 88 = .ok (.iconst 0, 1) := by decide +kernel
theorem dX10_hard_89 : decode cX10_hard 89 = .ok (.iload_n 3, 1) := by decide +kernel
theorem dX10_hard_90 : decode cX10_hard 90 = .ok (.invokevirtual 315, 3) := by decide +kernel
theorem dX10_hard_93 : decode cX10_hard 93 = .ok (.aload_n 0, 1) := by decide +kernel
theorem dX10_hard_94 : decode cX10_hard 94 = .ok (.getfield 252, 3) := by decide +kernel
theorem dX10_hard_97 : decode cX10_hard 97 = .ok (.iload 4, 2) := by decide +kernel
theorem dX10_hard_99 : decode cX10_hard 99 = .ok (.if_icmp .gt 8, 3) := by decide +kernel
theorem dX10_hard_102 : decode cX10_hard 102 = .ok (.iload 6, 2) := by decide +kernel
theorem dX10_hard_104 : decode cX10_hard 104 = .ok (.goto 5, 3) := by decide +kernel
theorem dX10_hard_107 : decode cX10_hard 107 = .ok (.iload 5, 2) := by decide +kernel
theorem dX10_hard_109 : decode cX10_hard 109 = .ok (.istore 5, 2) := by decide +kernel
theorem dX10_hard_111 : decode cX10_hard 111 = .ok (.iinc 6 1, 3) := by decide +kernel
theorem dX10_hard_114 : decode cX10_hard 114 = .ok (.goto (-86), 3) := by decide +kernel
theorem dX10_hard_117 : decode cX10_hard 117 = .ok (.iload 5, 2) := by decide +kernel
theorem dX10_hard_119 : decode cX10_hard 119 = .ok (.ireturn, 1) := by decide +kernel
set_option maxRecDepth 20000 in
theorem dX10_set_0 : decode cX10_set 0 = .ok (.aload_n 0, 1) := by decide +kernel
theorem dX10_set_1 : decode cX10_set 1 = .ok (.iconst 0, 1) := by decide +kernel
theorem dX10_set_2 : decode cX10_set 2 = .ok (.putfield 81, 3) := by decide +kernel
theorem dX10_set_5 : decode cX10_set 5 = .ok (.aload_n 0, 1) := by decide +kernel
theorem dX10_set_6 : decode cX10_set 6 = .ok (.iload_n 1, 1) := by decide +kernel
theorem dX10_set_7 : decode cX10_set 7 = .ok (.iload_n 2, 1) := by decide +kernel
theorem dX10_set_8 : decode cX10_set 8 = .ok (.iload_n 3, 1) := by decide +kernel
theorem dX10_set_9 : decode cX10_set 9 = .ok (.invokevirtual 338, 3) := by decide +kernel
theorem dX10_set_12 : decode cX10_set 12 = .ok (.ifCond .ne 6, 3) := by decide +kernel
theorem dX10_set_15 : decode cX10_set 15 = .ok (.ldc 235, 2) := by decide +kernel
theorem dX10_set_17 : decode cX10_set 17 = .ok (.ireturn, 1) := by decide +kernel
theorem dX10_set_18 : decode cX10_set 18 = .ok (.aload_n 0, 1) := by decide +kernel
theorem dX10_set_19 : decode cX10_set 19 = .ok (.getfield 41, 3) := by decide +kernel
theorem dX10_set_22 : decode cX10_set 22 = .ok (.bipush 6, 2) := by decide +kernel
theorem dX10_set_24 : decode cX10_set 24 = .ok (.iaload, 1) := by decide +kernel
theorem dX10_set_25 : decode cX10_set 25 = .ok (.istore 4, 2) := by decide +kernel
theorem dX10_set_27 : decode cX10_set 27 = .ok (.iconst 0, 1) := by decide +kernel
theorem dX10_set_28 : decode cX10_set 28 = .ok (.istore 5, 2) := by decide +kernel
theorem dX10_set_30 : decode cX10_set 30 = .ok (.ldc2_w 341, 3) := by decide +kernel
theorem dX10_set_33 : decode cX10_set 33 = .ok (.lstore 6, 2) := by decide +kernel
theorem dX10_set_35 : decode cX10_set 35 = .ok (.bipush (-50), 2) := by decide +kernel
theorem dX10_set_37 : decode cX10_set 37 = .ok (.istore 8, 2) := by decide +kernel
theorem dX10_set_39 : decode cX10_set 39 = .ok (.iload 8, 2) := by decide +kernel
theorem dX10_set_41 : decode cX10_set 41 = .ok (.bipush 50, 2) := by decide +kernel
theorem dX10_set_43 : decode cX10_set 43 = .ok (.if_icmp .gt 74, 3) := by decide +kernel
theorem dX10_set_46 : decode cX10_set 46 = .ok (.aload_n 0, 1) := by decide +kernel
theorem dX10_set_47 : decode cX10_set 47 = .ok (.getfield 41, 3) := by decide +kernel
theorem dX10_set_50 : decode cX10_set 50 = .ok (.bipush 6, 2) := by decide +kernel
theorem dX10_set_52 : decode cX10_set 52 = .ok (.iload 4, 2) := by decide +kernel
theorem dX10_set_54 : decode cX10_set 54 = .ok (.iload 8, 2) := by decide +kernel
theorem dX10_set_56 : decode cX10_set 56 = .ok (.iadd, 1) := by decide +kernel
theorem dX10_set_57 : decode cX10_set 57 = .ok (.iastore, 1) := by decide +kernel
theorem dX10_set_58 : decode cX10_set 58 = .ok (.aload_n 0, 1) := by decide +kernel
theorem dX10_set_59 : decode cX10_set 59 = .ok (.iconst 1, 1) := by decide +kernel
theorem dX10_set_60 : decode cX10_set 60 = .ok (.iconst 0, 1) := by decide +kernel
theorem dX10_set_61 : decode cX10_set 61 = .ok (.iload_n 3, 1) := by decide +kernel
theorem dX10_set_62 : decode cX10_set 62 = .ok (.invokevirtual 315, 3) := by decide +kernel
theorem dX10_set_65 : decode cX10_set 65 = .ok (.aload_n 0, 1) := by decide +kernel
theorem dX10_set_66 : decode cX10_set 66 = .ok (.getfield 255, 3) := by decide +kernel
theorem dX10_set_69 : decode cX10_set 69 = .ok (.lconst 0, 1) := by decide +kernel
theorem dX10_set_70 : decode cX10_set 70 = .ok (.lcmp, 1) := by decide +kernel
theorem dX10_set_71 : decode cX10_set 71 = .ok (.ifCond .ge 11, 3) := by decide +kernel
theorem dX10_set_74 : decode cX10_set 74 = .ok (.aload_n 0, 1) := by decide +kernel
theorem dX10_set_75 : decode cX10_set 75 = .ok (.getfield 255, 3) := by decide +kernel
theorem dX10_set_78 : decode cX10_set 78 = .ok (.lneg, 1) := by decide +kernel
theorem dX10_set_79 : decode cX10_set 79 = .ok (.goto 7, 3) := by decide +kernel
theorem dX10_set_82 : decode cX10_set 82 = .ok (.aload_n 0, 1) := by decide +kernel
theorem dX10_set_83 : decode cX10_set 83 = .ok (.getfield 255, 3) := by decide +kernel
theorem dX10_set_86 : decode cX10_set 86 = .ok (.lstore 9, 2) := by decide +kernel
theorem dX10_set_88 : decode cX10_set 88 = .ok (.lload 6, 2) := by decide +kernel
theorem dX10_set_90 : decode cX10_set 90 = .ok (.lconst 0, 1) := by decide +kernel
theorem dX10_set_91 : decode cX10_set 91 = .ok (.lcmp, 1) := by decide +kernel
theorem dX10_set_92 : decode cX10_set 92 = .ok (.ifCond .lt 11, 3) := by decide +kernel
theorem dX10_set_95 : decode cX10_set 95 = .ok (.lload 9, 2) := by decide +kernel
theorem dX10_set_97 : decode cX10_set 97 = .ok (.lload 6, 2) := by decide +kernel
theorem dX10_set_99 : decode cX10_set 99 = .ok (.lcmp, 1) := by decide +kernel
theorem dX10_set_100 : decode cX10_set 100 = .ok (.ifCond .ge 11, 3) := by decide +kernel
theorem dX10_set_103 : decode cX10_set 103 = .ok (.iload 8, 2) := by decide +kernel
theorem dX10_set_105 : decode cX10_set 105 = .ok (.istore 5, 2) := by decide +kernel
theorem dX10_set_107 : decode cX10_set 107 = .ok (.lload 9, 2) := by decide +kernel
theorem dX10_set_109 : decode cX10_set 109 = .ok (.lstore 6, 2) := by decide +kernel
theorem dX10_set_111 : decode cX10_set 111 = .ok (.iinc 8 1, 3) := by decide +kernel
theorem dX10_set_114 : decode cX10_set 114 = .ok (.goto (-75), 3) := by decide +kernel
theorem dX10_set_117 : decode cX10_set 117 = .ok (.iload 5, 2) := by decide +kernel
theorem dX10_set_119 : decode cX10_set 119 = .ok (.ireturn, 1) := by decide +kernel
set_option maxRecDepth 20000 in
theorem dX10_costWith_0 : decode cX10_costWith 0 = .ok (.aload_n 0, 1) := by decide +kernel
theorem dX10_costWith_1 : decode cX10_costWith 1 = .ok (.getfield 44, 3) := by decide +kernel
theorem dX10_costWith_4 : decode cX10_costWith 4 = .ok (.iload_n 1, 1) := by decide +kernel
theorem dX10_costWith_5 : decode cX10_costWith 5 = .ok (.iaload, 1) := by decide +kernel
theorem dX10_costWith_6 : decode cX10_costWith 6 = .ok (.istore 4, 2) := by decide +kernel
theorem dX10_costWith_8 : decode cX10_costWith 8 = .ok (.aload_n 0, 1) := by decide +kernel
theorem dX10_costWith_9 : decode cX10_costWith 9 = .ok (.iload_n 1, 1) := by decide +kernel
theorem dX10_costWith_10 : decode cX10_costWith 10 = .ok (.iload_n 2, 1) := by decide +kernel
theorem dX10_costWith_11 : decode cX10_costWith 11 = .ok (.invokevirtual 343, 3) := by decide +kernel
theorem dX10_costWith_14 : decode cX10_costWith 14 = .ok (.aload_n 0, 1) := by decide +kernel
theorem dX10_costWith_15 : decode cX10_costWith 15 = .ok (.iload_n 3, 1) := by decide +kernel
theorem dX10_costWith_16 : decode cX10_costWith 16 = .ok (.invokevirtual 346, 3) := by decide +kernel
theorem dX10_costWith_19 : decode cX10_costWith 19 = .ok (.lstore 5, 2) := by decide +kernel
theorem dX10_costWith_21 : decode cX10_costWith 21 = .ok (.aload_n 0, 1) := by decide +kernel
theorem dX10_costWith_22 : decode cX10_costWith 22 = .ok (.iload_n 1, 1) := by decide +kernel
theorem dX10_costWith_23 : decode cX10_costWith 23 = .ok (.iload 4, 2) := by decide +kernel
theorem dX10_costWith_25 : decode cX10_costWith 25 = .ok (.invokevirtual 343, 3) := by decide +kernel
theorem dX10_costWith_28 : decode cX10_costWith 28 = .ok (.lload 5, 2) := by decide +kernel
theorem dX10_costWith_30 : decode cX10_costWith 30 = .ok (.lreturn, 1) := by decide +kernel
set_option maxRecDepth 20000 in
theorem dX10_worth_0 : decode cX10_worth 0 = .ok (.aload_n 0, 1) := by decide +kernel
theorem dX10_worth_1 : decode cX10_worth 1 = .ok (.iconst 0, 1) := by decide +kernel
theorem dX10_worth_2 : decode cX10_worth 2 = .ok (.putfield 81, 3) := by decide +kernel
theorem dX10_worth_5 : decode cX10_worth 5 = .ok (.aload_n 0, 1) := by decide +kernel
theorem dX10_worth_6 : decode cX10_worth 6 = .ok (.iload_n 1, 1) := by decide +kernel
theorem dX10_worth_7 : decode cX10_worth 7 = .ok (.iload_n 2, 1) := by decide +kernel
theorem dX10_worth_8 : decode cX10_worth 8 = .ok (.iload_n 3, 1) := by decide +kernel
theorem dX10_worth_9 : decode cX10_worth 9 = .ok (.invokevirtual 338, 3) := by decide +kernel
theorem dX10_worth_12 : decode cX10_worth 12 = .ok (.ifCond .eq 13, 3) := by decide +kernel
theorem dX10_worth_15 : decode cX10_worth 15 = .ok (.iload 4, 2) := by decide +kernel
theorem dX10_worth_17 : decode cX10_worth 17 = .ok (.iconst 0, 1) := by decide +kernel
theorem dX10_worth_18 : decode cX10_worth 18 = .ok (.iconst 2, 1) := by decide +kernel
theorem dX10_worth_19 : decode cX10_worth 19 = .ok (.invokestatic 89, 3) := by decide +kernel
theorem dX10_worth_22 : decode cX10_worth 22 = .ok (.ifCond .ne 7, 3) := by decide +kernel
theorem dX10_worth_25 : decode cX10_worth 25 = .ok (.ldc2_w 333, 3) := by decide +kernel
theorem dX10_worth_28 : decode cX10_worth 28 = .ok (.lreturn, 1) := by decide +kernel
theorem dX10_worth_29 : decode cX10_worth 29 = .ok (.iload 4, 2) := by decide +kernel
theorem dX10_worth_31 : decode cX10_worth 31 = .ok (.iconst 1, 1) := by decide +kernel
theorem dX10_worth_32 : decode cX10_worth 32 = .ok (.if_icmp .ne 21, 3) := by decide +kernel
theorem dX10_worth_35 : decode cX10_worth 35 = .ok (.aload_n 0, 1) := by decide +kernel
theorem dX10_worth_36 : decode cX10_worth 36 = .ok (.bipush 8, 2) := by decide +kernel
theorem dX10_worth_38 : decode cX10_worth 38 = .ok (.iconst 1, 1) := by decide +kernel
theorem dX10_worth_39 : decode cX10_worth 39 = .ok (.iload_n 3, 1) := by decide +kernel
theorem dX10_worth_40 : decode cX10_worth 40 = .ok (.invokevirtual 350, 3) := by decide +kernel
theorem dX10_worth_43 : decode cX10_worth 43 = .ok (.aload_n 0, 1) := by decide +kernel
theorem dX10_worth_44 : decode cX10_worth 44 = .ok (.bipush 8, 2) := by decide +kernel
theorem dX10_worth_46 : decode cX10_worth 46 = .ok (.iconst 0, 1) := by decide +kernel
theorem dX10_worth_47 : decode cX10_worth 47 = .ok (.iload_n 3, 1) := by decide +kernel
theorem dX10_worth_48 : decode cX10_worth 48 = .ok (.invokevirtual 350, 3) := by decide +kernel
theorem dX10_worth_51 : decode cX10_worth 51 = .ok (.lsub, 1) := by decide +kernel
theorem dX10_worth_52 : decode cX10_worth 52 = .ok (.lreturn, 1) := by decide +kernel
theorem dX10_worth_53 : decode cX10_worth 53 = .ok (.aload_n 0, 1) := by decide +kernel
theorem dX10_worth_54 : decode cX10_worth 54 = .ok (.iload 4, 2) := by decide +kernel
theorem dX10_worth_56 : decode cX10_worth 56 = .ok (.ifCond .ne 8, 3) := by decide +kernel
theorem dX10_worth_59 : decode cX10_worth 59 = .ok (.bipush 9, 2) := by decide +kernel
theorem dX10_worth_61 : decode cX10_worth 61 = .ok (.goto 4, 3) := by decide +kernel
theorem dX10_worth_64 : decode cX10_worth 64 = .ok (.iconst 1, 1) := by decide +kernel
theorem dX10_worth_65 : decode cX10_worth 65 = .ok (.iconst 0, 1) := by decide +kernel
theorem dX10_worth_66 : decode cX10_worth 66 = .ok (.iload_n 3, 1) := by decide +kernel
theorem dX10_worth_67 : decode cX10_worth 67 = .ok (.invokevirtual 350, 3) := by decide +kernel
theorem dX10_worth_70 : decode cX10_worth 70 = .ok (.aload_n 0, 1) := by decide +kernel
theorem dX10_worth_71 : decode cX10_worth 71 = .ok (.iload_n 3, 1) := by decide +kernel
theorem dX10_worth_72 : decode cX10_worth 72 = .ok (.invokevirtual 346, 3) := by decide +kernel
theorem dX10_worth_75 : decode cX10_worth 75 = .ok (.lsub, 1) := by decide +kernel
theorem dX10_worth_76 : decode cX10_worth 76 = .ok (.lreturn, 1) := by decide +kernel
set_option maxRecDepth 20000 in
theorem dX10_night_0 : decode cX10_night 0 = .ok (.aload_n 0, 1) := by decide +kernel
theorem dX10_night_1 : decode cX10_night 1 = .ok (.iconst 0, 1) := by decide +kernel
theorem dX10_night_2 : decode cX10_night 2 = .ok (.putfield 81, 3) := by decide +kernel
theorem dX10_night_5 : decode cX10_night 5 = .ok (.aload_n 0, 1) := by decide +kernel
theorem dX10_night_6 : decode cX10_night 6 = .ok (.iload_n 1, 1) := by decide +kernel
theorem dX10_night_7 : decode cX10_night 7 = .ok (.iload_n 2, 1) := by decide +kernel
theorem dX10_night_8 : decode cX10_night 8 = .ok (.iload_n 3, 1) := by decide +kernel
theorem dX10_night_9 : decode cX10_night 9 = .ok (.invokevirtual 338, 3) := by decide +kernel
theorem dX10_night_12 : decode cX10_night 12 = .ok (.ifCond .eq 34, 3) := by decide +kernel
theorem dX10_night_15 : decode cX10_night 15 = .ok (.iload 4, 2) := by decide +kernel
theorem dX10_night_17 : decode cX10_night 17 = .ok (.iconst 0, 1) := by decide +kernel
theorem dX10_night_18 : decode cX10_night 18 = .ok (.sipush 999, 3) := by decide +kernel
theorem dX10_night_21 : decode cX10_night 21 = .ok (.invokestatic 89, 3) := by decide +kernel
theorem dX10_night_24 : decode cX10_night 24 = .ok (.ifCond .eq 22, 3) := by decide +kernel
theorem dX10_night_27 : decode cX10_night 27 = .ok (.aload_n 0, 1) := by decide +kernel
theorem dX10_night_28 : decode cX10_night 28 = .ok (.iconst 5, 1) := by decide +kernel
theorem dX10_night_29 : decode cX10_night 29 = .ok (.iload 4, 2) := by decide +kernel
theorem dX10_night_31 : decode cX10_night 31 = .ok (.iload_n 3, 1) := by decide +kernel
theorem dX10_night_32 : decode cX10_night 32 = .ok (.invokevirtual 350, 3) := by decide +kernel
theorem dX10_night_35 : decode cX10_night 35 = .ok (.aload_n 0, 1) := by decide +kernel
theorem dX10_night_36 : decode cX10_night 36 = .ok (.iconst 5, 1) := by decide +kernel
theorem dX10_night_37 : decode cX10_night 37 = .ok (.iconst 0, 1) := by decide +kernel
theorem dX10_night_38 : decode cX10_night 38 = .ok (.iload_n 3, 1) := by decide +kernel
theorem dX10_night_39 : decode cX10_night 39 = .ok (.invokevirtual 350, 3) := by decide +kernel
theorem dX10_night_42 : decode cX10_night 42 = .ok (.lsub, 1) := by decide +kernel
theorem dX10_night_43 : decode cX10_night 43 = .ok (.goto 6, 3) := by decide +kernel
theorem dX10_night_46 : decode cX10_night 46 = .ok (.ldc2_w 333, 3) := by decide +kernel
theorem dX10_night_49 : decode cX10_night 49 = .ok (.lreturn, 1) := by decide +kernel
set_option maxRecDepth 20000 in
theorem dX10_cloud_0 : decode cX10_cloud 0 = .ok (.aload_n 0, 1) := by decide +kernel
theorem dX10_cloud_1 : decode cX10_cloud 1 = .ok (.iconst 0, 1) := by decide +kernel
theorem dX10_cloud_2 : decode cX10_cloud 2 = .ok (.putfield 81, 3) := by decide +kernel
theorem dX10_cloud_5 : decode cX10_cloud 5 = .ok (.aload_n 0, 1) := by decide +kernel
theorem dX10_cloud_6 : decode cX10_cloud 6 = .ok (.iload_n 1, 1) := by decide +kernel
theorem dX10_cloud_7 : decode cX10_cloud 7 = .ok (.iload_n 2, 1) := by decide +kernel
theorem dX10_cloud_8 : decode cX10_cloud 8 = .ok (.iload_n 3, 1) := by decide +kernel
theorem dX10_cloud_9 : decode cX10_cloud 9 = .ok (.invokevirtual 338, 3) := by decide +kernel
theorem dX10_cloud_12 : decode cX10_cloud 12 = .ok (.ifCond .eq 8, 3) := by decide +kernel
theorem dX10_cloud_15 : decode cX10_cloud 15 = .ok (.iload 4, 2) := by decide +kernel
theorem dX10_cloud_17 : decode cX10_cloud 17 = .ok (.ifCond .ge 5, 3) := by decide +kernel
theorem dX10_cloud_20 : decode cX10_cloud 20 = .ok (.iconst (-1), 1) := by decide +kernel
theorem dX10_cloud_21 : decode cX10_cloud 21 = .ok (.ireturn, 1) := by decide +kernel
theorem dX10_cloud_22 : decode cX10_cloud 22 = .ok (.iconst (-1), 1) := by decide +kernel
theorem dX10_cloud_23 : decode cX10_cloud 23 = .ok (.istore 5, 2) := by decide +kernel
theorem dX10_cloud_25 : decode cX10_cloud 25 = .ok (.iconst 0, 1) := by decide +kernel
theorem dX10_cloud_26 : decode cX10_cloud 26 = .ok (.istore 6, 2) := by decide +kernel
theorem dX10_cloud_28 : decode cX10_cloud 28 = .ok (.iload 6, 2) := by decide +kernel
theorem dX10_cloud_30 : decode cX10_cloud 30 = .ok (.iload_n 3, 1) := by decide +kernel
theorem dX10_cloud_31 : decode cX10_cloud 31 = .ok (.if_icmp .gt 65, 3) := by decide +kernel
theorem dX10_cloud_34 : decode cX10_cloud 34 = .ok (.aload_n 0, 1) := by decide +kernel
theorem dX10_cloud_35 : decode cX10_cloud 35 = .ok (.bipush 9, 2) := by decide +kernel
theorem dX10_cloud_37 : decode cX10_cloud 37 = .ok (.iload 6, 2) := by decide +kernel
theorem dX10_cloud_39 : decode cX10_cloud 39 = .ok (.ifCond .le 7, 3) := by decide +kernel
theorem dX10_cloud_42 : decode cX10_cloud 42 = .ok (.iconst 1, 1) := by decide +kernel
theorem dX10_cloud_43 : decode cX10_cloud 43 = .ok (.goto 4, 3) := by decide +kernel
theorem dX10_cloud_46 : decode cX10_cloud 46 = .ok (.iconst 0, 1) := by decide +kernel
theorem dX10_cloud_47 : decode cX10_cloud 47 = .ok (.invokevirtual 343, 3) := by decide +kernel
theorem dX10_cloud_50 : decode cX10_cloud 50 = .ok (.aload_n 0, 1) := by decide +kernel
theorem dX10_cloud_51 : decode cX10_cloud 51 = .ok (.bipush 10, 2) := by decide +kernel
theorem dX10_cloud_53 : decode cX10_cloud 53 = .ok (.iconst 1, 1) := by decide +kernel
theorem dX10_cloud_54 : decode cX10_cloud 54 = .ok (.invokevirtual 343, 3) := by decide +kernel
theorem dX10_cloud_57 : decode cX10_cloud 57 = .ok (.aload_n 0, 1) := by decide +kernel
theorem dX10_cloud_58 : decode cX10_cloud 58 = .ok (.bipush 11, 2) := by decide +kernel
theorem dX10_cloud_60 : decode cX10_cloud 60 = .ok (.iload 6, 2) := by decide +kernel
theorem dX10_cloud_62 : decode cX10_cloud 62 = .ok (.invokevirtual 343, 3) := by decide +kernel
theorem dX10_cloud_65 : decode cX10_cloud 65 = .ok (.aload_n 0, 1) := by decide +kernel
theorem dX10_cloud_66 : decode cX10_cloud 66 = .ok (.iconst 1, 1) := by decide +kernel
theorem dX10_cloud_67 : decode cX10_cloud 67 = .ok (.iconst 0, 1) := by decide +kernel
theorem dX10_cloud_68 : decode cX10_cloud 68 = .ok (.iload_n 3, 1) := by decide +kernel
theorem dX10_cloud_69 : decode cX10_cloud 69 = .ok (.invokevirtual 315, 3) := by decide +kernel
theorem dX10_cloud_72 : decode cX10_cloud 72 = .ok (.aload_n 0, 1) := by decide +kernel
theorem dX10_cloud_73 : decode cX10_cloud 73 = .ok (.getfield 252, 3) := by decide +kernel
theorem dX10_cloud_76 : decode cX10_cloud 76 = .ok (.iload 4, 2) := by decide +kernel
theorem dX10_cloud_78 : decode cX10_cloud 78 = .ok (.if_icmp .gt 8, 3) := by decide +kernel
theorem dX10_cloud_81 : decode cX10_cloud 81 = .ok (.iload 6, 2) := by decide +kernel
theorem dX10_cloud_83 : decode cX10_cloud 83 = .ok (.goto 5, 3) := by decide +kernel
theorem dX10_cloud_86 : decode cX10_cloud 86 = .ok (.iload 5, 2) := by decide +kernel
theorem dX10_cloud_88 : decode cX10_cloud 88 = .ok (.istore 5, 2) := by decide +kernel
theorem dX10_cloud_90 : decode cX10_cloud 90 = .ok (.iinc 6 1, 3) := by decide +kernel
theorem dX10_cloud_93 : decode cX10_cloud 93 = .ok (.goto (-65), 3) := by decide +kernel
theorem dX10_cloud_96 : decode cX10_cloud 96 = .ok (.iload 5, 2) := by decide +kernel
theorem dX10_cloud_98 : decode cX10_cloud 98 = .ok (.ireturn, 1) := by decide +kernel
set_option maxRecDepth 20000 in
theorem dX10_coarse_0 : decode cX10_coarse 0 = .ok (.aload_n 0, 1) := by decide +kernel
theorem dX10_coarse_1 : decode cX10_coarse 1 = .ok (.iconst 0, 1) := by decide +kernel
theorem dX10_coarse_2 : decode cX10_coarse 2 = .ok (.putfield 81, 3) := by decide +kernel
theorem dX10_coarse_5 : decode cX10_coarse 5 = .ok (.aload_n 0, 1) := by decide +kernel
theorem dX10_coarse_6 : decode cX10_coarse 6 = .ok (.iload_n 1, 1) := by decide +kernel
theorem dX10_coarse_7 : decode cX10_coarse 7 = .ok (.iload_n 2, 1) := by decide +kernel
theorem dX10_coarse_8 : decode cX10_coarse 8 = .ok (.iload_n 3, 1) := by decide +kernel
theorem dX10_coarse_9 : decode cX10_coarse 9 = .ok (.invokevirtual 338, 3) := by decide +kernel
theorem dX10_coarse_12 : decode cX10_coarse 12 = .ok (.ifCond .eq 14, 3) := by decide +kernel
theorem dX10_coarse_15 : decode cX10_coarse 15 = .ok (.iload 4, 2) := by decide +kernel
theorem dX10_coarse_17 : decode cX10_coarse 17 = .ok (.iconst 1, 1) := by decide +kernel
theorem dX10_coarse_18 : decode cX10_coarse 18 = .ok (.bipush 50, 2) := by decide +kernel
theorem dX10_coarse_20 : decode cX10_coarse 20 = .ok (.invokestatic 89, 3) := by decide +kernel
theorem dX10_coarse_23 : decode cX10_coarse 23 = .ok (.ifCond .ne 5, 3) := by decide +kernel
theorem dX10_coarse_26 : decode cX10_coarse 26 = .ok (.iconst (-1), 1) := by decide +kernel
theorem dX10_coarse_27 : decode cX10_coarse 27 = .ok (.ireturn, 1) := by decide +kernel
theorem dX10_coarse_28 : decode cX10_coarse 28 = .ok (.aload_n 0, 1) := by decide +kernel
theorem dX10_coarse_29 : decode cX10_coarse 29 = .ok (.iconst 4, 1) := by decide +kernel
theorem dX10_coarse_30 : decode cX10_coarse 30 = .ok (.iconst 1, 1) := by decide +kernel
theorem dX10_coarse_31 : decode cX10_coarse 31 = .ok (.iload_n 3, 1) := by decide +kernel
theorem dX10_coarse_32 : decode cX10_coarse 32 = .ok (.invokevirtual 350, 3) := by decide +kernel
theorem dX10_coarse_35 : decode cX10_coarse 35 = .ok (.lstore 5, 2) := by decide +kernel
theorem dX10_coarse_37 : decode cX10_coarse 37 = .ok (.iconst 1, 1) := by decide +kernel
theorem dX10_coarse_38 : decode cX10_coarse 38 = .ok (.istore 7, 2) := by decide +kernel
theorem dX10_coarse_40 : decode cX10_coarse 40 = .ok (.iconst 2, 1) := by decide +kernel
theorem dX10_coarse_41 : decode cX10_coarse 41 = .ok (.istore 8, 2) := by decide +kernel
theorem dX10_coarse_43 : decode cX10_coarse 43 = .ok (.iload 8, 2) := by decide +kernel
theorem dX10_coarse_45 : decode cX10_coarse 45 = .ok (.iload 4, 2) := by decide +kernel
theorem dX10_coarse_47 : decode cX10_coarse 47 = .ok (.if_icmp .gt 32, 3) := by decide +kernel
theorem dX10_coarse_50 : decode cX10_coarse 50 = .ok (.aload_n 0, 1) := by decide +kernel
theorem dX10_coarse_51 : decode cX10_coarse 51 = .ok (.iconst 4, 1) := by decide +kernel
theorem dX10_coarse_52 : decode cX10_coarse 52 = .ok (.iload 8, 2) := by decide +kernel
theorem dX10_coarse_54 : decode cX10_coarse 54 = .ok (.iload_n 3, 1) := by decide +kernel
theorem dX10_coarse_55 : decode cX10_coarse 55 = .ok (.invokevirtual 350, 3) := by decide +kernel
theorem dX10_coarse_58 : decode cX10_coarse 58 = .ok (.lload 5, 2) := by decide +kernel
theorem dX10_coarse_60 : decode cX10_coarse 60 = .ok (.lcmp, 1) := by decide +kernel
theorem dX10_coarse_61 : decode cX10_coarse 61 = .ok (.ifCond .gt 8, 3) := by decide +kernel
theorem dX10_coarse_64 : decode cX10_coarse 64 = .ok (.iload 8, 2) := by decide +kernel
theorem dX10_coarse_66 : decode cX10_coarse 66 = .ok (.goto 5, 3) := by decide +kernel
theorem dX10_coarse_69 : decode cX10_coarse 69 = .ok (.iload 7, 2) := by decide +kernel
theorem dX10_coarse_71 : decode cX10_coarse 71 = .ok (.istore 7, 2) := by decide +kernel
theorem dX10_coarse_73 : decode cX10_coarse 73 = .ok (.iinc 8 1, 3) := by decide +kernel
theorem dX10_coarse_76 : decode cX10_coarse 76 = .ok (.goto (-33), 3) := by decide +kernel
theorem dX10_coarse_79 : decode cX10_coarse 79 = .ok (.iload 7, 2) := by decide +kernel
theorem dX10_coarse_81 : decode cX10_coarse 81 = .ok (.ireturn, 1) := by decide +kernel
set_option maxRecDepth 20000 in
theorem dX10_weary_0 : decode cX10_weary 0 = .ok (.aload_n 0, 1) := by decide +kernel
theorem dX10_weary_1 : decode cX10_weary 1 = .ok (.iconst 0, 1) := by decide +kernel
theorem dX10_weary_2 : decode cX10_weary 2 = .ok (.putfield 81, 3) := by decide +kernel
theorem dX10_weary_5 : decode cX10_weary 5 = .ok (.aload_n 0, 1) := by decide +kernel
theorem dX10_weary_6 : decode cX10_weary 6 = .ok (.iload_n 1, 1) := by decide +kernel
theorem dX10_weary_7 : decode cX10_weary 7 = .ok (.iload_n 2, 1) := by decide +kernel
theorem dX10_weary_8 : decode cX10_weary 8 = .ok (.iload_n 3, 1) := by decide +kernel
theorem dX10_weary_9 : decode cX10_weary 9 = .ok (.invokevirtual 338, 3) := by decide +kernel
theorem dX10_weary_12 : decode cX10_weary 12 = .ok (.ifCond .eq 8, 3) := by decide +kernel
theorem dX10_weary_15 : decode cX10_weary 15 = .ok (.iload 4, 2) := by decide +kernel
theorem dX10_weary_17 : decode cX10_weary 17 = .ok (.ifCond .ge 5, 3) := by decide +kernel
theorem dX10_weary_20 : decode cX10_weary 20 = .ok (.iconst (-1), 1) := by decide +kernel
theorem dX10_weary_21 : decode cX10_weary 21 = .ok (.ireturn, 1) := by decide +kernel
theorem dX10_weary_22 : decode cX10_weary 22 = .ok (.aload_n 0, 1) := by decide +kernel
theorem dX10_weary_23 : decode cX10_weary 23 = .ok (.iconst 1, 1) := by decide +kernel
theorem dX10_weary_24 : decode cX10_weary 24 = .ok (.iconst 0, 1) := by decide +kernel
theorem dX10_weary_25 : decode cX10_weary 25 = .ok (.iload_n 3, 1) := by decide +kernel
theorem dX10_weary_26 : decode cX10_weary 26 = .ok (.invokevirtual 315, 3) := by decide +kernel
theorem dX10_weary_29 : decode cX10_weary 29 = .ok (.iconst (-1), 1) := by decide +kernel
theorem dX10_weary_30 : decode cX10_weary 30 = .ok (.istore 6, 2) := by decide +kernel
theorem dX10_weary_32 : decode cX10_weary 32 = .ok (.iconst 0, 1) := by decide +kernel
theorem dX10_weary_33 : decode cX10_weary 33 = .ok (.istore 7, 2) := by decide +kernel
theorem dX10_weary_35 : decode cX10_weary 35 = .ok (.iconst 1, 1) := by decide +kernel
theorem dX10_weary_36 : decode cX10_weary 36 = .ok (.istore 8, 2) := by decide +kernel
theorem dX10_weary_38 : decode cX10_weary 38 = .ok (.iload 8, 2) := by decide +kernel
theorem dX10_weary_40 : decode cX10_weary 40 = .ok (.iload_n 3, 1) := by decide +kernel
theorem dX10_weary_41 : decode cX10_weary 41 = .ok (.if_icmp .gt 65, 3) := by decide +kernel
theorem dX10_weary_44 : decode cX10_weary 44 = .ok (.aload_n 0, 1) := by decide +kernel
theorem dX10_weary_45 : decode cX10_weary 45 = .ok (.getfield 56, 3) := by decide +kernel
theorem dX10_weary_48 : decode cX10_weary 48 = .ok (.iload 8, 2) := by decide +kernel
theorem dX10_weary_50 : decode cX10_weary 50 = .ok (.iaload, 1) := by decide +kernel
theorem dX10_weary_51 : decode cX10_weary 51 = .ok (.invokestatic 289, 3) := by decide +kernel
theorem dX10_weary_54 : decode cX10_weary 54 = .ok (.iload 4, 2) := by decide +kernel
theorem dX10_weary_56 : decode cX10_weary 56 = .ok (.if_icmp .le 7, 3) := by decide +kernel
theorem dX10_weary_59 : decode cX10_weary 59 = .ok (.iconst 1, 1) := by decide +kernel
theorem dX10_weary_60 : decode cX10_weary 60 = .ok (.goto 4, 3) := by decide +kernel
theorem dX10_weary_63 : decode cX10_weary 63 = .ok (.iconst 0, 1) := by decide +kernel
theorem dX10_weary_64 : decode cX10_weary 64 = .ok (.istore 9, 2) := by decide +kernel
theorem dX10_weary_66 : decode cX10_weary 66 = .ok (.iload 9, 2) := by decide +kernel
theorem dX10_weary_68 : decode cX10_weary 68 = .ok (.ifCond .eq 14, 3) := by decide +kernel
theorem dX10_weary_71 : decode cX10_weary 71 = .ok (.iload 6, 2) := by decide +kernel
theorem dX10_weary_73 : decode cX10_weary 73 = .ok (.iconst (-1), 1) := by decide +kernel
theorem dX10_weary_74 : decode cX10_weary 74 = .ok (.if_icmp .ne 8, 3) := by decide +kernel
theorem dX10_weary_77 : decode cX10_weary 77 = .ok (.iload 8, 2) := by decide +kernel
theorem dX10_weary_79 : decode cX10_weary 79 = .ok (.goto 5, 3) := by decide +kernel
theorem dX10_weary_82 : decode cX10_weary 82 = .ok (.iload 6, 2) := by decide +kernel
theorem dX10_weary_84 : decode cX10_weary 84 = .ok (.istore 6, 2) := by decide +kernel
theorem dX10_weary_86 : decode cX10_weary 86 = .ok (.iload 9, 2) := by decide +kernel
theorem dX10_weary_88 : decode cX10_weary 88 = .ok (.ifCond .eq 8, 3) := by decide +kernel
theorem dX10_weary_91 : decode cX10_weary 91 = .ok (.iload 8, 2) := by decide +kernel
theorem dX10_weary_93 : decode cX10_weary 93 = .ok (.goto 5, 3) := by decide +kernel
theorem dX10_weary_96 : decode cX10_weary 96 = .ok (.iload 7, 2) := by decide +kernel
theorem dX10_weary_98 : decode cX10_weary 98 = .ok (.istore 7, 2) := by decide +kernel
theorem dX10_weary_100 : decode cX10_weary 100 = .ok (.iinc 8 1, 3) := by decide +kernel
theorem dX10_weary_103 : decode cX10_weary 103 = .ok (.goto (-65), 3) := by decide +kernel
theorem dX10_weary_106 : decode cX10_weary 106 = .ok (.iload 5, 2) := by decide +kernel
theorem dX10_weary_108 : decode cX10_weary 108 = .ok (.ifCond .ne 8, 3) := by decide +kernel
theorem dX10_weary_111 : decode cX10_weary 111 = .ok (.iload 6, 2) := by decide +kernel
theorem dX10_weary_113 : decode cX10_weary 113 = .ok (.goto 15, 3) := by decide +kernel
theorem dX10_weary_116 : decode cX10_weary 116 = .ok (.iload 7, 2) := by decide +kernel
theorem dX10_weary_118 : decode cX10_weary 118 = .ok (.iload_n 3, 1) := by decide +kernel
theorem dX10_weary_119 : decode cX10_weary 119 = .ok (.if_icmp .ne 7, 3) := by decide +kernel
theorem dX10_weary_122 : decode cX10_weary 122 = .ok (.iconst (-1), 1) := by decide +kernel
theorem dX10_weary_123 : decode cX10_weary 123 = .ok (.goto 5, 3) := by decide +kernel
theorem dX10_weary_126 : decode cX10_weary 126 = .ok (.iload 7, 2) := by decide +kernel
theorem dX10_weary_128 : decode cX10_weary 128 = .ok (.ireturn, 1) := by decide +kernel
set_option maxRecDepth 20000 in
theorem dX10_third_0 : decode cX10_third 0 = .ok (.iload_n 1, 1) := by decide +kernel
theorem dX10_third_1 : decode cX10_third 1 = .ok (.iload_n 2, 1) := by decide +kernel
theorem dX10_third_2 : decode cX10_third 2 = .ok (.isub, 1) := by decide +kernel
theorem dX10_third_3 : decode cX10_third 3 = .ok (.istore 4, 2) := by decide +kernel
theorem dX10_third_5 : decode cX10_third 5 = .ok (.aload_n 0, 1) := by decide +kernel
theorem dX10_third_6 : decode cX10_third 6 = .ok (.iconst 0, 1) := by decide +kernel
theorem dX10_third_7 : decode cX10_third 7 = .ok (.iload 4, 2) := by decide +kernel
theorem dX10_third_9 : decode cX10_third 9 = .ok (.iload_n 3, 1) := by decide +kernel
theorem dX10_third_10 : decode cX10_third 10 = .ok (.invokevirtual 350, 3) := by decide +kernel
theorem dX10_third_13 : decode cX10_third 13 = .ok (.lstore 5, 2) := by decide +kernel
theorem dX10_third_15 : decode cX10_third 15 = .ok (.iconst 0, 1) := by decide +kernel
theorem dX10_third_16 : decode cX10_third 16 = .ok (.istore 7, 2) := by decide +kernel
theorem dX10_third_18 : decode cX10_third 18 = .ok (.iload 7, 2) := by decide +kernel
theorem dX10_third_20 : decode cX10_third 20 = .ok (.iconst 1, 1) := by decide +kernel
theorem dX10_third_21 : decode cX10_third 21 = .ok (.if_icmp .gt 61, 3) := by decide +kernel
theorem dX10_third_24 : decode cX10_third 24 = .ok (.aload_n 0, 1) := by decide +kernel
theorem dX10_third_25 : decode cX10_third 25 = .ok (.iconst 0, 1) := by decide +kernel
theorem dX10_third_26 : decode cX10_third 26 = .ok (.iload_n 1, 1) := by decide +kernel
theorem dX10_third_27 : decode cX10_third 27 = .ok (.iload 7, 2) := by decide +kernel
theorem dX10_third_29 : decode cX10_third 29 = .ok (.iload_n 2, 1) := by decide +kernel
theorem dX10_third_30 : decode cX10_third 30 = .ok (.imul, 1) := by decide +kernel
theorem dX10_third_31 : decode cX10_third 31 = .ok (.iadd, 1) := by decide +kernel
theorem dX10_third_32 : decode cX10_third 32 = .ok (.iload_n 3, 1) := by decide +kernel
theorem dX10_third_33 : decode cX10_third 33 = .ok (.invokevirtual 350, 3) := by decide +kernel
theorem dX10_third_36 : decode cX10_third 36 = .ok (.lstore 8, 2) := by decide +kernel
theorem dX10_third_38 : decode cX10_third 38 = .ok (.lload 8, 2) := by decide +kernel
theorem dX10_third_40 : decode cX10_third 40 = .ok (.lload 5, 2) := by decide +kernel
theorem dX10_third_42 : decode cX10_third 42 = .ok (.lcmp, 1) := by decide +kernel
theorem dX10_third_43 : decode cX10_third 43 = .ok (.ifCond .ge 12, 3) := by decide +kernel
theorem dX10_third_46 : decode cX10_third 46 = .ok (.iload_n 1, 1) := by decide +kernel
theorem dX10_third_47 : decode cX10_third 47 = .ok (.iload 7, 2) := by decide +kernel
theorem dX10_third_49 : decode cX10_third 49 = .ok (.iload_n 2, 1) := by decide +kernel
theorem dX10_third_50 : decode cX10_third 50 = .ok (.imul, 1) := by decide +kernel
theorem dX10_third_51 : decode cX10_third 51 = .ok (.iadd, 1) := by decide +kernel
theorem dX10_third_52 : decode cX10_third 52 = .ok (.goto 5, 3) := by decide +kernel
theorem dX10_third_55 : decode cX10_third 55 = .ok (.iload 4, 2) := by decide +kernel
theorem dX10_third_57 : decode cX10_third 57 = .ok (.istore 4, 2) := by decide +kernel
theorem dX10_third_59 : decode cX10_third 59 = .ok (.lload 8, 2) := by decide +kernel
theorem dX10_third_61 : decode cX10_third 61 = .ok (.lload 5, 2) := by decide +kernel
theorem dX10_third_63 : decode cX10_third 63 = .ok (.lcmp, 1) := by decide +kernel
theorem dX10_third_64 : decode cX10_third 64 = .ok (.ifCond .ge 8, 3) := by decide +kernel
theorem dX10_third_67 : decode cX10_third 67 = .ok (.lload 8, 2) := by decide +kernel
theorem dX10_third_69 : decode cX10_third 69 = .ok (.goto 5, 3) := by decide +kernel
theorem dX10_third_72 : decode cX10_third 72 = .ok (.lload 5, 2) := by decide +kernel
theorem dX10_third_74 : decode cX10_third 74 = .ok (.lstore 5, 2) := by decide +kernel
theorem dX10_third_76 : decode cX10_third 76 = .ok (.iinc 7 1, 3) := by decide +kernel
theorem dX10_third_79 : decode cX10_third 79 = .ok (.goto (-61), 3) := by decide +kernel
theorem dX10_third_82 : decode cX10_third 82 = .ok (.iload 4, 2) := by decide +kernel
theorem dX10_third_84 : decode cX10_third 84 = .ok (.ireturn, 1) := by decide +kernel
set_option maxRecDepth 20000 in
theorem dX10_tries_0 : decode cX10_tries 0 = .ok (.aload_n 0, 1) := by decide +kernel
theorem dX10_tries_1 : decode cX10_tries 1 = .ok (.iconst 0, 1) := by decide +kernel
theorem dX10_tries_2 : decode cX10_tries 2 = .ok (.putfield 81, 3) := by decide +kernel
theorem dX10_tries_5 : decode cX10_tries 5 = .ok (.aload_n 0, 1) := by decide +kernel
theorem dX10_tries_6 : decode cX10_tries 6 = .ok (.iload_n 1, 1) := by decide +kernel
theorem dX10_tries_7 : decode cX10_tries 7 = .ok (.iload_n 2, 1) := by decide +kernel
theorem dX10_tries_8 : decode cX10_tries 8 = .ok (.iload_n 3, 1) := by decide +kernel
theorem dX10_tries_9 : decode cX10_tries 9 = .ok (.invokevirtual 338, 3) := by decide +kernel
theorem dX10_tries_12 : decode cX10_tries 12 = .ok (.ifCond .ne 7, 3) := by decide +kernel
theorem dX10_tries_15 : decode cX10_tries 15 = .ok (.ldc2_w 341, 3) := by decide +kernel
theorem dX10_tries_18 : decode cX10_tries 18 = .ok (.lreturn, 1) := by decide +kernel
theorem dX10_tries_19 : decode cX10_tries 19 = .ok (.aload_n 0, 1) := by decide +kernel
theorem dX10_tries_20 : decode cX10_tries 20 = .ok (.aload_n 0, 1) := by decide +kernel
theorem dX10_tries_21 : decode cX10_tries 21 = .ok (.aload_n 0, 1) := by decide +kernel
theorem dX10_tries_22 : decode cX10_tries 22 = .ok (.bipush 32, 2) := by decide +kernel
theorem dX10_tries_24 : decode cX10_tries 24 = .ok (.bipush 16, 2) := by decide +kernel
theorem dX10_tries_26 : decode cX10_tries 26 = .ok (.iload_n 3, 1) := by decide +kernel
theorem dX10_tries_27 : decode cX10_tries 27 = .ok (.invokevirtual 354, 3) := by decide +kernel
theorem dX10_tries_30 : decode cX10_tries 30 = .ok (.bipush 8, 2) := by decide +kernel
theorem dX10_tries_32 : decode cX10_tries 32 = .ok (.iload_n 3, 1) := by decide +kernel
theorem dX10_tries_33 : decode cX10_tries 33 = .ok (.invokevirtual 354, 3) := by decide +kernel
theorem dX10_tries_36 : decode cX10_tries 36 = .ok (.iconst 4, 1) := by decide +kernel
theorem dX10_tries_37 : decode cX10_tries 37 = .ok (.iload_n 3, 1) := by decide +kernel
theorem dX10_tries_38 : decode cX10_tries 38 = .ok (.invokevirtual 354, 3) := by decide +kernel
theorem dX10_tries_41 : decode cX10_tries 41 = .ok (.istore 5, 2) := by decide +kernel
theorem dX10_tries_43 : decode cX10_tries 43 = .ok (.iload 4, 2) := by decide +kernel
theorem dX10_tries_45 : decode cX10_tries 45 = .ok (.ifCond .ne 7, 3) := by decide +kernel
theorem dX10_tries_48 : decode cX10_tries 48 = .ok (.iload 5, 2) := by decide +kernel
theorem dX10_tries_50 : decode cX10_tries 50 = .ok (.i2l, 1) := by decide +kernel
theorem dX10_tries_51 : decode cX10_tries 51 = .ok (.lreturn, 1) := by decide +kernel
theorem dX10_tries_52 : decode cX10_tries 52 = .ok (.aload_n 0, 1) := by decide +kernel
theorem dX10_tries_53 : decode cX10_tries 53 = .ok (.iconst 0, 1) := by decide +kernel
theorem dX10_tries_54 : decode cX10_tries 54 = .ok (.iconst 0, 1) := by decide +kernel
theorem dX10_tries_55 : decode cX10_tries 55 = .ok (.iload_n 3, 1) := by decide +kernel
theorem dX10_tries_56 : decode cX10_tries 56 = .ok (.invokevirtual 350, 3) := by decide +kernel
theorem dX10_tries_59 : decode cX10_tries 59 = .ok (.lstore 6, 2) := by decide +kernel
theorem dX10_tries_61 : decode cX10_tries 61 = .ok (.iconst 1, 1) := by decide +kernel
theorem dX10_tries_62 : decode cX10_tries 62 = .ok (.istore 8, 2) := by decide +kernel
theorem dX10_tries_64 : decode cX10_tries 64 = .ok (.iload 8, 2) := by decide +kernel
theorem dX10_tries_66 : decode cX10_tries 66 = .ok (.bipush 63, 2) := by decide +kernel
theorem dX10_tries_68 : decode cX10_tries 68 = .ok (.if_icmp .gt 36, 3) := by decide +kernel
theorem dX10_tries_71 : decode cX10_tries 71 = .ok (.aload_n 0, 1) := by decide +kernel
theorem dX10_tries_72 : decode cX10_tries 72 = .ok (.iconst 0, 1) := by decide +kernel
theorem dX10_tries_73 : decode cX10_tries 73 = .ok (.iload 8, 2) := by decide +kernel
theorem dX10_tries_75 : decode cX10_tries 75 = .ok (.iload_n 3, 1) := by decide +kernel
theorem dX10_tries_76 : decode cX10_tries 76 = .ok (.invokevirtual 350, 3) := by decide +kernel
theorem dX10_tries_79 : decode cX10_tries 79 = .ok (.lstore 9, 2) := by decide +kernel
theorem dX10_tries_81 : decode cX10_tries 81 = .ok (.lload 9, 2) := by decide +kernel
theorem dX10_tries_83 : decode cX10_tries 83 = .ok (.lload 6, 2) := by decide +kernel
theorem dX10_tries_85 : decode cX10_tries 85 = .ok (.lcmp, 1) := by decide +kernel
theorem dX10_tries_86 : decode cX10_tries 86 = .ok (.ifCond .ge 8, 3) := by decide +kernel
theorem dX10_tries_89 : decode cX10_tries 89 = .ok (.lload 9, 2) := by decide +kernel
theorem dX10_tries_91 : decode cX10_tries 91 = .ok (.goto 5, 3) := by decide +kernel
theorem dX10_tries_94 : decode cX10_tries 94 = .ok (.lload 6, 2) := by decide +kernel
theorem dX10_tries_96 : decode cX10_tries 96 = .ok (.lstore 6, 2) := by decide +kernel
theorem dX10_tries_98 : decode cX10_tries 98 = .ok (.iinc 8 1, 3) := by decide +kernel
theorem dX10_tries_101 : decode cX10_tries 101 = .ok (.goto (-37), 3) := by decide +kernel
theorem dX10_tries_104 : decode cX10_tries 104 = .ok (.aload_n 0, 1) := by decide +kernel
theorem dX10_tries_105 : decode cX10_tries 105 = .ok (.iconst 0, 1) := by decide +kernel
theorem dX10_tries_106 : decode cX10_tries 106 = .ok (.iload 5, 2) := by decide +kernel
theorem dX10_tries_108 : decode cX10_tries 108 = .ok (.iload_n 3, 1) := by decide +kernel
theorem dX10_tries_109 : decode cX10_tries 109 = .ok (.invokevirtual 350, 3) := by decide +kernel
theorem dX10_tries_112 : decode cX10_tries 112 = .ok (.lload 6, 2) := by decide +kernel
theorem dX10_tries_114 : decode cX10_tries 114 = .ok (.lsub, 1) := by decide +kernel
theorem dX10_tries_115 : decode cX10_tries 115 = .ok (.lreturn, 1) := by decide +kernel
set_option maxRecDepth 20000 in
theorem dX10_learning_0 : decode cX10_learning 0 = .ok (.aload_n 0, 1) := by decide +kernel
theorem dX10_learning_1 : decode cX10_learning 1 = .ok (.iconst 0, 1) := by decide +kernel
theorem dX10_learning_2 : decode cX10_learning 2 = .ok (.putfield 81, 3) := by decide +kernel
theorem dX10_learning_5 : decode cX10_learning 5 = .ok (.aload_n 0, 1) := by decide +kernel
theorem dX10_learning_6 : decode cX10_learning 6 = .ok (.iload_n 1, 1) := by decide +kernel
theorem dX10_learning_7 : decode cX10_learning 7 = .ok (.iload_n 2, 1) := by decide +kernel
theorem dX10_learning_8 : decode cX10_learning 8 = .ok (.iload_n 3, 1) := by decide +kernel
theorem dX10_learning_9 : decode cX10_learning 9 = .ok (.invokevirtual 338, 3) := by decide +kernel
theorem dX10_learning_12 : decode cX10_learning 12 = .ok (.ifCond .eq 14, 3) := by decide +kernel
theorem dX10_learning_15 : decode cX10_learning 15 = .ok (.iload 4, 2) := by decide +kernel
theorem dX10_learning_17 : decode cX10_learning 17 = .ok (.iconst 0, 1) := by decide +kernel
theorem dX10_learning_18 : decode cX10_learning 18 = .ok (.bipush 30, 2) := by decide +kernel
theorem dX10_learning_20 : decode cX10_learning 20 = .ok (.invokestatic 89, 3) := by decide +kernel
theorem dX10_learning_23 : decode cX10_learning 23 = .ok (.ifCond .ne 5, 3) := by decide +kernel
theorem dX10_learning_26 : decode cX10_learning 26 = .ok (.iconst (-1), 1) := by decide +kernel
theorem dX10_learning_27 : decode cX10_learning 27 = .ok (.ireturn, 1) := by decide +kernel
theorem dX10_learning_28 : decode cX10_learning 28 = .ok (.aload_n 0, 1) := by decide +kernel
theorem dX10_learning_29 : decode cX10_learning 29 = .ok (.getfield 44, 3) := by decide +kernel
theorem dX10_learning_32 : decode cX10_learning 32 = .ok (.iconst 0, 1) := by decide +kernel
theorem dX10_learning_33 : decode cX10_learning 33 = .ok (.iaload, 1) := by decide +kernel
theorem dX10_learning_34 : decode cX10_learning 34 = .ok (.istore 5, 2) := by decide +kernel
theorem dX10_learning_36 : decode cX10_learning 36 = .ok (.iconst 0, 1) := by decide +kernel
theorem dX10_learning_37 : decode cX10_learning 37 = .ok (.istore 6, 2) := by decide +kernel
theorem dX10_learning_39 : decode cX10_learning 39 = .ok (.iload 6, 2) := by decide +kernel
theorem dX10_learning_41 : decode cX10_learning 41 = .ok (.iload 4, 2) := by decide +kernel
theorem dX10_learning_43 : decode cX10_learning 43 = .ok (.if_icmp .ge 107, 3) := by decide +kernel
theorem dX10_learning_46 : decode cX10_learning 46 = .ok (.aload_n 0, 1) := by decide +kernel
theorem dX10_learning_47 : decode cX10_learning 47 = .ok (.iconst 0, 1) := by decide +kernel
theorem dX10_learning_48 : decode cX10_learning 48 = .ok (.iload 5, 2) := by decide +kernel
theorem dX10_learning_50 : decode cX10_learning 50 = .ok (.iload_n 3, 1) := by decide +kernel
theorem dX10_learning_51 : decode cX10_learning 51 = .ok (.invokevirtual 350, 3) := by decide +kernel
theorem dX10_learning_54 : decode cX10_learning 54 = .ok (.lstore 7, 2) := by decide +kernel
theorem dX10_learning_56 : decode cX10_learning 56 = .ok (.iload 5, 2) := by decide +kernel
theorem dX10_learning_58 : decode cX10_learning 58 = .ok (.ifCond .le 16, 3) := by decide +kernel
theorem dX10_learning_61 : decode cX10_learning 61 = .ok (.aload_n 0, 1) := by decide +kernel
theorem dX10_learning_62 : decode cX10_learning 62 = .ok (.iconst 0, 1) := by decide +kernel
theorem dX10_learning_63 : decode cX10_learning 63 = .ok (.iload 5, 2) := by decide +kernel
theorem dX10_learning_65 : decode cX10_learning 65 = .ok (.iconst 1, 1) := by decide +kernel
theorem dX10_learning_66 : decode cX10_learning 66 = .ok (.isub, 1) := by decide +kernel
theorem dX10_learning_67 : decode cX10_learning 67 = .ok (.iload_n 3, 1) := by decide +kernel
theorem dX10_learning_68 : decode cX10_learning 68 = .ok (.invokevirtual 350, 3) := by decide +kernel
theorem dX10_learning_71 : decode cX10_learning 71 = .ok (.goto 5, 3) := by decide +kernel
theorem dX10_learning_74 : decode cX10_learning 74 = .ok (.lload 7, 2) := by decide +kernel
theorem dX10_learning_76 : decode cX10_learning 76 = .ok (.lstore 9, 2) := by decide +kernel
theorem dX10_learning_78 : decode cX10_learning 78 = .ok (.iload 5, 2) := by decide +kernel
theorem dX10_learning_80 : decode cX10_learning 80 = .ok (.bipush 99, 2) := by decide +kernel
theorem dX10_learning_82 : decode cX10_learning 82 = .ok (.if_icmp .ge 16, 3) := by decide +kernel
theorem dX10_learning_85 : decode cX10_learning 85 = .ok (.aload_n 0, 1) := by decide +kernel
theorem dX10_learning_86 : decode cX10_learning 86 = .ok (.iconst 0, 1) := by decide +kernel
theorem dX10_learning_87 : decode cX10_learning 87 = .ok (.iload 5, 2) := by decide +kernel
theorem dX10_learning_89 : decode cX10_learning 89 = .ok (.iconst 1, 1) := by decide +kernel
theorem dX10_learning_90 : decode cX10_learning 90 = .ok (.iadd, 1) := by decide +kernel
theorem dX10_learning_91 : decode cX10_learning 91 = .ok (.iload_n 3, 1) := by decide +kernel
theorem dX10_learning_92 : decode cX10_learning 92 = .ok (.invokevirtual 350, 3) := by decide +kernel
theorem dX10_learning_95 : decode cX10_learning 95 = .ok (.goto 5, 3) := by decide +kernel
theorem dX10_learning_98 : decode cX10_learning 98 = .ok (.lload 7, 2) := by decide +kernel
theorem dX10_learning_100 : decode cX10_learning 100 = .ok (.lstore 11, 2) := by decide +kernel
theorem dX10_learning_102 : decode cX10_learning 102 = .ok (.lload 9, 2) := by decide +kernel
theorem dX10_learning_104 : decode cX10_learning 104 = .ok (.lload 7, 2) := by decide +kernel
theorem dX10_learning_106 : decode cX10_learning 106 = .ok (.lcmp, 1) := by decide +kernel
theorem dX10_learning_107 : decode cX10_learning 107 = .ok (.ifCond .ge 18, 3) := by decide +kernel
theorem dX10_learning_110 : decode cX10_learning 110 = .ok (.lload 9, 2) := by decide +kernel
theorem dX10_learning_112 : decode cX10_learning 112 = .ok (.lload 11, 2) := by decide +kernel
theorem dX10_learning_114 : decode cX10_learning 114 = .ok (.lcmp, 1) := by decide +kernel
theorem dX10_learning_115 : decode cX10_learning 115 = .ok (.ifCond .gt 10, 3) := by decide +kernel
theorem dX10_learning_118 : decode cX10_learning 118 = .ok (.iload 5, 2) := by decide +kernel
theorem dX10_learning_120 : decode cX10_learning 120 = .ok (.iconst 1, 1) := by decide +kernel
theorem dX10_learning_121 : decode cX10_learning 121 = .ok (.isub, 1) := by decide +kernel
theorem dX10_learning_122 : decode cX10_learning 122 = .ok (.goto 20, 3) := by decide +kernel
theorem dX10_learning_125 : decode cX10_learning 125 = .ok (.lload 11, 2) := by decide +kernel
theorem dX10_learning_127 : decode cX10_learning 127 = .ok (.lload 7, 2) := by decide +kernel
theorem dX10_learning_129 : decode cX10_learning 129 = .ok (.lcmp, 1) := by decide +kernel
theorem dX10_learning_130 : decode cX10_learning 130 = .ok (.ifCond .ge 10, 3) := by decide +kernel
theorem dX10_learning_133 : decode cX10_learning 133 = .ok (.iload 5, 2) := by decide +kernel
theorem dX10_learning_135 : decode cX10_learning 135 = .ok (.iconst 1, 1) := by decide +kernel
theorem dX10_learning_136 : decode cX10_learning 136 = .ok (.iadd, 1) := by decide +kernel
theorem dX10_learning_137 : decode cX10_learning 137 = .ok (.goto 5, 3) := by decide +kernel
theorem dX10_learning_140 : decode cX10_learning 140 = .ok (.iload 5, 2) := by decide +kernel
theorem dX10_learning_142 : decode cX10_learning 142 = .ok (.istore 5, 2) := by decide +kernel
theorem dX10_learning_144 : decode cX10_learning 144 = .ok (.iinc 6 1, 3) := by decide +kernel
theorem dX10_learning_147 : decode cX10_learning 147 = .ok (.goto (-108), 3) := by decide +kernel
theorem dX10_learning_150 : decode cX10_learning 150 = .ok (.iload 5, 2) := by decide +kernel
theorem dX10_learning_152 : decode cX10_learning 152 = .ok (.ireturn, 1) := by decide +kernel
set_option maxRecDepth 20000 in
theorem dX10_steers_0 : decode cX10_steers 0 = .ok (.aload_n 0, 1) := by decide +kernel
theorem dX10_steers_1 : decode cX10_steers 1 = .ok (.iconst 0, 1) := by decide +kernel
theorem dX10_steers_2 : decode cX10_steers 2 = .ok (.putfield 81, 3) := by decide +kernel
theorem dX10_steers_5 : decode cX10_steers 5 = .ok (.aload_n 0, 1) := by decide +kernel
theorem dX10_steers_6 : decode cX10_steers 6 = .ok (.iconst 0, 1) := by decide +kernel
theorem dX10_steers_7 : decode cX10_steers 7 = .ok (.iload_n 1, 1) := by decide +kernel
theorem dX10_steers_8 : decode cX10_steers 8 = .ok (.invokevirtual 226, 3) := by decide +kernel
theorem dX10_steers_11 : decode cX10_steers 11 = .ok (.ifCond .eq 12, 3) := by decide +kernel
theorem dX10_steers_14 : decode cX10_steers 14 = .ok (.aload_n 0, 1) := by decide +kernel
theorem dX10_steers_15 : decode cX10_steers 15 = .ok (.iconst 3, 1) := by decide +kernel
theorem dX10_steers_16 : decode cX10_steers 16 = .ok (.iload_n 2, 1) := by decide +kernel
theorem dX10_steers_17 : decode cX10_steers 17 = .ok (.invokevirtual 226, 3) := by decide +kernel
theorem dX10_steers_20 : decode cX10_steers 20 = .ok (.ifCond .ne 7, 3) := by decide +kernel
theorem dX10_steers_23 : decode cX10_steers 23 = .ok (.ldc2_w 358, 3) := by decide +kernel
theorem dX10_steers_26 : decode cX10_steers 26 = .ok (.lreturn, 1) := by decide +kernel
theorem dX10_steers_27 : decode cX10_steers 27 = .ok (.iconst 0, 1) := by decide +kernel
theorem dX10_steers_28 : decode cX10_steers 28 = .ok (.istore 5, 2) := by decide +kernel
theorem dX10_steers_30 : decode cX10_steers 30 = .ok (.iload 5, 2) := by decide +kernel
theorem dX10_steers_32 : decode cX10_steers 32 = .ok (.aload_n 0, 1) := by decide +kernel
theorem dX10_steers_33 : decode cX10_steers 33 = .ok (.getfield 35, 3) := by decide +kernel
theorem dX10_steers_36 : decode cX10_steers 36 = .ok (.bipush 17, 2) := by decide +kernel
theorem dX10_steers_38 : decode cX10_steers 38 = .ok (.iload_n 2, 1) := by decide +kernel
theorem dX10_steers_39 : decode cX10_steers 39 = .ok (.imul, 1) := by decide +kernel
theorem dX10_steers_40 : decode cX10_steers 40 = .ok (.iaload, 1) := by decide +kernel
theorem dX10_steers_41 : decode cX10_steers 41 = .ok (.if_icmp .ge 37, 3) := by decide +kernel
theorem dX10_steers_44 : decode cX10_steers 44 = .ok (.aload_n 0, 1) := by decide +kernel
theorem dX10_steers_45 : decode cX10_steers 45 = .ok (.iconst 1, 1) := by decide +kernel
theorem dX10_steers_46 : decode cX10_steers 46 = .ok (.aload_n 0, 1) := by decide +kernel
theorem dX10_steers_47 : decode cX10_steers 47 = .ok (.getfield 35, 3) := by decide +kernel
theorem dX10_steers_50 : decode cX10_steers 50 = .ok (.bipush 17, 2) := by decide +kernel
theorem dX10_steers_52 : decode cX10_steers 52 = .ok (.iload_n 2, 1) := by decide +kernel
theorem dX10_steers_53 : decode cX10_steers 53 = .ok (.imul, 1) := by decide +kernel
theorem dX10_steers_54 : decode cX10_steers 54 = .ok (.iconst 1, 1) := by decide +kernel
theorem dX10_steers_55 : decode cX10_steers 55 = .ok (.iadd, 1) := by decide +kernel
theorem dX10_steers_56 : decode cX10_steers 56 = .ok (.iconst 2, 1) := by decide +kernel
theorem dX10_steers_57 : decode cX10_steers 57 = .ok (.iload 5, 2) := by decide +kernel
theorem dX10_steers_59 : decode cX10_steers 59 = .ok (.imul, 1) := by decide +kernel
theorem dX10_steers_60 : decode cX10_steers 60 = .ok (.iadd, 1) := by decide +kernel
theorem dX10_steers_61 : decode cX10_steers 61 = .ok (.iaload, 1) := by decide +kernel
theorem dX10_steers_62 : decode cX10_steers 62 = .ok (.invokevirtual 226, 3) := by decide +kernel
theorem dX10_steers_65 : decode cX10_steers 65 = .ok (.ifCond .ne 7, 3) := by decide +kernel
theorem dX10_steers_68 : decode cX10_steers 68 = .ok (.ldc2_w 358, 3) := by decide +kernel
theorem dX10_steers_71 : decode cX10_steers 71 = .ok (.lreturn, 1) := by decide +kernel
theorem dX10_steers_72 : decode cX10_steers 72 = .ok (.iinc 5 1, 3) := by decide +kernel
theorem dX10_steers_75 : decode cX10_steers 75 = .ok (.goto (-45), 3) := by decide +kernel
theorem dX10_steers_78 : decode cX10_steers 78 = .ok (.aload_n 0, 1) := by decide +kernel
theorem dX10_steers_79 : decode cX10_steers 79 = .ok (.iload_n 1, 1) := by decide +kernel
theorem dX10_steers_80 : decode cX10_steers 80 = .ok (.invokevirtual 323, 3) := by decide +kernel
theorem dX10_steers_83 : decode cX10_steers 83 = .ok (.aload_n 0, 1) := by decide +kernel
theorem dX10_steers_84 : decode cX10_steers 84 = .ok (.iload_n 3, 1) := by decide +kernel
theorem dX10_steers_85 : decode cX10_steers 85 = .ok (.invokevirtual 309, 3) := by decide +kernel
theorem dX10_steers_88 : decode cX10_steers 88 = .ok (.iconst 0, 1) := by decide +kernel
theorem dX10_steers_89 : decode cX10_steers 89 = .ok (.istore 5, 2) := by decide +kernel
theorem dX10_steers_91 : decode cX10_steers 91 = .ok (.iload 5, 2) := by decide +kernel
theorem dX10_steers_93 : decode cX10_steers 93 = .ok (.aload_n 0, 1) := by decide +kernel
theorem dX10_steers_94 : decode cX10_steers 94 = .ok (.getfield 35, 3) := by decide +kernel
theorem dX10_steers_97 : decode cX10_steers 97 = .ok (.bipush 17, 2) := by decide +kernel
theorem dX10_steers_99 : decode cX10_steers 99 = .ok (.iload_n 2, 1) := by decide +kernel
theorem dX10_steers_100 : decode cX10_steers 100 = .ok (.imul, 1) := by decide +kernel
theorem dX10_steers_101 : decode cX10_steers 101 = .ok (.iaload, 1) := by decide +kernel
theorem dX10_steers_102 : decode cX10_steers 102 = .ok (.if_icmp .ge 89, 3) := by decide +kernel
theorem dX10_steers_105 : decode cX10_steers 105 = .ok (.aload_n 0, 1) := by decide +kernel
theorem dX10_steers_106 : decode cX10_steers 106 = .ok (.getfield 240, 3) := by decide +kernel
theorem dX10_steers_109 : decode cX10_steers 109 = .ok (.sipush 400, 3) := by decide +kernel
theorem dX10_steers_112 : decode cX10_steers 112 = .ok (.if_icmp .ge 79, 3) := by decide +kernel
theorem dX10_steers_115 : decode cX10_steers 115 = .ok (.aload_n 0, 1) := by decide +kernel
theorem dX10_steers_116 : decode cX10_steers 116 = .ok (.getfield 35, 3) := by decide +kernel
theorem dX10_steers_119 : decode cX10_steers 119 = .ok (.bipush 17, 2) := by decide +kernel
theorem dX10_steers_121 : decode cX10_steers 121 = .ok (.iload_n 2, 1) := by decide +kernel
theorem dX10_steers_122 : decode cX10_steers 122 = .ok (.imul, 1) := by decide +kernel
theorem dX10_steers_123 : decode cX10_steers 123 = .ok (.iconst 2, 1) := by decide +kernel
theorem dX10_steers_124 : decode cX10_steers 124 = .ok (.iadd, 1) := by decide +kernel
theorem dX10_steers_125 : decode cX10_steers 125 = .ok (.iconst 2, 1) := by decide +kernel
theorem dX10_steers_126 : decode cX10_steers 126 = .ok (.iload 5, 2) := by decide +kernel
theorem dX10_steers_128 : decode cX10_steers 128 = .ok (.imul, 1) := by decide +kernel
theorem dX10_steers_129 : decode cX10_steers 129 = .ok (.iadd, 1) := by decide +kernel
theorem dX10_steers_130 : decode cX10_steers 130 = .ok (.iaload, 1) := by decide +kernel
theorem dX10_steers_131 : decode cX10_steers 131 = .ok (.istore 6, 2) := by decide +kernel
theorem dX10_steers_133 : decode cX10_steers 133 = .ok (.aload_n 0, 1) := by decide +kernel
theorem dX10_steers_134 : decode cX10_steers 134 = .ok (.iconst 0, 1) := by decide +kernel
theorem dX10_steers_135 : decode cX10_steers 135 = .ok (.aload_n 0, 1) := by decide +kernel
theorem dX10_steers_136 : decode cX10_steers 136 = .ok (.getfield 35, 3) := by decide +kernel
theorem dX10_steers_139 : decode cX10_steers 139 = .ok (.bipush 17, 2) := by decide +kernel
theorem dX10_steers_141 : decode cX10_steers 141 = .ok (.iload_n 2, 1) := by decide +kernel
theorem dX10_steers_142 : decode cX10_steers 142 = .ok (.imul, 1) := by decide +kernel
theorem dX10_steers_143 : decode cX10_steers 143 = .ok (.iconst 1, 1) := by decide +kernel
theorem dX10_steers_144 : decode cX10_steers 144 = .ok (.iadd, 1) := by decide +kernel
theorem dX10_steers_145 : decode cX10_steers 145 = .ok (.iconst 2, 1) := by decide +kernel
theorem dX10_steers_146 : decode cX10_steers 146 = .ok (.iload 5, 2) := by decide +kernel
theorem dX10_steers_148 : decode cX10_steers 148 = .ok (.imul, 1) := by decide +kernel
theorem dX10_steers_149 : decode cX10_steers 149 = .ok (.iadd, 1) := by decide +kernel
theorem dX10_steers_150 : decode cX10_steers 150 = .ok (.iaload, 1) := by decide +kernel
theorem dX10_steers_151 : decode cX10_steers 151 = .ok (.invokevirtual 326, 3) := by decide +kernel
theorem dX10_steers_154 : decode cX10_steers 154 = .ok (.aload_n 0, 1) := by decide +kernel
theorem dX10_steers_155 : decode cX10_steers 155 = .ok (.iconst 0, 1) := by decide +kernel
theorem dX10_steers_156 : decode cX10_steers 156 = .ok (.aload_n 0, 1) := by decide +kernel
theorem dX10_steers_157 : decode cX10_steers 157 = .ok (.getfield 240, 3) := by decide +kernel
theorem dX10_steers_160 : decode cX10_steers 160 = .ok (.iload 6, 2) := by decide +kernel
theorem dX10_steers_162 : decode cX10_steers 162 = .ok (.iadd, 1) := by decide +kernel
theorem dX10_steers_163 : decode cX10_steers 163 = .ok (.sipush 400, 3) := by decide +kernel
theorem dX10_steers_166 : decode cX10_steers 166 = .ok (.if_icmp .ge 8, 3) := by decide +kernel
theorem dX10_steers_169 : decode cX10_steers 169 = .ok (.iload 6, 2) := by decide +kernel
theorem dX10_steers_171 : decode cX10_steers 171 = .ok (.goto 11, 3) := by decide +kernel
theorem dX10_steers_174 : decode cX10_steers 174 = .ok (.sipush 400, 3) := by decide +kernel
theorem dX10_steers_177 : decode cX10_steers 177 = .ok (.aload_n 0, 1) := by decide +kernel
theorem dX10_steers_178 : decode cX10_steers 178 = .ok (.getfield 240, 3) := by decide +kernel
theorem dX10_steers_181 : decode cX10_steers 181 = .ok (.isub, 1) := by decide +kernel
theorem dX10_steers_182 : decode cX10_steers 182 = .ok (.invokevirtual 312, 3) := by decide +kernel
theorem dX10_steers_185 : decode cX10_steers 185 = .ok (.iinc 5 1, 3) := by decide +kernel
theorem dX10_steers_188 : decode cX10_steers 188 = .ok (.goto (-97), 3) := by decide +kernel
theorem dX10_steers_191 : decode cX10_steers 191 = .ok (.iload 4, 2) := by decide +kernel
theorem dX10_steers_193 : decode cX10_steers 193 = .ok (.tableswitch 63 0 4 #[35, 40, 45, 51, 57], 35) := by decide +kernel
theorem dX10_steers_228 : decode cX10_steers 228 = .ok (.aload_n 0, 1) := by decide +kernel
theorem dX10_steers_229 : decode cX10_steers 229 = .ok (.invokevirtual 319, 3) := by decide +kernel
theorem dX10_steers_232 : decode cX10_steers 232 = .ok (.lreturn, 1) := by decide +kernel
theorem dX10_steers_233 : decode cX10_steers 233 = .ok (.aload_n 0, 1) := by decide +kernel
theorem dX10_steers_234 : decode cX10_steers 234 = .ok (.getfield 243, 3) := by decide +kernel
theorem dX10_steers_237 : decode cX10_steers 237 = .ok (.lreturn, 1) := by decide +kernel
theorem dX10_steers_238 : decode cX10_steers 238 = .ok (.aload_n 0, 1) := by decide +kernel
theorem dX10_steers_239 : decode cX10_steers 239 = .ok (.getfield 246, 3) := by decide +kernel
theorem dX10_steers_242 : decode cX10_steers 242 = .ok (.i2l, 1) := by decide +kernel
theorem dX10_steers_243 : decode cX10_steers 243 = .ok (.lreturn, 1) := by decide +kernel
theorem dX10_steers_244 : decode cX10_steers 244 = .ok (.aload_n 0, 1) := by decide +kernel
theorem dX10_steers_245 : decode cX10_steers 245 = .ok (.getfield 252, 3) := by decide +kernel
theorem dX10_steers_248 : decode cX10_steers 248 = .ok (.i2l, 1) := by decide +kernel
theorem dX10_steers_249 : decode cX10_steers 249 = .ok (.lreturn, 1) := by decide +kernel
theorem dX10_steers_250 : decode cX10_steers 250 = .ok (.aload_n 0, 1) := by decide +kernel
theorem dX10_steers_251 : decode cX10_steers 251 = .ok (.getfield 240, 3) := by decide +kernel
theorem dX10_steers_254 : decode cX10_steers 254 = .ok (.i2l, 1) := by decide +kernel
theorem dX10_steers_255 : decode cX10_steers 255 = .ok (.lreturn, 1) := by decide +kernel
theorem dX10_steers_256 : decode cX10_steers 256 = .ok (.iload 4, 2) := by decide +kernel
theorem dX10_steers_258 : decode cX10_steers 258 = .ok (.sipush 1000, 3) := by decide +kernel
theorem dX10_steers_261 : decode cX10_steers 261 = .ok (.sipush 1000, 3) := by decide +kernel
theorem dX10_steers_264 : decode cX10_steers 264 = .ok (.aload_n 0, 1) := by decide +kernel
theorem dX10_steers_265 : decode cX10_steers 265 = .ok (.getfield 240, 3) := by decide +kernel
theorem dX10_steers_268 : decode cX10_steers 268 = .ok (.iadd, 1) := by decide +kernel
theorem dX10_steers_269 : decode cX10_steers 269 = .ok (.invokestatic 89, 3) := by decide +kernel
theorem dX10_steers_272 : decode cX10_steers 272 = .ok (.ifCond .eq 18, 3) := by decide +kernel
theorem dX10_steers_275 : decode cX10_steers 275 = .ok (.aload_n 0, 1) := by decide +kernel
theorem dX10_steers_276 : decode cX10_steers 276 = .ok (.getfield 56, 3) := by decide +kernel
theorem dX10_steers_279 : decode cX10_steers 279 = .ok (.iload 4, 2) := by decide +kernel
theorem dX10_steers_281 : decode cX10_steers 281 = .ok (.sipush 1000, 3) := by decide +kernel
theorem dX10_steers_284 : decode cX10_steers 284 = .ok (.isub, 1) := by decide +kernel
theorem dX10_steers_285 : decode cX10_steers 285 = .ok (.iaload, 1) := by decide +kernel
theorem dX10_steers_286 : decode cX10_steers 286 = .ok (.i2l, 1) := by decide +kernel
theorem dX10_steers_287 : decode cX10_steers 287 = .ok (.goto 6, 3) := by decide +kernel
theorem dX10_steers_290 : decode cX10_steers 290 = .ok (.ldc2_w 358, 3) := by decide +kernel
theorem dX10_steers_293 : decode cX10_steers 293 = .ok (.lreturn, 1) := by decide +kernel
set_option maxRecDepth 20000 in
theorem dX10_change_0 : decode cX10_change 0 = .ok (.aload_n 0, 1) := by decide +kernel
theorem dX10_change_1 : decode cX10_change 1 = .ok (.iconst 0, 1) := by decide +kernel
theorem dX10_change_2 : decode cX10_change 2 = .ok (.putfield 81, 3) := by decide +kernel
theorem dX10_change_5 : decode cX10_change 5 = .ok (.aload_n 0, 1) := by decide +kernel
theorem dX10_change_6 : decode cX10_change 6 = .ok (.iconst 1, 1) := by decide +kernel
theorem dX10_change_7 : decode cX10_change 7 = .ok (.iload_n 3, 1) := by decide +kernel
theorem dX10_change_8 : decode cX10_change 8 = .ok (.invokevirtual 226, 3) := by decide +kernel
theorem dX10_change_11 : decode cX10_change 11 = .ok (.ifCond .eq 14, 3) := by decide +kernel
theorem dX10_change_14 : decode cX10_change 14 = .ok (.aload_n 0, 1) := by decide +kernel
theorem dX10_change_15 : decode cX10_change 15 = .ok (.iload_n 1, 1) := by decide +kernel
theorem dX10_change_16 : decode cX10_change 16 = .ok (.iload_n 2, 1) := by decide +kernel
theorem dX10_change_17 : decode cX10_change 17 = .ok (.iload 4, 2) := by decide +kernel
theorem dX10_change_19 : decode cX10_change 19 = .ok (.invokevirtual 338, 3) := by decide +kernel
theorem dX10_change_22 : decode cX10_change 22 = .ok (.ifCond .ne 5, 3) := by decide +kernel
theorem dX10_change_25 : decode cX10_change 25 = .ok (.iconst (-1), 1) := by decide +kernel
theorem dX10_change_26 : decode cX10_change 26 = .ok (.ireturn, 1) := by decide +kernel
theorem dX10_change_27 : decode cX10_change 27 = .ok (.aload_n 0, 1) := by decide +kernel
theorem dX10_change_28 : decode cX10_change 28 = .ok (.iconst 1, 1) := by decide +kernel
theorem dX10_change_29 : decode cX10_change 29 = .ok (.iload_n 3, 1) := by decide +kernel
theorem dX10_change_30 : decode cX10_change 30 = .ok (.invokevirtual 326, 3) := by decide +kernel
theorem dX10_change_33 : decode cX10_change 33 = .ok (.iconst (-1), 1) := by decide +kernel
theorem dX10_change_34 : decode cX10_change 34 = .ok (.istore 5, 2) := by decide +kernel
theorem dX10_change_36 : decode cX10_change 36 = .ok (.lconst 0, 1) := by decide +kernel
theorem dX10_change_37 : decode cX10_change 37 = .ok (.lstore 6, 2) := by decide +kernel
theorem dX10_change_39 : decode cX10_change 39 = .ok (.iconst 0, 1) := by decide +kernel
theorem dX10_change_40 : decode cX10_change 40 = .ok (.istore 8, 2) := by decide +kernel
theorem dX10_change_42 : decode cX10_change 42 = .ok (.iload 8, 2) := by decide +kernel
theorem dX10_change_44 : decode cX10_change 44 = .ok (.iload 4, 2) := by decide +kernel
theorem dX10_change_46 : decode cX10_change 46 = .ok (.if_icmp .gt 57, 3) := by decide +kernel
theorem dX10_change_49 : decode cX10_change 49 = .ok (.aload_n 0, 1) := by decide +kernel
theorem dX10_change_50 : decode cX10_change 50 = .ok (.iconst 0, 1) := by decide +kernel
theorem dX10_change_51 : decode cX10_change 51 = .ok (.invokevirtual 309, 3) := by decide +kernel
theorem dX10_change_54 : decode cX10_change 54 = .ok (.aload_n 0, 1) := by decide +kernel
theorem dX10_change_55 : decode cX10_change 55 = .ok (.iconst 0, 1) := by decide +kernel
theorem dX10_change_56 : decode cX10_change 56 = .ok (.iload 8, 2) := by decide +kernel
theorem dX10_change_58 : decode cX10_change 58 = .ok (.invokevirtual 312, 3) := by decide +kernel
theorem dX10_change_61 : decode cX10_change 61 = .ok (.aload_n 0, 1) := by decide +kernel
theorem dX10_change_62 : decode cX10_change 62 = .ok (.iconst 1, 1) := by decide +kernel
theorem dX10_change_63 : decode cX10_change 63 = .ok (.iload 4, 2) := by decide +kernel
theorem dX10_change_65 : decode cX10_change 65 = .ok (.iload 8, 2) := by decide +kernel
theorem dX10_change_67 : decode cX10_change 67 = .ok (.isub, 1) := by decide +kernel
theorem dX10_change_68 : decode cX10_change 68 = .ok (.invokevirtual 312, 3) := by decide +kernel
theorem dX10_change_71 : decode cX10_change 71 = .ok (.iload 5, 2) := by decide +kernel
theorem dX10_change_73 : decode cX10_change 73 = .ok (.iconst (-1), 1) := by decide +kernel
theorem dX10_change_74 : decode cX10_change 74 = .ok (.if_icmp .eq 13, 3) := by decide +kernel
theorem dX10_change_77 : decode cX10_change 77 = .ok (.aload_n 0, 1) := by decide +kernel
theorem dX10_change_78 : decode cX10_change 78 = .ok (.invokevirtual 319, 3) := by decide +kernel
theorem dX10_change_81 : decode cX10_change 81 = .ok (.lload 6, 2) := by decide +kernel
theorem dX10_change_83 : decode cX10_change 83 = .ok (.lcmp, 1) := by decide +kernel
theorem dX10_change_84 : decode cX10_change 84 = .ok (.ifCond .ge 13, 3) := by decide +kernel
theorem dX10_change_87 : decode cX10_change 87 = .ok (.iload 8, 2) := by decide +kernel
theorem dX10_change_89 : decode cX10_change 89 = .ok (.istore 5, 2) := by decide +kernel
theorem dX10_change_91 : decode cX10_change 91 = .ok (.aload_n 0, 1) := by decide +kernel
theorem dX10_change_92 : decode cX10_change 92 = .ok (.invokevirtual 319, 3) := by decide +kernel
theorem dX10_change_95 : decode cX10_change 95 = .ok (.lstore 6, 2) := by decide +kernel
theorem dX10_change_97 : decode cX10_change 97 = .ok (.iinc 8 1, 3) := by decide +kernel
theorem dX10_change_100 : decode cX10_change 100 = .ok (.goto (-58), 3) := by decide +kernel
theorem dX10_change_103 : decode cX10_change 103 = .ok (.iload 5, 2) := by decide +kernel
theorem dX10_change_105 : decode cX10_change 105 = .ok (.ireturn, 1) := by decide +kernel
theorem dX10_isOrder_0 : decode cX10_isOrder 0 = .ok (.iconst 0, 1) := by decide +kernel
theorem dX10_isOrder_1 : decode cX10_isOrder 1 = .ok (.istore 4, 2) := by decide +kernel
theorem dX10_isOrder_3 : decode cX10_isOrder 3 = .ok (.iload_n 1, 1) := by decide +kernel
theorem dX10_isOrder_4 : decode cX10_isOrder 4 = .ok (.istore 5, 2) := by decide +kernel
theorem dX10_isOrder_6 : decode cX10_isOrder 6 = .ok (.iconst 3, 1) := by decide +kernel
theorem dX10_isOrder_7 : decode cX10_isOrder 7 = .ok (.istore 6, 2) := by decide +kernel
theorem dX10_isOrder_9 : decode cX10_isOrder 9 = .ok (.iload 6, 2) := by decide +kernel
theorem dX10_isOrder_11 : decode cX10_isOrder 11 = .ok (.ifCond .lt 52, 3) := by decide +kernel
theorem dX10_isOrder_14 : decode cX10_isOrder 14 = .ok (.iload 5, 2) := by decide +kernel
theorem dX10_isOrder_16 : decode cX10_isOrder 16 = .ok (.iconst 4, 1) := by decide +kernel
theorem dX10_isOrder_17 : decode cX10_isOrder 17 = .ok (.irem, 1) := by decide +kernel
theorem dX10_isOrder_18 : decode cX10_isOrder 18 = .ok (.istore 7, 2) := by decide +kernel
theorem dX10_isOrder_20 : decode cX10_isOrder 20 = .ok (.iload 5, 2) := by decide +kernel
theorem dX10_isOrder_22 : decode cX10_isOrder 22 = .ok (.iconst 4, 1) := by decide +kernel
theorem dX10_isOrder_23 : decode cX10_isOrder 23 = .ok (.idiv, 1) := by decide +kernel
theorem dX10_isOrder_24 : decode cX10_isOrder 24 = .ok (.istore 5, 2) := by decide +kernel
theorem dX10_isOrder_26 : decode cX10_isOrder 26 = .ok (.iload 6, 2) := by decide +kernel
theorem dX10_isOrder_28 : decode cX10_isOrder 28 = .ok (.iload_n 3, 1) := by decide +kernel
theorem dX10_isOrder_29 : decode cX10_isOrder 29 = .ok (.if_icmp .lt 10, 3) := by decide +kernel
theorem dX10_isOrder_32 : decode cX10_isOrder 32 = .ok (.iload 7, 2) := by decide +kernel
theorem dX10_isOrder_34 : decode cX10_isOrder 34 = .ok (.ifCond .le 23, 3) := by decide +kernel
theorem dX10_isOrder_37 : decode cX10_isOrder 37 = .ok (.iconst 0, 1) := by decide +kernel
theorem dX10_isOrder_38 : decode cX10_isOrder 38 = .ok (.ireturn, 1) := by decide +kernel
theorem dX10_isOrder_39 : decode cX10_isOrder 39 = .ok (.aload_n 0, 1) := by decide +kernel
theorem dX10_isOrder_40 : decode cX10_isOrder 40 = .ok (.getfield 71, 3) := by decide +kernel
theorem dX10_isOrder_43 : decode cX10_isOrder 43 = .ok (.iload 6, 2) := by decide +kernel
theorem dX10_isOrder_45 : decode cX10_isOrder 45 = .ok (.iload 7, 2) := by decide +kernel
theorem dX10_isOrder_47 : decode cX10_isOrder 47 = .ok (.iastore, 1) := by decide +kernel
theorem dX10_isOrder_48 : decode cX10_isOrder 48 = .ok (.iload 4, 2) := by decide +kernel
theorem dX10_isOrder_50 : decode cX10_isOrder 50 = .ok (.iconst 1, 1) := by decide +kernel
theorem dX10_isOrder_51 : decode cX10_isOrder 51 = .ok (.iload 7, 2) := by decide +kernel
theorem dX10_isOrder_53 : decode cX10_isOrder 53 = .ok (.ishl, 1) := by decide +kernel
theorem dX10_isOrder_54 : decode cX10_isOrder 54 = .ok (.ior, 1) := by decide +kernel
theorem dX10_isOrder_55 : decode cX10_isOrder 55 = .ok (.istore 4, 2) := by decide +kernel
theorem dX10_isOrder_57 : decode cX10_isOrder 57 = .ok (.iinc 6 (-1), 3) := by decide +kernel
theorem dX10_isOrder_60 : decode cX10_isOrder 60 = .ok (.goto (-51), 3) := by decide +kernel
theorem dX10_isOrder_63 : decode cX10_isOrder 63 = .ok (.iload 4, 2) := by decide +kernel
theorem dX10_isOrder_65 : decode cX10_isOrder 65 = .ok (.iload_n 2, 1) := by decide +kernel
theorem dX10_isOrder_66 : decode cX10_isOrder 66 = .ok (.if_icmp .ne 7, 3) := by decide +kernel
theorem dX10_isOrder_69 : decode cX10_isOrder 69 = .ok (.iconst 1, 1) := by decide +kernel
theorem dX10_isOrder_70 : decode cX10_isOrder 70 = .ok (.goto 4, 3) := by decide +kernel
theorem dX10_isOrder_73 : decode cX10_isOrder 73 = .ok (.iconst 0, 1) := by decide +kernel
theorem dX10_isOrder_74 : decode cX10_isOrder 74 = .ok (.ireturn, 1) := by decide +kernel
set_option maxRecDepth 20000 in
theorem dX10_order_0 : decode cX10_order 0 = .ok (.aload_n 0, 1) := by decide +kernel
theorem dX10_order_1 : decode cX10_order 1 = .ok (.iconst 0, 1) := by decide +kernel
theorem dX10_order_2 : decode cX10_order 2 = .ok (.putfield 81, 3) := by decide +kernel
theorem dX10_order_5 : decode cX10_order 5 = .ok (.iconst 0, 1) := by decide +kernel
theorem dX10_order_6 : decode cX10_order 6 = .ok (.istore 5, 2) := by decide +kernel
theorem dX10_order_8 : decode cX10_order 8 = .ok (.iconst 0, 1) := by decide +kernel
theorem dX10_order_9 : decode cX10_order 9 = .ok (.istore 6, 2) := by decide +kernel
theorem dX10_order_11 : decode cX10_order 11 = .ok (.iload 6, 2) := by decide +kernel
theorem dX10_order_13 : decode cX10_order 13 = .ok (.iconst 4, 1) := by decide +kernel
theorem dX10_order_14 : decode cX10_order 14 = .ok (.if_icmp .ge 28, 3) := by decide +kernel
theorem dX10_order_17 : decode cX10_order 17 = .ok (.iload 5, 2) := by decide +kernel
theorem dX10_order_19 : decode cX10_order 19 = .ok (.iload_n 2, 1) := by decide +kernel
theorem dX10_order_20 : decode cX10_order 20 = .ok (.iload 6, 2) := by decide +kernel
theorem dX10_order_22 : decode cX10_order 22 = .ok (.invokestatic 360, 3) := by decide +kernel
theorem dX10_order_25 : decode cX10_order 25 = .ok (.ifCond .eq 7, 3) := by decide +kernel
theorem dX10_order_28 : decode cX10_order 28 = .ok (.iconst 1, 1) := by decide +kernel
theorem dX10_order_29 : decode cX10_order 29 = .ok (.goto 4, 3) := by decide +kernel
theorem dX10_order_32 : decode cX10_order 32 = .ok (.iconst 0, 1) := by decide +kernel
theorem dX10_order_33 : decode cX10_order 33 = .ok (.iadd, 1) := by decide +kernel
theorem dX10_order_34 : decode cX10_order 34 = .ok (.istore 5, 2) := by decide +kernel
theorem dX10_order_36 : decode cX10_order 36 = .ok (.iinc 6 1, 3) := by decide +kernel
theorem dX10_order_39 : decode cX10_order 39 = .ok (.goto (-28), 3) := by decide +kernel
theorem dX10_order_42 : decode cX10_order 42 = .ok (.aload_n 0, 1) := by decide +kernel
theorem dX10_order_43 : decode cX10_order 43 = .ok (.iconst 0, 1) := by decide +kernel
theorem dX10_order_44 : decode cX10_order 44 = .ok (.iload_n 1, 1) := by decide +kernel
theorem dX10_order_45 : decode cX10_order 45 = .ok (.invokevirtual 226, 3) := by decide +kernel
theorem dX10_order_48 : decode cX10_order 48 = .ok (.ifCond .eq 43, 3) := by decide +kernel
theorem dX10_order_51 : decode cX10_order 51 = .ok (.iload_n 2, 1) := by decide +kernel
theorem dX10_order_52 : decode cX10_order 52 = .ok (.ifCond .le 39, 3) := by decide +kernel
theorem dX10_order_55 : decode cX10_order 55 = .ok (.iload_n 2, 1) := by decide +kernel
theorem dX10_order_56 : decode cX10_order 56 = .ok (.aload_n 0, 1) := by decide +kernel
theorem dX10_order_57 : decode cX10_order 57 = .ok (.getfield 23, 3) := by decide +kernel
theorem dX10_order_60 : decode cX10_order 60 = .ok (.iconst 1, 1) := by decide +kernel
theorem dX10_order_61 : decode cX10_order 61 = .ok (.iaload, 1) := by decide +kernel
theorem dX10_order_62 : decode cX10_order 62 = .ok (.ishr, 1) := by decide +kernel
theorem dX10_order_63 : decode cX10_order 63 = .ok (.ifCond .ne 28, 3) := by decide +kernel
theorem dX10_order_66 : decode cX10_order 66 = .ok (.iload_n 3, 1) := by decide +kernel
theorem dX10_order_67 : decode cX10_order 67 = .ok (.iload 5, 2) := by decide +kernel
theorem dX10_order_69 : decode cX10_order 69 = .ok (.sipush 200, 3) := by decide +kernel
theorem dX10_order_72 : decode cX10_order 72 = .ok (.invokestatic 89, 3) := by decide +kernel
theorem dX10_order_75 : decode cX10_order 75 = .ok (.ifCond .eq 16, 3) := by decide +kernel
theorem dX10_order_78 : decode cX10_order 78 = .ok (.iload 4, 2) := by decide +kernel
theorem dX10_order_80 : decode cX10_order 80 = .ok (.iconst 0, 1) := by decide +kernel
theorem dX10_order_81 : decode cX10_order 81 = .ok (.iload 5, 2) := by decide +kernel
theorem dX10_order_83 : decode cX10_order 83 = .ok (.iconst 1, 1) := by decide +kernel
theorem dX10_order_84 : decode cX10_order 84 = .ok (.isub, 1) := by decide +kernel
theorem dX10_order_85 : decode cX10_order 85 = .ok (.invokestatic 89, 3) := by decide +kernel
theorem dX10_order_88 : decode cX10_order 88 = .ok (.ifCond .ne 5, 3) := by decide +kernel
theorem dX10_order_91 : decode cX10_order 91 = .ok (.iconst (-1), 1) := by decide +kernel
theorem dX10_order_92 : decode cX10_order 92 = .ok (.ireturn, 1) := by decide +kernel
theorem dX10_order_93 : decode cX10_order 93 = .ok (.aload_n 0, 1) := by decide +kernel
theorem dX10_order_94 : decode cX10_order 94 = .ok (.iload_n 1, 1) := by decide +kernel
theorem dX10_order_95 : decode cX10_order 95 = .ok (.invokevirtual 323, 3) := by decide +kernel
theorem dX10_order_98 : decode cX10_order 98 = .ok (.iconst 0, 1) := by decide +kernel
theorem dX10_order_99 : decode cX10_order 99 = .ok (.istore 6, 2) := by decide +kernel
theorem dX10_order_101 : decode cX10_order 101 = .ok (.lconst 0, 1) := by decide +kernel
theorem dX10_order_102 : decode cX10_order 102 = .ok (.lstore 7, 2) := by decide +kernel
theorem dX10_order_104 : decode cX10_order 104 = .ok (.iconst 0, 1) := by decide +kernel
theorem dX10_order_105 : decode cX10_order 105 = .ok (.istore 9, 2) := by decide +kernel
theorem dX10_order_107 : decode cX10_order 107 = .ok (.iload 9, 2) := by decide +kernel
theorem dX10_order_109 : decode cX10_order 109 = .ok (.sipush 256, 3) := by decide +kernel
theorem dX10_order_112 : decode cX10_order 112 = .ok (.if_icmp .ge 143, 3) := by decide +kernel
theorem dX10_order_115 : decode cX10_order 115 = .ok (.aload_n 0, 1) := by decide +kernel
theorem dX10_order_116 : decode cX10_order 116 = .ok (.iload 9, 2) := by decide +kernel
theorem dX10_order_118 : decode cX10_order 118 = .ok (.iload_n 2, 1) := by decide +kernel
theorem dX10_order_119 : decode cX10_order 119 = .ok (.iload 5, 2) := by decide +kernel
theorem dX10_order_121 : decode cX10_order 121 = .ok (.invokevirtual 363, 3) := by decide +kernel
theorem dX10_order_124 : decode cX10_order 124 = .ok (.ifCond .ne 6, 3) := by decide +kernel
theorem dX10_order_127 : decode cX10_order 127 = .ok (.goto 122, 3) := by decide +kernel
theorem dX10_order_130 : decode cX10_order 130 = .ok (.aload_n 0, 1) := by decide +kernel
theorem dX10_order_131 : decode cX10_order 131 = .ok (.iconst 0, 1) := by decide +kernel
theorem dX10_order_132 : decode cX10_order 132 = .ok (.invokevirtual 309, 3) := by decide +kernel
theorem dX10_order_135 : decode cX10_order 135 = .ok (.iconst 0, 1) := by decide +kernel
theorem dX10_order_136 : decode cX10_order 136 = .ok (.istore 10, 2) := by decide +kernel
theorem dX10_order_138 : decode cX10_order 138 = .ok (.iload 10, 2) := by decide +kernel
theorem dX10_order_140 : decode cX10_order 140 = .ok (.iload 5, 2) := by decide +kernel
theorem dX10_order_142 : decode cX10_order 142 = .ok (.if_icmp .ge 53, 3) := by decide +kernel
theorem dX10_order_145 : decode cX10_order 145 = .ok (.aload_n 0, 1) := by decide +kernel
theorem dX10_order_146 : decode cX10_order 146 = .ok (.iconst 0, 1) := by decide +kernel
theorem dX10_order_147 : decode cX10_order 147 = .ok (.aload_n 0, 1) := by decide +kernel
theorem dX10_order_148 : decode cX10_order 148 = .ok (.getfield 71, 3) := by decide +kernel
theorem dX10_order_151 : decode cX10_order 151 = .ok (.iload 10, 2) := by decide +kernel
theorem dX10_order_153 : decode cX10_order 153 = .ok (.iaload, 1) := by decide +kernel
theorem dX10_order_154 : decode cX10_order 154 = .ok (.invokevirtual 326, 3) := by decide +kernel
theorem dX10_order_157 : decode cX10_order 157 = .ok (.aload_n 0, 1) := by decide +kernel
theorem dX10_order_158 : decode cX10_order 158 = .ok (.iconst 0, 1) := by decide +kernel
theorem dX10_order_159 : decode cX10_order 159 = .ok (.iload 10, 2) := by decide +kernel
theorem dX10_order_161 : decode cX10_order 161 = .ok (.iload 5, 2) := by decide +kernel
theorem dX10_order_163 : decode cX10_order 163 = .ok (.iconst 1, 1) := by decide +kernel
theorem dX10_order_164 : decode cX10_order 164 = .ok (.isub, 1) := by decide +kernel
theorem dX10_order_165 : decode cX10_order 165 = .ok (.if_icmp .ge 10, 3) := by decide +kernel
theorem dX10_order_168 : decode cX10_order 168 = .ok (.iload_n 3, 1) := by decide +kernel
theorem dX10_order_169 : decode cX10_order 169 = .ok (.iload 5, 2) := by decide +kernel
theorem dX10_order_171 : decode cX10_order 171 = .ok (.idiv, 1) := by decide +kernel
theorem dX10_order_172 : decode cX10_order 172 = .ok (.goto 14, 3) := by decide +kernel
theorem dX10_order_175 : decode cX10_order 175 = .ok (.iload_n 3, 1) := by decide +kernel
theorem dX10_order_176 : decode cX10_order 176 = .ok (.iload_n 3, 1) := by decide +kernel
theorem dX10_order_177 : decode cX10_order 177 = .ok (.iload 5, 2) := by decide +kernel
theorem dX10_order_179 : decode cX10_order 179 = .ok (.idiv, 1) := by decide +kernel
theorem dX10_order_180 : decode cX10_order 180 = .ok (.iload 5, 2) := by decide +kernel
theorem dX10_order_182 : decode cX10_order 182 = .ok (.iconst 1, 1) := by decide +kernel
theorem dX10_order_183 : decode cX10_order 183 = .ok (.isub, 1) := by decide +kernel
theorem dX10_order_184 : decode cX10_order 184 = .ok (.imul, 1) := by decide +kernel
theorem dX10_order_185 : decode cX10_order 185 = .ok (.isub, 1) := by decide +kernel
theorem dX10_order_186 : decode cX10_order 186 = .ok (.invokevirtual 312, 3) := by decide +kernel
theorem dX10_order_189 : decode cX10_order 189 = .ok (.iinc 10 1, 3) := by decide +kernel
theorem dX10_order_192 : decode cX10_order 192 = .ok (.goto (-54), 3) := by decide +kernel
theorem dX10_order_195 : decode cX10_order 195 = .ok (.iload 6, 2) := by decide +kernel
theorem dX10_order_197 : decode cX10_order 197 = .ok (.ifCond .eq 13, 3) := by decide +kernel
theorem dX10_order_200 : decode cX10_order 200 = .ok (.aload_n 0, 1) := by decide +kernel
theorem dX10_order_201 : decode cX10_order 201 = .ok (.invokevirtual 319, 3) := by decide +kernel
theorem dX10_order_204 : decode cX10_order 204 = .ok (.lload 7, 2) := by decide +kernel
theorem dX10_order_206 : decode cX10_order 206 = .ok (.lcmp, 1) := by decide +kernel
theorem dX10_order_207 : decode cX10_order 207 = .ok (.ifCond .ge 42, 3) := by decide +kernel
theorem dX10_order_210 : decode cX10_order 210 = .ok (.iconst 1, 1) := by decide +kernel
theorem dX10_order_211 : decode cX10_order 211 = .ok (.istore 6, 2) := by decide +kernel
theorem dX10_order_213 : decode cX10_order 213 = .ok (.aload_n 0, 1) := by decide +kernel
theorem dX10_order_214 : decode cX10_order 214 = .ok (.invokevirtual 319, 3) := by decide +kernel
theorem dX10_order_217 : decode cX10_order 217 = .ok (.lstore 7, 2) := by decide +kernel
theorem dX10_order_219 : decode cX10_order 219 = .ok (.iconst 0, 1) := by decide +kernel
theorem dX10_order_220 : decode cX10_order 220 = .ok (.istore 10, 2) := by decide +kernel
theorem dX10_order_222 : decode cX10_order 222 = .ok (.iload 10, 2) := by decide +kernel
theorem dX10_order_224 : decode cX10_order 224 = .ok (.iload 5, 2) := by decide +kernel
theorem dX10_order_226 : decode cX10_order 226 = .ok (.if_icmp .ge 23, 3) := by decide +kernel
theorem dX10_order_229 : decode cX10_order 229 = .ok (.aload_n 0, 1) := by decide +kernel
theorem dX10_order_230 : decode cX10_order 230 = .ok (.getfield 74, 3) := by decide +kernel
theorem dX10_order_233 : decode cX10_order 233 = .ok (.iload 10, 2) := by decide +kernel
theorem dX10_order_235 : decode cX10_order 235 = .ok (.aload_n 0, 1) := by decide +kernel
theorem dX10_order_236 : decode cX10_order 236 = .ok (.getfield 71, 3) := by decide +kernel
theorem dX10_order_239 : decode cX10_order 239 = .ok (.iload 10, 2) := by decide +kernel
theorem dX10_order_241 : decode cX10_order 241 = .ok (.iaload, 1) := by decide +kernel
theorem dX10_order_242 : decode cX10_order 242 = .ok (.iastore, 1) := by decide +kernel
theorem dX10_order_243 : decode cX10_order 243 = .ok (.iinc 10 1, 3) := by decide +kernel
theorem dX10_order_246 : decode cX10_order 246 = .ok (.goto (-24), 3) := by decide +kernel
theorem dX10_order_249 : decode cX10_order 249 = .ok (.iinc 9 1, 3) := by decide +kernel
theorem dX10_order_252 : decode cX10_order 252 = .ok (.goto (-145), 3) := by decide +kernel
theorem dX10_order_255 : decode cX10_order 255 = .ok (.aload_n 0, 1) := by decide +kernel
theorem dX10_order_256 : decode cX10_order 256 = .ok (.getfield 74, 3) := by decide +kernel
theorem dX10_order_259 : decode cX10_order 259 = .ok (.iload 4, 2) := by decide +kernel
theorem dX10_order_261 : decode cX10_order 261 = .ok (.iaload, 1) := by decide +kernel
theorem dX10_order_262 : decode cX10_order 262 = .ok (.ireturn, 1) := by decide +kernel
set_option maxRecDepth 20000 in
theorem dX10_both_0 : decode cX10_both 0 = .ok (.aload_n 0, 1) := by decide +kernel
theorem dX10_both_1 : decode cX10_both 1 = .ok (.iconst 0, 1) := by decide +kernel
theorem dX10_both_2 : decode cX10_both 2 = .ok (.putfield 81, 3) := by decide +kernel
theorem dX10_both_5 : decode cX10_both 5 = .ok (.aload_n 0, 1) := by decide +kernel
theorem dX10_both_6 : decode cX10_both 6 = .ok (.iconst 1, 1) := by decide +kernel
theorem dX10_both_7 : decode cX10_both 7 = .ok (.iload_n 3, 1) := by decide +kernel
theorem dX10_both_8 : decode cX10_both 8 = .ok (.invokevirtual 226, 3) := by decide +kernel
theorem dX10_both_11 : decode cX10_both 11 = .ok (.ifCond .eq 14, 3) := by decide +kernel
theorem dX10_both_14 : decode cX10_both 14 = .ok (.aload_n 0, 1) := by decide +kernel
theorem dX10_both_15 : decode cX10_both 15 = .ok (.iload_n 1, 1) := by decide +kernel
theorem dX10_both_16 : decode cX10_both 16 = .ok (.iload_n 2, 1) := by decide +kernel
theorem dX10_both_17 : decode cX10_both 17 = .ok (.iload 4, 2) := by decide +kernel
theorem dX10_both_19 : decode cX10_both 19 = .ok (.invokevirtual 338, 3) := by decide +kernel
theorem dX10_both_22 : decode cX10_both 22 = .ok (.ifCond .ne 7, 3) := by decide +kernel
theorem dX10_both_25 : decode cX10_both 25 = .ok (.ldc2_w 341, 3) := by decide +kernel
theorem dX10_both_28 : decode cX10_both 28 = .ok (.lreturn, 1) := by decide +kernel
theorem dX10_both_29 : decode cX10_both 29 = .ok (.aload_n 0, 1) := by decide +kernel
theorem dX10_both_30 : decode cX10_both 30 = .ok (.iconst 1, 1) := by decide +kernel
theorem dX10_both_31 : decode cX10_both 31 = .ok (.iload_n 3, 1) := by decide +kernel
theorem dX10_both_32 : decode cX10_both 32 = .ok (.invokevirtual 326, 3) := by decide +kernel
theorem dX10_both_35 : decode cX10_both 35 = .ok (.aload_n 0, 1) := by decide +kernel
theorem dX10_both_36 : decode cX10_both 36 = .ok (.iconst 0, 1) := by decide +kernel
theorem dX10_both_37 : decode cX10_both 37 = .ok (.invokevirtual 309, 3) := by decide +kernel
theorem dX10_both_40 : decode cX10_both 40 = .ok (.aload_n 0, 1) := by decide +kernel
theorem dX10_both_41 : decode cX10_both 41 = .ok (.iconst 0, 1) := by decide +kernel
theorem dX10_both_42 : decode cX10_both 42 = .ok (.invokevirtual 300, 3) := by decide +kernel
theorem dX10_both_45 : decode cX10_both 45 = .ok (.aload_n 0, 1) := by decide +kernel
theorem dX10_both_46 : decode cX10_both 46 = .ok (.iconst 1, 1) := by decide +kernel
theorem dX10_both_47 : decode cX10_both 47 = .ok (.invokevirtual 300, 3) := by decide +kernel
theorem dX10_both_50 : decode cX10_both 50 = .ok (.iconst 0, 1) := by decide +kernel
theorem dX10_both_51 : decode cX10_both 51 = .ok (.istore 6, 2) := by decide +kernel
theorem dX10_both_53 : decode cX10_both 53 = .ok (.iload 6, 2) := by decide +kernel
theorem dX10_both_55 : decode cX10_both 55 = .ok (.iload 4, 2) := by decide +kernel
theorem dX10_both_57 : decode cX10_both 57 = .ok (.if_icmp .ge 35, 3) := by decide +kernel
theorem dX10_both_60 : decode cX10_both 60 = .ok (.aload_n 0, 1) := by decide +kernel
theorem dX10_both_61 : decode cX10_both 61 = .ok (.iconst 0, 1) := by decide +kernel
theorem dX10_both_62 : decode cX10_both 62 = .ok (.invokevirtual 303, 3) := by decide +kernel
theorem dX10_both_65 : decode cX10_both 65 = .ok (.istore 7, 2) := by decide +kernel
theorem dX10_both_67 : decode cX10_both 67 = .ok (.iload 7, 2) := by decide +kernel
theorem dX10_both_69 : decode cX10_both 69 = .ok (.aload_n 0, 1) := by decide +kernel
theorem dX10_both_70 : decode cX10_both 70 = .ok (.iconst 1, 1) := by decide +kernel
theorem dX10_both_71 : decode cX10_both 71 = .ok (.invokevirtual 303, 3) := by decide +kernel
theorem dX10_both_74 : decode cX10_both 74 = .ok (.iadd, 1) := by decide +kernel
theorem dX10_both_75 : decode cX10_both 75 = .ok (.istore 7, 2) := by decide +kernel
theorem dX10_both_77 : decode cX10_both 77 = .ok (.aload_n 0, 1) := by decide +kernel
theorem dX10_both_78 : decode cX10_both 78 = .ok (.iload 7, 2) := by decide +kernel
theorem dX10_both_80 : decode cX10_both 80 = .ok (.iconst 2, 1) := by decide +kernel
theorem dX10_both_81 : decode cX10_both 81 = .ok (.idiv, 1) := by decide +kernel
theorem dX10_both_82 : decode cX10_both 82 = .ok (.iconst 0, 1) := by decide +kernel
theorem dX10_both_83 : decode cX10_both 83 = .ok (.invokevirtual 306, 3) := by decide +kernel
theorem dX10_both_86 : decode cX10_both 86 = .ok (.iinc 6 1, 3) := by decide +kernel
theorem dX10_both_89 : decode cX10_both 89 = .ok (.goto (-36), 3) := by decide +kernel
theorem dX10_both_92 : decode cX10_both 92 = .ok (.iload 5, 2) := by decide +kernel
theorem dX10_both_94 : decode cX10_both 94 = .ok (.ifCond .eq 11, 3) := by decide +kernel
theorem dX10_both_97 : decode cX10_both 97 = .ok (.aload_n 0, 1) := by decide +kernel
theorem dX10_both_98 : decode cX10_both 98 = .ok (.getfield 252, 3) := by decide +kernel
theorem dX10_both_101 : decode cX10_both 101 = .ok (.i2l, 1) := by decide +kernel
theorem dX10_both_102 : decode cX10_both 102 = .ok (.goto 7, 3) := by decide +kernel
theorem dX10_both_105 : decode cX10_both 105 = .ok (.aload_n 0, 1) := by decide +kernel
theorem dX10_both_106 : decode cX10_both 106 = .ok (.invokevirtual 319, 3) := by decide +kernel
theorem dX10_both_109 : decode cX10_both 109 = .ok (.lreturn, 1) := by decide +kernel
set_option maxRecDepth 20000 in
theorem dX10_apartFrom_0 : decode cX10_apartFrom 0 = .ok (.aload_n 0, 1) := by decide +kernel
theorem dX10_apartFrom_1 : decode cX10_apartFrom 1 = .ok (.getfield 32, 3) := by decide +kernel
theorem dX10_apartFrom_4 : decode cX10_apartFrom 4 = .ok (.bipush 61, 2) := by decide +kernel
theorem dX10_apartFrom_6 : decode cX10_apartFrom 6 = .ok (.iload_n 1, 1) := by decide +kernel
theorem dX10_apartFrom_7 : decode cX10_apartFrom 7 = .ok (.imul, 1) := by decide +kernel
theorem dX10_apartFrom_8 : decode cX10_apartFrom 8 = .ok (.iaload, 1) := by decide +kernel
theorem dX10_apartFrom_9 : decode cX10_apartFrom 9 = .ok (.istore_n 2, 1) := by decide +kernel
theorem dX10_apartFrom_10 : decode cX10_apartFrom 10 = .ok (.lconst 0, 1) := by decide +kernel
theorem dX10_apartFrom_11 : decode cX10_apartFrom 11 = .ok (.lstore_n 3, 1) := by decide +kernel
theorem dX10_apartFrom_12 : decode cX10_apartFrom 12 = .ok (.iconst 1, 1) := by decide +kernel
theorem dX10_apartFrom_13 : decode cX10_apartFrom 13 = .ok (.istore 5, 2) := by decide +kernel
theorem dX10_apartFrom_15 : decode cX10_apartFrom 15 = .ok (.iload 5, 2) := by decide +kernel
theorem dX10_apartFrom_17 : decode cX10_apartFrom 17 = .ok (.iload_n 2, 1) := by decide +kernel
theorem dX10_apartFrom_18 : decode cX10_apartFrom 18 = .ok (.if_icmp .gt 36, 3) := by decide +kernel
theorem dX10_apartFrom_21 : decode cX10_apartFrom 21 = .ok (.lload_n 3, 1) := by decide +kernel
theorem dX10_apartFrom_22 : decode cX10_apartFrom 22 = .ok (.aload_n 0, 1) := by decide +kernel
theorem dX10_apartFrom_23 : decode cX10_apartFrom 23 = .ok (.getfield 56, 3) := by decide +kernel
theorem dX10_apartFrom_26 : decode cX10_apartFrom 26 = .ok (.iload 5, 2) := by decide +kernel
theorem dX10_apartFrom_28 : decode cX10_apartFrom 28 = .ok (.iaload, 1) := by decide +kernel
theorem dX10_apartFrom_29 : decode cX10_apartFrom 29 = .ok (.aload_n 0, 1) := by decide +kernel
theorem dX10_apartFrom_30 : decode cX10_apartFrom 30 = .ok (.getfield 32, 3) := by decide +kernel
theorem dX10_apartFrom_33 : decode cX10_apartFrom 33 = .ok (.bipush 61, 2) := by decide +kernel
theorem dX10_apartFrom_35 : decode cX10_apartFrom 35 = .ok (.iload_n 1, 1) := by decide +kernel
theorem dX10_apartFrom_36 : decode cX10_apartFrom 36 = .ok (.imul, 1) := by decide +kernel
theorem dX10_apartFrom_37 : decode cX10_apartFrom 37 = .ok (.iload 5, 2) := by decide +kernel
theorem dX10_apartFrom_39 : decode cX10_apartFrom 39 = .ok (.iadd, 1) := by decide +kernel
theorem dX10_apartFrom_40 : decode cX10_apartFrom 40 = .ok (.iaload, 1) := by decide +kernel
theorem dX10_apartFrom_41 : decode cX10_apartFrom 41 = .ok (.isub, 1) := by decide +kernel
theorem dX10_apartFrom_42 : decode cX10_apartFrom 42 = .ok (.invokestatic 289, 3) := by decide +kernel
theorem dX10_apartFrom_45 : decode cX10_apartFrom 45 = .ok (.i2l, 1) := by decide +kernel
theorem dX10_apartFrom_46 : decode cX10_apartFrom 46 = .ok (.ladd, 1) := by decide +kernel
theorem dX10_apartFrom_47 : decode cX10_apartFrom 47 = .ok (.lstore_n 3, 1) := by decide +kernel
theorem dX10_apartFrom_48 : decode cX10_apartFrom 48 = .ok (.iinc 5 1, 3) := by decide +kernel
theorem dX10_apartFrom_51 : decode cX10_apartFrom 51 = .ok (.goto (-36), 3) := by decide +kernel
theorem dX10_apartFrom_54 : decode cX10_apartFrom 54 = .ok (.lload_n 3, 1) := by decide +kernel
theorem dX10_apartFrom_55 : decode cX10_apartFrom 55 = .ok (.lreturn, 1) := by decide +kernel
set_option maxRecDepth 20000 in
theorem dX10_apart_0 : decode cX10_apart 0 = .ok (.aload_n 0, 1) := by decide +kernel
theorem dX10_apart_1 : decode cX10_apart 1 = .ok (.iconst 0, 1) := by decide +kernel
theorem dX10_apart_2 : decode cX10_apart 2 = .ok (.putfield 81, 3) := by decide +kernel
theorem dX10_apart_5 : decode cX10_apart 5 = .ok (.aload_n 0, 1) := by decide +kernel
theorem dX10_apart_6 : decode cX10_apart 6 = .ok (.iconst 2, 1) := by decide +kernel
theorem dX10_apart_7 : decode cX10_apart 7 = .ok (.iload_n 3, 1) := by decide +kernel
theorem dX10_apart_8 : decode cX10_apart 8 = .ok (.invokevirtual 226, 3) := by decide +kernel
theorem dX10_apart_11 : decode cX10_apart 11 = .ok (.ifCond .eq 13, 3) := by decide +kernel
theorem dX10_apart_14 : decode cX10_apart 14 = .ok (.aload_n 0, 1) := by decide +kernel
theorem dX10_apart_15 : decode cX10_apart 15 = .ok (.iload_n 1, 1) := by decide +kernel
theorem dX10_apart_16 : decode cX10_apart 16 = .ok (.iload_n 2, 1) := by decide +kernel
theorem dX10_apart_17 : decode cX10_apart 17 = .ok (.iconst 0, 1) := by decide +kernel
theorem dX10_apart_18 : decode cX10_apart 18 = .ok (.invokevirtual 329, 3) := by decide +kernel
theorem dX10_apart_21 : decode cX10_apart 21 = .ok (.ifCond .ne 5, 3) := by decide +kernel
theorem dX10_apart_24 : decode cX10_apart 24 = .ok (.iconst (-1), 1) := by decide +kernel
theorem dX10_apart_25 : decode cX10_apart 25 = .ok (.ireturn, 1) := by decide +kernel
theorem dX10_apart_26 : decode cX10_apart 26 = .ok (.aload_n 0, 1) := by decide +kernel
theorem dX10_apart_27 : decode cX10_apart 27 = .ok (.getfield 32, 3) := by decide +kernel
theorem dX10_apart_30 : decode cX10_apart 30 = .ok (.bipush 61, 2) := by decide +kernel
theorem dX10_apart_32 : decode cX10_apart 32 = .ok (.iload_n 3, 1) := by decide +kernel
theorem dX10_apart_33 : decode cX10_apart 33 = .ok (.imul, 1) := by decide +kernel
theorem dX10_apart_34 : decode cX10_apart 34 = .ok (.iaload, 1) := by decide +kernel
theorem dX10_apart_35 : decode cX10_apart 35 = .ok (.istore 5, 2) := by decide +kernel
theorem dX10_apart_37 : decode cX10_apart 37 = .ok (.aload_n 0, 1) := by decide +kernel
theorem dX10_apart_38 : decode cX10_apart 38 = .ok (.iconst 1, 1) := by decide +kernel
theorem dX10_apart_39 : decode cX10_apart 39 = .ok (.iconst 0, 1) := by decide +kernel
theorem dX10_apart_40 : decode cX10_apart 40 = .ok (.iload 5, 2) := by decide +kernel
theorem dX10_apart_42 : decode cX10_apart 42 = .ok (.invokevirtual 315, 3) := by decide +kernel
theorem dX10_apart_45 : decode cX10_apart 45 = .ok (.iload 4, 2) := by decide +kernel
theorem dX10_apart_47 : decode cX10_apart 47 = .ok (.ifCond .ne 10, 3) := by decide +kernel
theorem dX10_apart_50 : decode cX10_apart 50 = .ok (.aload_n 0, 1) := by decide +kernel
theorem dX10_apart_51 : decode cX10_apart 51 = .ok (.iload_n 3, 1) := by decide +kernel
theorem dX10_apart_52 : decode cX10_apart 52 = .ok (.invokevirtual 366, 3) := by decide +kernel
theorem dX10_apart_55 : decode cX10_apart 55 = .ok (.l2i, 1) := by decide +kernel
theorem dX10_apart_56 : decode cX10_apart 56 = .ok (.ireturn, 1) := by decide +kernel
theorem dX10_apart_57 : decode cX10_apart 57 = .ok (.iconst 0, 1) := by decide +kernel
theorem dX10_apart_58 : decode cX10_apart 58 = .ok (.istore 6, 2) := by decide +kernel
theorem dX10_apart_60 : decode cX10_apart 60 = .ok (.iload 6, 2) := by decide +kernel
theorem dX10_apart_62 : decode cX10_apart 62 = .ok (.iload 5, 2) := by decide +kernel
theorem dX10_apart_64 : decode cX10_apart 64 = .ok (.if_icmp .ge 35, 3) := by decide +kernel
theorem dX10_apart_67 : decode cX10_apart 67 = .ok (.aload_n 0, 1) := by decide +kernel
theorem dX10_apart_68 : decode cX10_apart 68 = .ok (.getfield 56, 3) := by decide +kernel
theorem dX10_apart_71 : decode cX10_apart 71 = .ok (.iload 6, 2) := by decide +kernel
theorem dX10_apart_73 : decode cX10_apart 73 = .ok (.iconst 1, 1) := by decide +kernel
theorem dX10_apart_74 : decode cX10_apart 74 = .ok (.iadd, 1) := by decide +kernel
theorem dX10_apart_75 : decode cX10_apart 75 = .ok (.iaload, 1) := by decide +kernel
theorem dX10_apart_76 : decode cX10_apart 76 = .ok (.aload_n 0, 1) := by decide +kernel
theorem dX10_apart_77 : decode cX10_apart 77 = .ok (.getfield 32, 3) := by decide +kernel
theorem dX10_apart_80 : decode cX10_apart 80 = .ok (.bipush 61, 2) := by decide +kernel
theorem dX10_apart_82 : decode cX10_apart 82 = .ok (.iload_n 3, 1) := by decide +kernel
theorem dX10_apart_83 : decode cX10_apart 83 = .ok (.imul, 1) := by decide +kernel
theorem dX10_apart_84 : decode cX10_apart 84 = .ok (.iconst 1, 1) := by decide +kernel
theorem dX10_apart_85 : decode cX10_apart 85 = .ok (.iadd, 1) := by decide +kernel
theorem dX10_apart_86 : decode cX10_apart 86 = .ok (.iload 6, 2) := by decide +kernel
theorem dX10_apart_88 : decode cX10_apart 88 = .ok (.iadd, 1) := by decide +kernel
theorem dX10_apart_89 : decode cX10_apart 89 = .ok (.iaload, 1) := by decide +kernel
theorem dX10_apart_90 : decode cX10_apart 90 = .ok (.if_icmp .ne 9, 3) := by decide +kernel
theorem dX10_apart_93 : decode cX10_apart 93 = .ok (.iinc 6 1, 3) := by decide +kernel
theorem dX10_apart_96 : decode cX10_apart 96 = .ok (.goto (-36), 3) := by decide +kernel
theorem dX10_apart_99 : decode cX10_apart 99 = .ok (.iload 6, 2) := by decide +kernel
theorem dX10_apart_101 : decode cX10_apart 101 = .ok (.ireturn, 1) := by decide +kernel
set_option maxRecDepth 20000 in
theorem dX10_whose_0 : decode cX10_whose 0 = .ok (.aload_n 0, 1) := by decide +kernel
theorem dX10_whose_1 : decode cX10_whose 1 = .ok (.iconst 0, 1) := by decide +kernel
theorem dX10_whose_2 : decode cX10_whose 2 = .ok (.putfield 81, 3) := by decide +kernel
theorem dX10_whose_5 : decode cX10_whose 5 = .ok (.aload_n 0, 1) := by decide +kernel
theorem dX10_whose_6 : decode cX10_whose 6 = .ok (.iconst 0, 1) := by decide +kernel
theorem dX10_whose_7 : decode cX10_whose 7 = .ok (.iload_n 1, 1) := by decide +kernel
theorem dX10_whose_8 : decode cX10_whose 8 = .ok (.invokevirtual 226, 3) := by decide +kernel
theorem dX10_whose_11 : decode cX10_whose 11 = .ok (.ifCond .eq 12, 3) := by decide +kernel
theorem dX10_whose_14 : decode cX10_whose 14 = .ok (.aload_n 0, 1) := by decide +kernel
theorem dX10_whose_15 : decode cX10_whose 15 = .ok (.iconst 2, 1) := by decide +kernel
theorem dX10_whose_16 : decode cX10_whose 16 = .ok (.iload_n 2, 1) := by decide +kernel
theorem dX10_whose_17 : decode cX10_whose 17 = .ok (.invokevirtual 226, 3) := by decide +kernel
theorem dX10_whose_20 : decode cX10_whose 20 = .ok (.ifCond .ne 5, 3) := by decide +kernel
theorem dX10_whose_23 : decode cX10_whose 23 = .ok (.iconst (-1), 1) := by decide +kernel
theorem dX10_whose_24 : decode cX10_whose 24 = .ok (.ireturn, 1) := by decide +kernel
theorem dX10_whose_25 : decode cX10_whose 25 = .ok (.iconst (-1), 1) := by decide +kernel
theorem dX10_whose_26 : decode cX10_whose 26 = .ok (.istore_n 3, 1) := by decide +kernel
theorem dX10_whose_27 : decode cX10_whose 27 = .ok (.lconst 0, 1) := by decide +kernel
theorem dX10_whose_28 : decode cX10_whose 28 = .ok (.lstore 4, 2) := by decide +kernel
theorem dX10_whose_30 : decode cX10_whose 30 = .ok (.iconst 0, 1) := by decide +kernel
theorem dX10_whose_31 : decode cX10_whose 31 = .ok (.istore 6, 2) := by decide +kernel
theorem dX10_whose_33 : decode cX10_whose 33 = .ok (.iload 6, 2) := by decide +kernel
theorem dX10_whose_35 : decode cX10_whose 35 = .ok (.aload_n 0, 1) := by decide +kernel
theorem dX10_whose_36 : decode cX10_whose 36 = .ok (.getfield 23, 3) := by decide +kernel
theorem dX10_whose_39 : decode cX10_whose 39 = .ok (.iconst 1, 1) := by decide +kernel
theorem dX10_whose_40 : decode cX10_whose 40 = .ok (.iaload, 1) := by decide +kernel
theorem dX10_whose_41 : decode cX10_whose 41 = .ok (.if_icmp .ge 61, 3) := by decide +kernel
theorem dX10_whose_44 : decode cX10_whose 44 = .ok (.aload_n 0, 1) := by decide +kernel
theorem dX10_whose_45 : decode cX10_whose 45 = .ok (.iload_n 1, 1) := by decide +kernel
theorem dX10_whose_46 : decode cX10_whose 46 = .ok (.iload 6, 2) := by decide +kernel
theorem dX10_whose_48 : decode cX10_whose 48 = .ok (.iconst 0, 1) := by decide +kernel
theorem dX10_whose_49 : decode cX10_whose 49 = .ok (.invokevirtual 329, 3) := by decide +kernel
theorem dX10_whose_52 : decode cX10_whose 52 = .ok (.istore 7, 2) := by decide +kernel
theorem dX10_whose_54 : decode cX10_whose 54 = .ok (.aload_n 0, 1) := by decide +kernel
theorem dX10_whose_55 : decode cX10_whose 55 = .ok (.iload 7, 2) := by decide +kernel
theorem dX10_whose_57 : decode cX10_whose 57 = .ok (.iconst 0, 1) := by decide +kernel
theorem dX10_whose_58 : decode cX10_whose 58 = .ok (.aload_n 0, 1) := by decide +kernel
theorem dX10_whose_59 : decode cX10_whose 59 = .ok (.getfield 32, 3) := by decide +kernel
theorem dX10_whose_62 : decode cX10_whose 62 = .ok (.bipush 61, 2) := by decide +kernel
theorem dX10_whose_64 : decode cX10_whose 64 = .ok (.iload_n 2, 1) := by decide +kernel
theorem dX10_whose_65 : decode cX10_whose 65 = .ok (.imul, 1) := by decide +kernel
theorem dX10_whose_66 : decode cX10_whose 66 = .ok (.iaload, 1) := by decide +kernel
theorem dX10_whose_67 : decode cX10_whose 67 = .ok (.invokevirtual 315, 3) := by decide +kernel
theorem dX10_whose_70 : decode cX10_whose 70 = .ok (.iload_n 3, 1) := by decide +kernel
theorem dX10_whose_71 : decode cX10_whose 71 = .ok (.iconst (-1), 1) := by decide +kernel
theorem dX10_whose_72 : decode cX10_whose 72 = .ok (.if_icmp .eq 14, 3) := by decide +kernel
theorem dX10_whose_75 : decode cX10_whose 75 = .ok (.aload_n 0, 1) := by decide +kernel
theorem dX10_whose_76 : decode cX10_whose 76 = .ok (.iload_n 2, 1) := by decide +kernel
theorem dX10_whose_77 : decode cX10_whose 77 = .ok (.invokevirtual 366, 3) := by decide +kernel
theorem dX10_whose_80 : decode cX10_whose 80 = .ok (.lload 4, 2) := by decide +kernel
theorem dX10_whose_82 : decode cX10_whose 82 = .ok (.lcmp, 1) := by decide +kernel
theorem dX10_whose_83 : decode cX10_whose 83 = .ok (.ifCond .ge 13, 3) := by decide +kernel
theorem dX10_whose_86 : decode cX10_whose 86 = .ok (.iload 6, 2) := by decide +kernel
theorem dX10_whose_88 : decode cX10_whose 88 = .ok (.istore_n 3, 1) := by decide +kernel
theorem dX10_whose_89 : decode cX10_whose 89 = .ok (.aload_n 0, 1) := by decide +kernel
theorem dX10_whose_90 : decode cX10_whose 90 = .ok (.iload_n 2, 1) := by decide +kernel
theorem dX10_whose_91 : decode cX10_whose 91 = .ok (.invokevirtual 366, 3) := by decide +kernel
theorem dX10_whose_94 : decode cX10_whose 94 = .ok (.lstore 4, 2) := by decide +kernel
theorem dX10_whose_96 : decode cX10_whose 96 = .ok (.iinc 6 1, 3) := by decide +kernel
theorem dX10_whose_99 : decode cX10_whose 99 = .ok (.goto (-66), 3) := by decide +kernel
theorem dX10_whose_102 : decode cX10_whose 102 = .ok (.iload_n 3, 1) := by decide +kernel
theorem dX10_whose_103 : decode cX10_whose 103 = .ok (.ireturn, 1) := by decide +kernel
set_option maxRecDepth 20000 in
theorem dX10_tells_0 : decode cX10_tells 0 = .ok (.aload_n 0, 1) := by decide +kernel
theorem dX10_tells_1 : decode cX10_tells 1 = .ok (.iconst 0, 1) := by decide +kernel
theorem dX10_tells_2 : decode cX10_tells 2 = .ok (.putfield 81, 3) := by decide +kernel
theorem dX10_tells_5 : decode cX10_tells 5 = .ok (.aload_n 0, 1) := by decide +kernel
theorem dX10_tells_6 : decode cX10_tells 6 = .ok (.iconst 2, 1) := by decide +kernel
theorem dX10_tells_7 : decode cX10_tells 7 = .ok (.iload_n 3, 1) := by decide +kernel
theorem dX10_tells_8 : decode cX10_tells 8 = .ok (.invokevirtual 226, 3) := by decide +kernel
theorem dX10_tells_11 : decode cX10_tells 11 = .ok (.ifCond .eq 13, 3) := by decide +kernel
theorem dX10_tells_14 : decode cX10_tells 14 = .ok (.aload_n 0, 1) := by decide +kernel
theorem dX10_tells_15 : decode cX10_tells 15 = .ok (.iload_n 1, 1) := by decide +kernel
theorem dX10_tells_16 : decode cX10_tells 16 = .ok (.iload_n 2, 1) := by decide +kernel
theorem dX10_tells_17 : decode cX10_tells 17 = .ok (.iconst 0, 1) := by decide +kernel
theorem dX10_tells_18 : decode cX10_tells 18 = .ok (.invokevirtual 329, 3) := by decide +kernel
theorem dX10_tells_21 : decode cX10_tells 21 = .ok (.ifCond .ne 5, 3) := by decide +kernel
theorem dX10_tells_24 : decode cX10_tells 24 = .ok (.iconst (-1), 1) := by decide +kernel
theorem dX10_tells_25 : decode cX10_tells 25 = .ok (.ireturn, 1) := by decide +kernel
theorem dX10_tells_26 : decode cX10_tells 26 = .ok (.iconst (-1), 1) := by decide +kernel
theorem dX10_tells_27 : decode cX10_tells 27 = .ok (.istore 4, 2) := by decide +kernel
theorem dX10_tells_29 : decode cX10_tells 29 = .ok (.lconst 0, 1) := by decide +kernel
theorem dX10_tells_30 : decode cX10_tells 30 = .ok (.lstore 5, 2) := by decide +kernel
theorem dX10_tells_32 : decode cX10_tells 32 = .ok (.iconst 0, 1) := by decide +kernel
theorem dX10_tells_33 : decode cX10_tells 33 = .ok (.istore 7, 2) := by decide +kernel
theorem dX10_tells_35 : decode cX10_tells 35 = .ok (.iload 7, 2) := by decide +kernel
theorem dX10_tells_37 : decode cX10_tells 37 = .ok (.bipush 99, 2) := by decide +kernel
theorem dX10_tells_39 : decode cX10_tells 39 = .ok (.if_icmp .gt 60, 3) := by decide +kernel
theorem dX10_tells_42 : decode cX10_tells 42 = .ok (.aload_n 0, 1) := by decide +kernel
theorem dX10_tells_43 : decode cX10_tells 43 = .ok (.getfield 41, 3) := by decide +kernel
theorem dX10_tells_46 : decode cX10_tells 46 = .ok (.iconst 0, 1) := by decide +kernel
theorem dX10_tells_47 : decode cX10_tells 47 = .ok (.iload 7, 2) := by decide +kernel
theorem dX10_tells_49 : decode cX10_tells 49 = .ok (.iastore, 1) := by decide +kernel
theorem dX10_tells_50 : decode cX10_tells 50 = .ok (.aload_n 0, 1) := by decide +kernel
theorem dX10_tells_51 : decode cX10_tells 51 = .ok (.iconst 1, 1) := by decide +kernel
theorem dX10_tells_52 : decode cX10_tells 52 = .ok (.iconst 0, 1) := by decide +kernel
theorem dX10_tells_53 : decode cX10_tells 53 = .ok (.aload_n 0, 1) := by decide +kernel
theorem dX10_tells_54 : decode cX10_tells 54 = .ok (.getfield 32, 3) := by decide +kernel
theorem dX10_tells_57 : decode cX10_tells 57 = .ok (.bipush 61, 2) := by decide +kernel
theorem dX10_tells_59 : decode cX10_tells 59 = .ok (.iload_n 3, 1) := by decide +kernel
theorem dX10_tells_60 : decode cX10_tells 60 = .ok (.imul, 1) := by decide +kernel
theorem dX10_tells_61 : decode cX10_tells 61 = .ok (.iaload, 1) := by decide +kernel
theorem dX10_tells_62 : decode cX10_tells 62 = .ok (.invokevirtual 315, 3) := by decide +kernel
theorem dX10_tells_65 : decode cX10_tells 65 = .ok (.iload 4, 2) := by decide +kernel
theorem dX10_tells_67 : decode cX10_tells 67 = .ok (.iconst (-1), 1) := by decide +kernel
theorem dX10_tells_68 : decode cX10_tells 68 = .ok (.if_icmp .eq 14, 3) := by decide +kernel
theorem dX10_tells_71 : decode cX10_tells 71 = .ok (.aload_n 0, 1) := by decide +kernel
theorem dX10_tells_72 : decode cX10_tells 72 = .ok (.iload_n 3, 1) := by decide +kernel
theorem dX10_tells_73 : decode cX10_tells 73 = .ok (.invokevirtual 366, 3) := by decide +kernel
theorem dX10_tells_76 : decode cX10_tells 76 = .ok (.lload 5, 2) := by decide +kernel
theorem dX10_tells_78 : decode cX10_tells 78 = .ok (.lcmp, 1) := by decide +kernel
theorem dX10_tells_79 : decode cX10_tells 79 = .ok (.ifCond .ge 14, 3) := by decide +kernel
theorem dX10_tells_82 : decode cX10_tells 82 = .ok (.iload 7, 2) := by decide +kernel
theorem dX10_tells_84 : decode cX10_tells 84 = .ok (.istore 4, 2) := by decide +kernel
theorem dX10_tells_86 : decode cX10_tells 86 = .ok (.aload_n 0, 1) := by decide +kernel
theorem dX10_tells_87 : decode cX10_tells 87 = .ok (.iload_n 3, 1) := by decide +kernel
theorem dX10_tells_88 : decode cX10_tells 88 = .ok (.invokevirtual 366, 3) := by decide +kernel
theorem dX10_tells_91 : decode cX10_tells 91 = .ok (.lstore 5, 2) := by decide +kernel
theorem dX10_tells_93 : decode cX10_tells 93 = .ok (.iinc 7 1, 3) := by decide +kernel
theorem dX10_tells_96 : decode cX10_tells 96 = .ok (.goto (-61), 3) := by decide +kernel
theorem dX10_tells_99 : decode cX10_tells 99 = .ok (.iload 4, 2) := by decide +kernel
theorem dX10_tells_101 : decode cX10_tells 101 = .ok (.ireturn, 1) := by decide +kernel
set_option maxRecDepth 20000 in
theorem dX10_slipped_0 : decode cX10_slipped 0 = .ok (.aload_n 0, 1) := by decide +kernel
theorem dX10_slipped_1 : decode cX10_slipped 1 = .ok (.iconst 0, 1) := by decide +kernel
theorem dX10_slipped_2 : decode cX10_slipped 2 = .ok (.putfield 81, 3) := by decide +kernel
theorem dX10_slipped_5 : decode cX10_slipped 5 = .ok (.aload_n 0, 1) := by decide +kernel
theorem dX10_slipped_6 : decode cX10_slipped 6 = .ok (.iload_n 1, 1) := by decide +kernel
theorem dX10_slipped_7 : decode cX10_slipped 7 = .ok (.iload_n 2, 1) := by decide +kernel
theorem dX10_slipped_8 : decode cX10_slipped 8 = .ok (.iload 5, 2) := by decide +kernel
theorem dX10_slipped_10 : decode cX10_slipped 10 = .ok (.invokevirtual 338, 3) := by decide +kernel
theorem dX10_slipped_13 : decode cX10_slipped 13 = .ok (.ifCond .eq 14, 3) := by decide +kernel
theorem dX10_slipped_16 : decode cX10_slipped 16 = .ok (.iload 4, 2) := by decide +kernel
theorem dX10_slipped_18 : decode cX10_slipped 18 = .ok (.iconst 1, 1) := by decide +kernel
theorem dX10_slipped_19 : decode cX10_slipped 19 = .ok (.bipush 20, 2) := by decide +kernel
theorem dX10_slipped_21 : decode cX10_slipped 21 = .ok (.invokestatic 89, 3) := by decide +kernel
theorem dX10_slipped_24 : decode cX10_slipped 24 = .ok (.ifCond .ne 7, 3) := by decide +kernel
theorem dX10_slipped_27 : decode cX10_slipped 27 = .ok (.ldc2_w 358, 3) := by decide +kernel
theorem dX10_slipped_30 : decode cX10_slipped 30 = .ok (.lreturn, 1) := by decide +kernel
theorem dX10_slipped_31 : decode cX10_slipped 31 = .ok (.lconst 0, 1) := by decide +kernel
theorem dX10_slipped_32 : decode cX10_slipped 32 = .ok (.lstore 7, 2) := by decide +kernel
theorem dX10_slipped_34 : decode cX10_slipped 34 = .ok (.iload_n 3, 1) := by decide +kernel
theorem dX10_slipped_35 : decode cX10_slipped 35 = .ok (.istore 9, 2) := by decide +kernel
theorem dX10_slipped_37 : decode cX10_slipped 37 = .ok (.ldc2_w 341, 3) := by decide +kernel
theorem dX10_slipped_40 : decode cX10_slipped 40 = .ok (.lstore 10, 2) := by decide +kernel
theorem dX10_slipped_42 : decode cX10_slipped 42 = .ok (.iconst 0, 1) := by decide +kernel
theorem dX10_slipped_43 : decode cX10_slipped 43 = .ok (.istore 12, 2) := by decide +kernel
theorem dX10_slipped_45 : decode cX10_slipped 45 = .ok (.iload 12, 2) := by decide +kernel
theorem dX10_slipped_47 : decode cX10_slipped 47 = .ok (.iload 4, 2) := by decide +kernel
theorem dX10_slipped_49 : decode cX10_slipped 49 = .ok (.if_icmp .ge 58, 3) := by decide +kernel
theorem dX10_slipped_52 : decode cX10_slipped 52 = .ok (.aload_n 0, 1) := by decide +kernel
theorem dX10_slipped_53 : decode cX10_slipped 53 = .ok (.iconst 1, 1) := by decide +kernel
theorem dX10_slipped_54 : decode cX10_slipped 54 = .ok (.iload_n 3, 1) := by decide +kernel
theorem dX10_slipped_55 : decode cX10_slipped 55 = .ok (.iload 12, 2) := by decide +kernel
theorem dX10_slipped_57 : decode cX10_slipped 57 = .ok (.iadd, 1) := by decide +kernel
theorem dX10_slipped_58 : decode cX10_slipped 58 = .ok (.iload 5, 2) := by decide +kernel
theorem dX10_slipped_60 : decode cX10_slipped 60 = .ok (.invokevirtual 315, 3) := by decide +kernel
theorem dX10_slipped_63 : decode cX10_slipped 63 = .ok (.lload 7, 2) := by decide +kernel
theorem dX10_slipped_65 : decode cX10_slipped 65 = .ok (.aload_n 0, 1) := by decide +kernel
theorem dX10_slipped_66 : decode cX10_slipped 66 = .ok (.invokevirtual 319, 3) := by decide +kernel
theorem dX10_slipped_69 : decode cX10_slipped 69 = .ok (.ladd, 1) := by decide +kernel
theorem dX10_slipped_70 : decode cX10_slipped 70 = .ok (.lstore 7, 2) := by decide +kernel
theorem dX10_slipped_72 : decode cX10_slipped 72 = .ok (.lload 10, 2) := by decide +kernel
theorem dX10_slipped_74 : decode cX10_slipped 74 = .ok (.lconst 0, 1) := by decide +kernel
theorem dX10_slipped_75 : decode cX10_slipped 75 = .ok (.lcmp, 1) := by decide +kernel
theorem dX10_slipped_76 : decode cX10_slipped 76 = .ok (.ifCond .lt 13, 3) := by decide +kernel
theorem dX10_slipped_79 : decode cX10_slipped 79 = .ok (.aload_n 0, 1) := by decide +kernel
theorem dX10_slipped_80 : decode cX10_slipped 80 = .ok (.invokevirtual 319, 3) := by decide +kernel
theorem dX10_slipped_83 : decode cX10_slipped 83 = .ok (.lload 10, 2) := by decide +kernel
theorem dX10_slipped_85 : decode cX10_slipped 85 = .ok (.lcmp, 1) := by decide +kernel
theorem dX10_slipped_86 : decode cX10_slipped 86 = .ok (.ifCond .ge 15, 3) := by decide +kernel
theorem dX10_slipped_89 : decode cX10_slipped 89 = .ok (.iload_n 3, 1) := by decide +kernel
theorem dX10_slipped_90 : decode cX10_slipped 90 = .ok (.iload 12, 2) := by decide +kernel
theorem dX10_slipped_92 : decode cX10_slipped 92 = .ok (.iadd, 1) := by decide +kernel
theorem dX10_slipped_93 : decode cX10_slipped 93 = .ok (.istore 9, 2) := by decide +kernel
theorem dX10_slipped_95 : decode cX10_slipped 95 = .ok (.aload_n 0, 1) := by decide +kernel
theorem dX10_slipped_96 : decode cX10_slipped 96 = .ok (.invokevirtual 319, 3) := by decide +kernel
theorem dX10_slipped_99 : decode cX10_slipped 99 = .ok (.lstore 10, 2) := by decide +kernel
theorem dX10_slipped_101 : decode cX10_slipped 101 = .ok (.iinc 12 1, 3) := by decide +kernel
theorem dX10_slipped_104 : decode cX10_slipped 104 = .ok (.goto (-59), 3) := by decide +kernel
theorem dX10_slipped_107 : decode cX10_slipped 107 = .ok (.iload 6, 2) := by decide +kernel
theorem dX10_slipped_109 : decode cX10_slipped 109 = .ok (.ifCond .eq 9, 3) := by decide +kernel
theorem dX10_slipped_112 : decode cX10_slipped 112 = .ok (.iload 9, 2) := by decide +kernel
theorem dX10_slipped_114 : decode cX10_slipped 114 = .ok (.i2l, 1) := by decide +kernel
theorem dX10_slipped_115 : decode cX10_slipped 115 = .ok (.goto 5, 3) := by decide +kernel
theorem dX10_slipped_118 : decode cX10_slipped 118 = .ok (.lload 7, 2) := by decide +kernel
theorem dX10_slipped_120 : decode cX10_slipped 120 = .ok (.lreturn, 1) := by decide +kernel
set_option maxRecDepth 20000 in
theorem dX10_lead_0 : decode cX10_lead 0 = .ok (.aload_n 0, 1) := by decide +kernel
theorem dX10_lead_1 : decode cX10_lead 1 = .ok (.iconst 0, 1) := by decide +kernel
theorem dX10_lead_2 : decode cX10_lead 2 = .ok (.putfield 81, 3) := by decide +kernel
theorem dX10_lead_5 : decode cX10_lead 5 = .ok (.aload_n 0, 1) := by decide +kernel
theorem dX10_lead_6 : decode cX10_lead 6 = .ok (.iload_n 1, 1) := by decide +kernel
theorem dX10_lead_7 : decode cX10_lead 7 = .ok (.iload_n 2, 1) := by decide +kernel
theorem dX10_lead_8 : decode cX10_lead 8 = .ok (.iload_n 3, 1) := by decide +kernel
theorem dX10_lead_9 : decode cX10_lead 9 = .ok (.invokevirtual 338, 3) := by decide +kernel
theorem dX10_lead_12 : decode cX10_lead 12 = .ok (.ifCond .eq 14, 3) := by decide +kernel
theorem dX10_lead_15 : decode cX10_lead 15 = .ok (.iload 4, 2) := by decide +kernel
theorem dX10_lead_17 : decode cX10_lead 17 = .ok (.iconst 0, 1) := by decide +kernel
theorem dX10_lead_18 : decode cX10_lead 18 = .ok (.bipush 9, 2) := by decide +kernel
theorem dX10_lead_20 : decode cX10_lead 20 = .ok (.invokestatic 89, 3) := by decide +kernel
theorem dX10_lead_23 : decode cX10_lead 23 = .ok (.ifCond .ne 5, 3) := by decide +kernel
theorem dX10_lead_26 : decode cX10_lead 26 = .ok (.iconst (-1), 1) := by decide +kernel
theorem dX10_lead_27 : decode cX10_lead 27 = .ok (.ireturn, 1) := by decide +kernel
theorem dX10_lead_28 : decode cX10_lead 28 = .ok (.aload_n 0, 1) := by decide +kernel
theorem dX10_lead_29 : decode cX10_lead 29 = .ok (.getfield 41, 3) := by decide +kernel
theorem dX10_lead_32 : decode cX10_lead 32 = .ok (.iconst 2, 1) := by decide +kernel
theorem dX10_lead_33 : decode cX10_lead 33 = .ok (.iload 4, 2) := by decide +kernel
theorem dX10_lead_35 : decode cX10_lead 35 = .ok (.iastore, 1) := by decide +kernel
theorem dX10_lead_36 : decode cX10_lead 36 = .ok (.iconst 0, 1) := by decide +kernel
theorem dX10_lead_37 : decode cX10_lead 37 = .ok (.istore 5, 2) := by decide +kernel
theorem dX10_lead_39 : decode cX10_lead 39 = .ok (.iload 5, 2) := by decide +kernel
theorem dX10_lead_41 : decode cX10_lead 41 = .ok (.bipush 99, 2) := by decide +kernel
theorem dX10_lead_43 : decode cX10_lead 43 = .ok (.if_icmp .gt 33, 3) := by decide +kernel
theorem dX10_lead_46 : decode cX10_lead 46 = .ok (.aload_n 0, 1) := by decide +kernel
theorem dX10_lead_47 : decode cX10_lead 47 = .ok (.iconst 1, 1) := by decide +kernel
theorem dX10_lead_48 : decode cX10_lead 48 = .ok (.iload 5, 2) := by decide +kernel
theorem dX10_lead_50 : decode cX10_lead 50 = .ok (.invokevirtual 343, 3) := by decide +kernel
theorem dX10_lead_53 : decode cX10_lead 53 = .ok (.aload_n 0, 1) := by decide +kernel
theorem dX10_lead_54 : decode cX10_lead 54 = .ok (.iconst 1, 1) := by decide +kernel
theorem dX10_lead_55 : decode cX10_lead 55 = .ok (.iconst 0, 1) := by decide +kernel
theorem dX10_lead_56 : decode cX10_lead 56 = .ok (.iload_n 3, 1) := by decide +kernel
theorem dX10_lead_57 : decode cX10_lead 57 = .ok (.invokevirtual 315, 3) := by decide +kernel
theorem dX10_lead_60 : decode cX10_lead 60 = .ok (.aload_n 0, 1) := by decide +kernel
theorem dX10_lead_61 : decode cX10_lead 61 = .ok (.invokevirtual 335, 3) := by decide +kernel
theorem dX10_lead_64 : decode cX10_lead 64 = .ok (.ifCond .ne 6, 3) := by decide +kernel
theorem dX10_lead_67 : decode cX10_lead 67 = .ok (.iload 5, 2) := by decide +kernel
theorem dX10_lead_69 : decode cX10_lead 69 = .ok (.ireturn, 1) := by decide +kernel
theorem dX10_lead_70 : decode cX10_lead 70 = .ok (.iinc 5 1, 3) := by decide +kernel
theorem dX10_lead_73 : decode cX10_lead 73 = .ok (.goto (-34), 3) := by decide +kernel
theorem dX10_lead_76 : decode cX10_lead 76 = .ok (.iconst (-1), 1) := by decide +kernel
theorem dX10_lead_77 : decode cX10_lead 77 = .ok (.ireturn, 1) := by decide +kernel
set_option maxRecDepth 20000 in
theorem dX10_bound_0 : decode cX10_bound 0 = .ok (.aload_n 0, 1) := by decide +kernel
theorem dX10_bound_1 : decode cX10_bound 1 = .ok (.iconst 0, 1) := by decide +kernel
theorem dX10_bound_2 : decode cX10_bound 2 = .ok (.putfield 81, 3) := by decide +kernel
theorem dX10_bound_5 : decode cX10_bound 5 = .ok (.aload_n 0, 1) := by decide +kernel
theorem dX10_bound_6 : decode cX10_bound 6 = .ok (.iload_n 1, 1) := by decide +kernel
theorem dX10_bound_7 : decode cX10_bound 7 = .ok (.iload_n 2, 1) := by decide +kernel
theorem dX10_bound_8 : decode cX10_bound 8 = .ok (.iload_n 3, 1) := by decide +kernel
theorem dX10_bound_9 : decode cX10_bound 9 = .ok (.invokevirtual 338, 3) := by decide +kernel
theorem dX10_bound_12 : decode cX10_bound 12 = .ok (.ifCond .eq 18, 3) := by decide +kernel
theorem dX10_bound_15 : decode cX10_bound 15 = .ok (.iload 4, 2) := by decide +kernel
theorem dX10_bound_17 : decode cX10_bound 17 = .ok (.ifCond .lt 13, 3) := by decide +kernel
theorem dX10_bound_20 : decode cX10_bound 20 = .ok (.iload 5, 2) := by decide +kernel
theorem dX10_bound_22 : decode cX10_bound 22 = .ok (.iconst 0, 1) := by decide +kernel
theorem dX10_bound_23 : decode cX10_bound 23 = .ok (.iconst 2, 1) := by decide +kernel
theorem dX10_bound_24 : decode cX10_bound 24 = .ok (.invokestatic 89, 3) := by decide +kernel
theorem dX10_bound_27 : decode cX10_bound 27 = .ok (.ifCond .ne 5, 3) := by decide +kernel
theorem dX10_bound_30 : decode cX10_bound 30 = .ok (.iconst (-1), 1) := by decide +kernel
theorem dX10_bound_31 : decode cX10_bound 31 = .ok (.ireturn, 1) := by decide +kernel
theorem dX10_bound_32 : decode cX10_bound 32 = .ok (.iconst (-1), 1) := by decide +kernel
theorem dX10_bound_33 : decode cX10_bound 33 = .ok (.istore 6, 2) := by decide +kernel
theorem dX10_bound_35 : decode cX10_bound 35 = .ok (.iload 5, 2) := by decide +kernel
theorem dX10_bound_37 : decode cX10_bound 37 = .ok (.ifCond .ne 54, 3) := by decide +kernel
theorem dX10_bound_40 : decode cX10_bound 40 = .ok (.iconst 0, 1) := by decide +kernel
theorem dX10_bound_41 : decode cX10_bound 41 = .ok (.istore 7, 2) := by decide +kernel
theorem dX10_bound_43 : decode cX10_bound 43 = .ok (.iload 7, 2) := by decide +kernel
theorem dX10_bound_45 : decode cX10_bound 45 = .ok (.bipush 99, 2) := by decide +kernel
theorem dX10_bound_47 : decode cX10_bound 47 = .ok (.if_icmp .gt 41, 3) := by decide +kernel
theorem dX10_bound_50 : decode cX10_bound 50 = .ok (.aload_n 0, 1) := by decide +kernel
theorem dX10_bound_51 : decode cX10_bound 51 = .ok (.iconst 3, 1) := by decide +kernel
theorem dX10_bound_52 : decode cX10_bound 52 = .ok (.iload 7, 2) := by decide +kernel
theorem dX10_bound_54 : decode cX10_bound 54 = .ok (.invokevirtual 343, 3) := by decide +kernel
theorem dX10_bound_57 : decode cX10_bound 57 = .ok (.aload_n 0, 1) := by decide +kernel
theorem dX10_bound_58 : decode cX10_bound 58 = .ok (.iconst 1, 1) := by decide +kernel
theorem dX10_bound_59 : decode cX10_bound 59 = .ok (.iconst 0, 1) := by decide +kernel
theorem dX10_bound_60 : decode cX10_bound 60 = .ok (.iload_n 3, 1) := by decide +kernel
theorem dX10_bound_61 : decode cX10_bound 61 = .ok (.invokevirtual 315, 3) := by decide +kernel
theorem dX10_bound_64 : decode cX10_bound 64 = .ok (.aload_n 0, 1) := by decide +kernel
theorem dX10_bound_65 : decode cX10_bound 65 = .ok (.getfield 252, 3) := by decide +kernel
theorem dX10_bound_68 : decode cX10_bound 68 = .ok (.iload 4, 2) := by decide +kernel
theorem dX10_bound_70 : decode cX10_bound 70 = .ok (.if_icmp .gt 8, 3) := by decide +kernel
theorem dX10_bound_73 : decode cX10_bound 73 = .ok (.iload 7, 2) := by decide +kernel
theorem dX10_bound_75 : decode cX10_bound 75 = .ok (.goto 5, 3) := by decide +kernel
theorem dX10_bound_78 : decode cX10_bound 78 = .ok (.iload 6, 2) := by decide +kernel
theorem dX10_bound_80 : decode cX10_bound 80 = .ok (.istore 6, 2) := by decide +kernel
theorem dX10_bound_82 : decode cX10_bound 82 = .ok (.iinc 7 1, 3) := by decide +kernel
theorem dX10_bound_85 : decode cX10_bound 85 = .ok (.goto (-42), 3) := by decide +kernel
theorem dX10_bound_88 : decode cX10_bound 88 = .ok (.iload 6, 2) := by decide +kernel
theorem dX10_bound_90 : decode cX10_bound 90 = .ok (.ireturn, 1) := by decide +kernel
theorem dX10_bound_91 : decode cX10_bound 91 = .ok (.bipush 35, 2) := by decide +kernel
theorem dX10_bound_93 : decode cX10_bound 93 = .ok (.istore 7, 2) := by decide +kernel
theorem dX10_bound_95 : decode cX10_bound 95 = .ok (.iload 7, 2) := by decide +kernel
theorem dX10_bound_97 : decode cX10_bound 97 = .ok (.iconst 1, 1) := by decide +kernel
theorem dX10_bound_98 : decode cX10_bound 98 = .ok (.if_icmp .lt 52, 3) := by decide +kernel
theorem dX10_bound_101 : decode cX10_bound 101 = .ok (.aload_n 0, 1) := by decide +kernel
theorem dX10_bound_102 : decode cX10_bound 102 = .ok (.getfield 41, 3) := by decide +kernel
theorem dX10_bound_105 : decode cX10_bound 105 = .ok (.iload 5, 2) := by decide +kernel
theorem dX10_bound_107 : decode cX10_bound 107 = .ok (.iconst 1, 1) := by decide +kernel
theorem dX10_bound_108 : decode cX10_bound 108 = .ok (.if_icmp .ne 7, 3) := by decide +kernel
theorem dX10_bound_111 : decode cX10_bound 111 = .ok (.iconst 3, 1) := by decide +kernel
theorem dX10_bound_112 : decode cX10_bound 112 = .ok (.goto 4, 3) := by decide +kernel
theorem dX10_bound_115 : decode cX10_bound 115 = .ok (.iconst 4, 1) := by decide +kernel
theorem dX10_bound_116 : decode cX10_bound 116 = .ok (.iload 7, 2) := by decide +kernel
theorem dX10_bound_118 : decode cX10_bound 118 = .ok (.iastore, 1) := by decide +kernel
theorem dX10_bound_119 : decode cX10_bound 119 = .ok (.aload_n 0, 1) := by decide +kernel
theorem dX10_bound_120 : decode cX10_bound 120 = .ok (.iconst 1, 1) := by decide +kernel
theorem dX10_bound_121 : decode cX10_bound 121 = .ok (.iconst 0, 1) := by decide +kernel
theorem dX10_bound_122 : decode cX10_bound 122 = .ok (.iload_n 3, 1) := by decide +kernel
theorem dX10_bound_123 : decode cX10_bound 123 = .ok (.invokevirtual 315, 3) := by decide +kernel
theorem dX10_bound_126 : decode cX10_bound 126 = .ok (.aload_n 0, 1) := by decide +kernel
theorem dX10_bound_127 : decode cX10_bound 127 = .ok (.getfield 252, 3) := by decide +kernel
theorem dX10_bound_130 : decode cX10_bound 130 = .ok (.iload 4, 2) := by decide +kernel
theorem dX10_bound_132 : decode cX10_bound 132 = .ok (.if_icmp .gt 8, 3) := by decide +kernel
theorem dX10_bound_135 : decode cX10_bound 135 = .ok (.iload 7, 2) := by decide +kernel
theorem dX10_bound_137 : decode cX10_bound 137 = .ok (.goto 5, 3) := by decide +kernel
theorem dX10_bound_140 : decode cX10_bound 140 = .ok (.iload 6, 2) := by decide +kernel
theorem dX10_bound_142 : decode cX10_bound 142 = .ok (.istore 6, 2) := by decide +kernel
theorem dX10_bound_144 : decode cX10_bound 144 = .ok (.iinc 7 (-1), 3) := by decide +kernel
theorem dX10_bound_147 : decode cX10_bound 147 = .ok (.goto (-52), 3) := by decide +kernel
theorem dX10_bound_150 : decode cX10_bound 150 = .ok (.iload 6, 2) := by decide +kernel
theorem dX10_bound_152 : decode cX10_bound 152 = .ok (.ireturn, 1) := by decide +kernel
set_option maxRecDepth 20000 in
theorem dX10_costOf_0 : decode cX10_costOf 0 = .ok (.aload_n 0, 1) := by decide +kernel
theorem dX10_costOf_1 : decode cX10_costOf 1 = .ok (.getfield 56, 3) := by decide +kernel
theorem dX10_costOf_4 : decode cX10_costOf 4 = .ok (.iload_n 1, 1) := by decide +kernel
theorem dX10_costOf_5 : decode cX10_costOf 5 = .ok (.iaload, 1) := by decide +kernel
theorem dX10_costOf_6 : decode cX10_costOf 6 = .ok (.invokestatic 289, 3) := by decide +kernel
theorem dX10_costOf_9 : decode cX10_costOf 9 = .ok (.i2l, 1) := by decide +kernel
theorem dX10_costOf_10 : decode cX10_costOf 10 = .ok (.aload_n 0, 1) := by decide +kernel
theorem dX10_costOf_11 : decode cX10_costOf 11 = .ok (.getfield 41, 3) := by decide +kernel
theorem dX10_costOf_14 : decode cX10_costOf 14 = .ok (.iconst 5, 1) := by decide +kernel
theorem dX10_costOf_15 : decode cX10_costOf 15 = .ok (.iaload, 1) := by decide +kernel
theorem dX10_costOf_16 : decode cX10_costOf 16 = .ok (.i2l, 1) := by decide +kernel
theorem dX10_costOf_17 : decode cX10_costOf 17 = .ok (.aload_n 0, 1) := by decide +kernel
theorem dX10_costOf_18 : decode cX10_costOf 18 = .ok (.getfield 62, 3) := by decide +kernel
theorem dX10_costOf_21 : decode cX10_costOf 21 = .ok (.iload_n 1, 1) := by decide +kernel
theorem dX10_costOf_22 : decode cX10_costOf 22 = .ok (.iaload, 1) := by decide +kernel
theorem dX10_costOf_23 : decode cX10_costOf 23 = .ok (.aload_n 0, 1) := by decide +kernel
theorem dX10_costOf_24 : decode cX10_costOf 24 = .ok (.getfield 62, 3) := by decide +kernel
theorem dX10_costOf_27 : decode cX10_costOf 27 = .ok (.iload_n 1, 1) := by decide +kernel
theorem dX10_costOf_28 : decode cX10_costOf 28 = .ok (.iconst 1, 1) := by decide +kernel
theorem dX10_costOf_29 : decode cX10_costOf 29 = .ok (.isub, 1) := by decide +kernel
theorem dX10_costOf_30 : decode cX10_costOf 30 = .ok (.iaload, 1) := by decide +kernel
theorem dX10_costOf_31 : decode cX10_costOf 31 = .ok (.isub, 1) := by decide +kernel
theorem dX10_costOf_32 : decode cX10_costOf 32 = .ok (.invokestatic 289, 3) := by decide +kernel
theorem dX10_costOf_35 : decode cX10_costOf 35 = .ok (.i2l, 1) := by decide +kernel
theorem dX10_costOf_36 : decode cX10_costOf 36 = .ok (.lmul, 1) := by decide +kernel
theorem dX10_costOf_37 : decode cX10_costOf 37 = .ok (.ladd, 1) := by decide +kernel
theorem dX10_costOf_38 : decode cX10_costOf 38 = .ok (.lreturn, 1) := by decide +kernel
set_option maxRecDepth 20000 in
theorem dX10_first_0 : decode cX10_first 0 = .ok (.aload_n 0, 1) := by decide +kernel
theorem dX10_first_1 : decode cX10_first 1 = .ok (.iconst 0, 1) := by decide +kernel
theorem dX10_first_2 : decode cX10_first 2 = .ok (.putfield 81, 3) := by decide +kernel
theorem dX10_first_5 : decode cX10_first 5 = .ok (.aload_n 0, 1) := by decide +kernel
theorem dX10_first_6 : decode cX10_first 6 = .ok (.iload_n 1, 1) := by decide +kernel
theorem dX10_first_7 : decode cX10_first 7 = .ok (.iload_n 2, 1) := by decide +kernel
theorem dX10_first_8 : decode cX10_first 8 = .ok (.iload_n 3, 1) := by decide +kernel
theorem dX10_first_9 : decode cX10_first 9 = .ok (.invokevirtual 338, 3) := by decide +kernel
theorem dX10_first_12 : decode cX10_first 12 = .ok (.ifCond .eq 13, 3) := by decide +kernel
theorem dX10_first_15 : decode cX10_first 15 = .ok (.iload 4, 2) := by decide +kernel
theorem dX10_first_17 : decode cX10_first 17 = .ok (.iconst 0, 1) := by decide +kernel
theorem dX10_first_18 : decode cX10_first 18 = .ok (.iconst 2, 1) := by decide +kernel
theorem dX10_first_19 : decode cX10_first 19 = .ok (.invokestatic 89, 3) := by decide +kernel
theorem dX10_first_22 : decode cX10_first 22 = .ok (.ifCond .ne 5, 3) := by decide +kernel
theorem dX10_first_25 : decode cX10_first 25 = .ok (.iconst (-1), 1) := by decide +kernel
theorem dX10_first_26 : decode cX10_first 26 = .ok (.ireturn, 1) := by decide +kernel
theorem dX10_first_27 : decode cX10_first 27 = .ok (.aload_n 0, 1) := by decide +kernel
theorem dX10_first_28 : decode cX10_first 28 = .ok (.iconst 1, 1) := by decide +kernel
theorem dX10_first_29 : decode cX10_first 29 = .ok (.iconst 0, 1) := by decide +kernel
theorem dX10_first_30 : decode cX10_first 30 = .ok (.iload_n 3, 1) := by decide +kernel
theorem dX10_first_31 : decode cX10_first 31 = .ok (.invokevirtual 315, 3) := by decide +kernel
theorem dX10_first_34 : decode cX10_first 34 = .ok (.iconst (-1), 1) := by decide +kernel
theorem dX10_first_35 : decode cX10_first 35 = .ok (.istore 5, 2) := by decide +kernel
theorem dX10_first_37 : decode cX10_first 37 = .ok (.iconst 1, 1) := by decide +kernel
theorem dX10_first_38 : decode cX10_first 38 = .ok (.istore 6, 2) := by decide +kernel
theorem dX10_first_40 : decode cX10_first 40 = .ok (.iconst (-1), 1) := by decide +kernel
theorem dX10_first_41 : decode cX10_first 41 = .ok (.istore 7, 2) := by decide +kernel
theorem dX10_first_43 : decode cX10_first 43 = .ok (.lconst 0, 1) := by decide +kernel
theorem dX10_first_44 : decode cX10_first 44 = .ok (.lstore 8, 2) := by decide +kernel
theorem dX10_first_46 : decode cX10_first 46 = .ok (.iconst 1, 1) := by decide +kernel
theorem dX10_first_47 : decode cX10_first 47 = .ok (.istore 10, 2) := by decide +kernel
theorem dX10_first_49 : decode cX10_first 49 = .ok (.iload 10, 2) := by decide +kernel
theorem dX10_first_51 : decode cX10_first 51 = .ok (.iload_n 3, 1) := by decide +kernel
theorem dX10_first_52 : decode cX10_first 52 = .ok (.if_icmp .gt 105, 3) := by decide +kernel
theorem dX10_first_55 : decode cX10_first 55 = .ok (.iload 5, 2) := by decide +kernel
theorem dX10_first_57 : decode cX10_first 57 = .ok (.iconst (-1), 1) := by decide +kernel
theorem dX10_first_58 : decode cX10_first 58 = .ok (.if_icmp .ne 24, 3) := by decide +kernel
theorem dX10_first_61 : decode cX10_first 61 = .ok (.aload_n 0, 1) := by decide +kernel
theorem dX10_first_62 : decode cX10_first 62 = .ok (.getfield 56, 3) := by decide +kernel
theorem dX10_first_65 : decode cX10_first 65 = .ok (.iload 10, 2) := by decide +kernel
theorem dX10_first_67 : decode cX10_first 67 = .ok (.iaload, 1) := by decide +kernel
theorem dX10_first_68 : decode cX10_first 68 = .ok (.invokestatic 289, 3) := by decide +kernel
theorem dX10_first_71 : decode cX10_first 71 = .ok (.sipush 9000, 3) := by decide +kernel
theorem dX10_first_74 : decode cX10_first 74 = .ok (.if_icmp .lt 8, 3) := by decide +kernel
theorem dX10_first_77 : decode cX10_first 77 = .ok (.iload 10, 2) := by decide +kernel
theorem dX10_first_79 : decode cX10_first 79 = .ok (.goto 5, 3) := by decide +kernel
theorem dX10_first_82 : decode cX10_first 82 = .ok (.iload 5, 2) := by decide +kernel
theorem dX10_first_84 : decode cX10_first 84 = .ok (.istore 5, 2) := by decide +kernel
theorem dX10_first_86 : decode cX10_first 86 = .ok (.aload_n 0, 1) := by decide +kernel
theorem dX10_first_87 : decode cX10_first 87 = .ok (.iload 10, 2) := by decide +kernel
theorem dX10_first_89 : decode cX10_first 89 = .ok (.invokevirtual 369, 3) := by decide +kernel
theorem dX10_first_92 : decode cX10_first 92 = .ok (.aload_n 0, 1) := by decide +kernel
theorem dX10_first_93 : decode cX10_first 93 = .ok (.iload 6, 2) := by decide +kernel
theorem dX10_first_95 : decode cX10_first 95 = .ok (.invokevirtual 369, 3) := by decide +kernel
theorem dX10_first_98 : decode cX10_first 98 = .ok (.lcmp, 1) := by decide +kernel
theorem dX10_first_99 : decode cX10_first 99 = .ok (.ifCond .le 8, 3) := by decide +kernel
theorem dX10_first_102 : decode cX10_first 102 = .ok (.iload 10, 2) := by decide +kernel
theorem dX10_first_104 : decode cX10_first 104 = .ok (.goto 5, 3) := by decide +kernel
theorem dX10_first_107 : decode cX10_first 107 = .ok (.iload 6, 2) := by decide +kernel
theorem dX10_first_109 : decode cX10_first 109 = .ok (.istore 6, 2) := by decide +kernel
theorem dX10_first_111 : decode cX10_first 111 = .ok (.lload 8, 2) := by decide +kernel
theorem dX10_first_113 : decode cX10_first 113 = .ok (.aload_n 0, 1) := by decide +kernel
theorem dX10_first_114 : decode cX10_first 114 = .ok (.iload 10, 2) := by decide +kernel
theorem dX10_first_116 : decode cX10_first 116 = .ok (.invokevirtual 369, 3) := by decide +kernel
theorem dX10_first_119 : decode cX10_first 119 = .ok (.ladd, 1) := by decide +kernel
theorem dX10_first_120 : decode cX10_first 120 = .ok (.lstore 8, 2) := by decide +kernel
theorem dX10_first_122 : decode cX10_first 122 = .ok (.iload 7, 2) := by decide +kernel
theorem dX10_first_124 : decode cX10_first 124 = .ok (.iconst (-1), 1) := by decide +kernel
theorem dX10_first_125 : decode cX10_first 125 = .ok (.if_icmp .ne 22, 3) := by decide +kernel
theorem dX10_first_128 : decode cX10_first 128 = .ok (.ldc2_w 372, 3) := by decide +kernel
theorem dX10_first_131 : decode cX10_first 131 = .ok (.lload 8, 2) := by decide +kernel
theorem dX10_first_133 : decode cX10_first 133 = .ok (.lmul, 1) := by decide +kernel
theorem dX10_first_134 : decode cX10_first 134 = .ok (.aload_n 0, 1) := by decide +kernel
theorem dX10_first_135 : decode cX10_first 135 = .ok (.invokevirtual 319, 3) := by decide +kernel
theorem dX10_first_138 : decode cX10_first 138 = .ok (.lcmp, 1) := by decide +kernel
theorem dX10_first_139 : decode cX10_first 139 = .ok (.ifCond .lt 8, 3) := by decide +kernel
theorem dX10_first_142 : decode cX10_first 142 = .ok (.iload 10, 2) := by decide +kernel
theorem dX10_first_144 : decode cX10_first 144 = .ok (.goto 5, 3) := by decide +kernel
theorem dX10_first_147 : decode cX10_first 147 = .ok (.iload 7, 2) := by decide +kernel
theorem dX10_first_149 : decode cX10_first 149 = .ok (.istore 7, 2) := by decide +kernel
theorem dX10_first_151 : decode cX10_first 151 = .ok (.iinc 10 1, 3) := by decide +kernel
theorem dX10_first_154 : decode cX10_first 154 = .ok (.goto (-105), 3) := by decide +kernel
theorem dX10_first_157 : decode cX10_first 157 = .ok (.iload 4, 2) := by decide +kernel
theorem dX10_first_159 : decode cX10_first 159 = .ok (.ifCond .ne 8, 3) := by decide +kernel
theorem dX10_first_162 : decode cX10_first 162 = .ok (.iload 5, 2) := by decide +kernel
theorem dX10_first_164 : decode cX10_first 164 = .ok (.goto 16, 3) := by decide +kernel
theorem dX10_first_167 : decode cX10_first 167 = .ok (.iload 4, 2) := by decide +kernel
theorem dX10_first_169 : decode cX10_first 169 = .ok (.iconst 1, 1) := by decide +kernel
theorem dX10_first_170 : decode cX10_first 170 = .ok (.if_icmp .ne 8, 3) := by decide +kernel
theorem dX10_first_173 : decode cX10_first 173 = .ok (.iload 6, 2) := by decide +kernel
theorem dX10_first_175 : decode cX10_first 175 = .ok (.goto 5, 3) := by decide +kernel
theorem dX10_first_178 : decode cX10_first 178 = .ok (.iload 7, 2) := by decide +kernel
theorem dX10_first_180 : decode cX10_first 180 = .ok (.ireturn, 1) := by decide +kernel
set_option maxRecDepth 20000 in
theorem dX10_better_0 : decode cX10_better 0 = .ok (.aload_n 0, 1) := by decide +kernel
theorem dX10_better_1 : decode cX10_better 1 = .ok (.iconst 0, 1) := by decide +kernel
theorem dX10_better_2 : decode cX10_better 2 = .ok (.putfield 81, 3) := by decide +kernel
theorem dX10_better_5 : decode cX10_better 5 = .ok (.aload_n 0, 1) := by decide +kernel
theorem dX10_better_6 : decode cX10_better 6 = .ok (.iconst 1, 1) := by decide +kernel
theorem dX10_better_7 : decode cX10_better 7 = .ok (.iload_n 3, 1) := by decide +kernel
theorem dX10_better_8 : decode cX10_better 8 = .ok (.invokevirtual 226, 3) := by decide +kernel
theorem dX10_better_11 : decode cX10_better 11 = .ok (.ifCond .eq 14, 3) := by decide +kernel
theorem dX10_better_14 : decode cX10_better 14 = .ok (.aload_n 0, 1) := by decide +kernel
theorem dX10_better_15 : decode cX10_better 15 = .ok (.iload_n 1, 1) := by decide +kernel
theorem dX10_better_16 : decode cX10_better 16 = .ok (.iload_n 2, 1) := by decide +kernel
theorem dX10_better_17 : decode cX10_better 17 = .ok (.iload 4, 2) := by decide +kernel
theorem dX10_better_19 : decode cX10_better 19 = .ok (.invokevirtual 338, 3) := by decide +kernel
theorem dX10_better_22 : decode cX10_better 22 = .ok (.ifCond .ne 5, 3) := by decide +kernel
theorem dX10_better_25 : decode cX10_better 25 = .ok (.iconst (-1), 1) := by decide +kernel
theorem dX10_better_26 : decode cX10_better 26 = .ok (.ireturn, 1) := by decide +kernel
theorem dX10_better_27 : decode cX10_better 27 = .ok (.aload_n 0, 1) := by decide +kernel
theorem dX10_better_28 : decode cX10_better 28 = .ok (.iload 4, 2) := by decide +kernel
theorem dX10_better_30 : decode cX10_better 30 = .ok (.invokevirtual 346, 3) := by decide +kernel
theorem dX10_better_33 : decode cX10_better 33 = .ok (.lstore 5, 2) := by decide +kernel
theorem dX10_better_35 : decode cX10_better 35 = .ok (.aload_n 0, 1) := by decide +kernel
theorem dX10_better_36 : decode cX10_better 36 = .ok (.iconst 0, 1) := by decide +kernel
theorem dX10_better_37 : decode cX10_better 37 = .ok (.iload_n 3, 1) := by decide +kernel
theorem dX10_better_38 : decode cX10_better 38 = .ok (.invokevirtual 326, 3) := by decide +kernel
theorem dX10_better_41 : decode cX10_better 41 = .ok (.aload_n 0, 1) := by decide +kernel
theorem dX10_better_42 : decode cX10_better 42 = .ok (.iload 4, 2) := by decide +kernel
theorem dX10_better_44 : decode cX10_better 44 = .ok (.invokevirtual 346, 3) := by decide +kernel
theorem dX10_better_47 : decode cX10_better 47 = .ok (.lstore 7, 2) := by decide +kernel
theorem dX10_better_49 : decode cX10_better 49 = .ok (.lload 5, 2) := by decide +kernel
theorem dX10_better_51 : decode cX10_better 51 = .ok (.lload 7, 2) := by decide +kernel
theorem dX10_better_53 : decode cX10_better 53 = .ok (.lcmp, 1) := by decide +kernel
theorem dX10_better_54 : decode cX10_better 54 = .ok (.ifCond .ge 7, 3) := by decide +kernel
theorem dX10_better_57 : decode cX10_better 57 = .ok (.iconst 0, 1) := by decide +kernel
theorem dX10_better_58 : decode cX10_better 58 = .ok (.goto 16, 3) := by decide +kernel
theorem dX10_better_61 : decode cX10_better 61 = .ok (.lload 5, 2) := by decide +kernel
theorem dX10_better_63 : decode cX10_better 63 = .ok (.lload 7, 2) := by decide +kernel
theorem dX10_better_65 : decode cX10_better 65 = .ok (.lcmp, 1) := by decide +kernel
theorem dX10_better_66 : decode cX10_better 66 = .ok (.ifCond .le 7, 3) := by decide +kernel
theorem dX10_better_69 : decode cX10_better 69 = .ok (.iconst 1, 1) := by decide +kernel
theorem dX10_better_70 : decode cX10_better 70 = .ok (.goto 4, 3) := by decide +kernel
theorem dX10_better_73 : decode cX10_better 73 = .ok (.iconst 2, 1) := by decide +kernel
theorem dX10_better_74 : decode cX10_better 74 = .ok (.ireturn, 1) := by decide +kernel
set_option maxRecDepth 20000 in
theorem dX10_reads_0 : decode cX10_reads 0 = .ok (.aload_n 0, 1) := by decide +kernel
theorem dX10_reads_1 : decode cX10_reads 1 = .ok (.iconst 0, 1) := by decide +kernel
theorem dX10_reads_2 : decode cX10_reads 2 = .ok (.putfield 81, 3) := by decide +kernel
theorem dX10_reads_5 : decode cX10_reads 5 = .ok (.aload_n 0, 1) := by decide +kernel
theorem dX10_reads_6 : decode cX10_reads 6 = .ok (.iconst 2, 1) := by decide +kernel
theorem dX10_reads_7 : decode cX10_reads 7 = .ok (.iload_n 3, 1) := by decide +kernel
theorem dX10_reads_8 : decode cX10_reads 8 = .ok (.invokevirtual 226, 3) := by decide +kernel
theorem dX10_reads_11 : decode cX10_reads 11 = .ok (.ifCond .eq 45, 3) := by decide +kernel
theorem dX10_reads_14 : decode cX10_reads 14 = .ok (.aload_n 0, 1) := by decide +kernel
theorem dX10_reads_15 : decode cX10_reads 15 = .ok (.iload_n 1, 1) := by decide +kernel
theorem dX10_reads_16 : decode cX10_reads 16 = .ok (.iload_n 2, 1) := by decide +kernel
theorem dX10_reads_17 : decode cX10_reads 17 = .ok (.iconst 0, 1) := by decide +kernel
theorem dX10_reads_18 : decode cX10_reads 18 = .ok (.invokevirtual 329, 3) := by decide +kernel
theorem dX10_reads_21 : decode cX10_reads 21 = .ok (.ifCond .eq 35, 3) := by decide +kernel
theorem dX10_reads_24 : decode cX10_reads 24 = .ok (.iload 4, 2) := by decide +kernel
theorem dX10_reads_26 : decode cX10_reads 26 = .ok (.iconst 0, 1) := by decide +kernel
theorem dX10_reads_27 : decode cX10_reads 27 = .ok (.bipush 20, 2) := by decide +kernel
theorem dX10_reads_29 : decode cX10_reads 29 = .ok (.invokestatic 89, 3) := by decide +kernel
theorem dX10_reads_32 : decode cX10_reads 32 = .ok (.ifCond .eq 24, 3) := by decide +kernel
theorem dX10_reads_35 : decode cX10_reads 35 = .ok (.iload 5, 2) := by decide +kernel
theorem dX10_reads_37 : decode cX10_reads 37 = .ok (.iconst 0, 1) := by decide +kernel
theorem dX10_reads_38 : decode cX10_reads 38 = .ok (.bipush 20, 2) := by decide +kernel
theorem dX10_reads_40 : decode cX10_reads 40 = .ok (.invokestatic 89, 3) := by decide +kernel
theorem dX10_reads_43 : decode cX10_reads 43 = .ok (.ifCond .eq 13, 3) := by decide +kernel
theorem dX10_reads_46 : decode cX10_reads 46 = .ok (.iload 6, 2) := by decide +kernel
theorem dX10_reads_48 : decode cX10_reads 48 = .ok (.iconst 0, 1) := by decide +kernel
theorem dX10_reads_49 : decode cX10_reads 49 = .ok (.iconst 2, 1) := by decide +kernel
theorem dX10_reads_50 : decode cX10_reads 50 = .ok (.invokestatic 89, 3) := by decide +kernel
theorem dX10_reads_53 : decode cX10_reads 53 = .ok (.ifCond .ne 5, 3) := by decide +kernel
theorem dX10_reads_56 : decode cX10_reads 56 = .ok (.iconst (-1), 1) := by decide +kernel
theorem dX10_reads_57 : decode cX10_reads 57 = .ok (.ireturn, 1) := by decide +kernel
theorem dX10_reads_58 : decode cX10_reads 58 = .ok (.iconst (-1), 1) := by decide +kernel
theorem dX10_reads_59 : decode cX10_reads 59 = .ok (.istore 7, 2) := by decide +kernel
theorem dX10_reads_61 : decode cX10_reads 61 = .ok (.lconst 0, 1) := by decide +kernel
theorem dX10_reads_62 : decode cX10_reads 62 = .ok (.lstore 8, 2) := by decide +kernel
theorem dX10_reads_64 : decode cX10_reads 64 = .ok (.iconst 0, 1) := by decide +kernel
theorem dX10_reads_65 : decode cX10_reads 65 = .ok (.istore 10, 2) := by decide +kernel
theorem dX10_reads_67 : decode cX10_reads 67 = .ok (.iload 10, 2) := by decide +kernel
theorem dX10_reads_69 : decode cX10_reads 69 = .ok (.iload 4, 2) := by decide +kernel
theorem dX10_reads_71 : decode cX10_reads 71 = .ok (.iconst 1, 1) := by decide +kernel
theorem dX10_reads_72 : decode cX10_reads 72 = .ok (.iadd, 1) := by decide +kernel
theorem dX10_reads_73 : decode cX10_reads 73 = .ok (.iload 5, 2) := by decide +kernel
theorem dX10_reads_75 : decode cX10_reads 75 = .ok (.iconst 1, 1) := by decide +kernel
theorem dX10_reads_76 : decode cX10_reads 76 = .ok (.iadd, 1) := by decide +kernel
theorem dX10_reads_77 : decode cX10_reads 77 = .ok (.imul, 1) := by decide +kernel
theorem dX10_reads_78 : decode cX10_reads 78 = .ok (.if_icmp .ge 76, 3) := by decide +kernel
theorem dX10_reads_81 : decode cX10_reads 81 = .ok (.aload_n 0, 1) := by decide +kernel
theorem dX10_reads_82 : decode cX10_reads 82 = .ok (.iconst 0, 1) := by decide +kernel
theorem dX10_reads_83 : decode cX10_reads 83 = .ok (.iload 10, 2) := by decide +kernel
theorem dX10_reads_85 : decode cX10_reads 85 = .ok (.iload 5, 2) := by decide +kernel
theorem dX10_reads_87 : decode cX10_reads 87 = .ok (.iconst 1, 1) := by decide +kernel
theorem dX10_reads_88 : decode cX10_reads 88 = .ok (.iadd, 1) := by decide +kernel
theorem dX10_reads_89 : decode cX10_reads 89 = .ok (.idiv, 1) := by decide +kernel
theorem dX10_reads_90 : decode cX10_reads 90 = .ok (.invokevirtual 343, 3) := by decide +kernel
theorem dX10_reads_93 : decode cX10_reads 93 = .ok (.aload_n 0, 1) := by decide +kernel
theorem dX10_reads_94 : decode cX10_reads 94 = .ok (.iconst 1, 1) := by decide +kernel
theorem dX10_reads_95 : decode cX10_reads 95 = .ok (.iload 10, 2) := by decide +kernel
theorem dX10_reads_97 : decode cX10_reads 97 = .ok (.iload 5, 2) := by decide +kernel
theorem dX10_reads_99 : decode cX10_reads 99 = .ok (.iconst 1, 1) := by decide +kernel
theorem dX10_reads_100 : decode cX10_reads 100 = .ok (.iadd, 1) := by decide +kernel
theorem dX10_reads_101 : decode cX10_reads 101 = .ok (.irem, 1) := by decide +kernel
theorem dX10_reads_102 : decode cX10_reads 102 = .ok (.invokevirtual 343, 3) := by decide +kernel
theorem dX10_reads_105 : decode cX10_reads 105 = .ok (.aload_n 0, 1) := by decide +kernel
theorem dX10_reads_106 : decode cX10_reads 106 = .ok (.iconst 1, 1) := by decide +kernel
theorem dX10_reads_107 : decode cX10_reads 107 = .ok (.iconst 0, 1) := by decide +kernel
theorem dX10_reads_108 : decode cX10_reads 108 = .ok (.aload_n 0, 1) := by decide +kernel
theorem dX10_reads_109 : decode cX10_reads 109 = .ok (.getfield 32, 3) := by decide +kernel
theorem dX10_reads_112 : decode cX10_reads 112 = .ok (.bipush 61, 2) := by decide +kernel
theorem dX10_reads_114 : decode cX10_reads 114 = .ok (.iload_n 3, 1) := by decide +kernel
theorem dX10_reads_115 : decode cX10_reads 115 = .ok (.imul, 1) := by decide +kernel
theorem dX10_reads_116 : decode cX10_reads 116 = .ok (.iaload, 1) := by decide +kernel
theorem dX10_reads_117 : decode cX10_reads 117 = .ok (.invokevirtual 315, 3) := by decide +kernel
theorem dX10_reads_120 : decode cX10_reads 120 = .ok (.iload 7, 2) := by decide +kernel
theorem dX10_reads_122 : decode cX10_reads 122 = .ok (.iconst (-1), 1) := by decide +kernel
theorem dX10_reads_123 : decode cX10_reads 123 = .ok (.if_icmp .eq 14, 3) := by decide +kernel
theorem dX10_reads_126 : decode cX10_reads 126 = .ok (.aload_n 0, 1) := by decide +kernel
theorem dX10_reads_127 : decode cX10_reads 127 = .ok (.iload_n 3, 1) := by decide +kernel
theorem dX10_reads_128 : decode cX10_reads 128 = .ok (.invokevirtual 366, 3) := by decide +kernel
theorem dX10_reads_131 : decode cX10_reads 131 = .ok (.lload 8, 2) := by decide +kernel
theorem dX10_reads_133 : decode cX10_reads 133 = .ok (.lcmp, 1) := by decide +kernel
theorem dX10_reads_134 : decode cX10_reads 134 = .ok (.ifCond .ge 14, 3) := by decide +kernel
theorem dX10_reads_137 : decode cX10_reads 137 = .ok (.iload 10, 2) := by decide +kernel
theorem dX10_reads_139 : decode cX10_reads 139 = .ok (.istore 7, 2) := by decide +kernel
theorem dX10_reads_141 : decode cX10_reads 141 = .ok (.aload_n 0, 1) := by decide +kernel
theorem dX10_reads_142 : decode cX10_reads 142 = .ok (.iload_n 3, 1) := by decide +kernel
theorem dX10_reads_143 : decode cX10_reads 143 = .ok (.invokevirtual 366, 3) := by decide +kernel
theorem dX10_reads_146 : decode cX10_reads 146 = .ok (.lstore 8, 2) := by decide +kernel
theorem dX10_reads_148 : decode cX10_reads 148 = .ok (.iinc 10 1, 3) := by decide +kernel
theorem dX10_reads_151 : decode cX10_reads 151 = .ok (.goto (-84), 3) := by decide +kernel
theorem dX10_reads_154 : decode cX10_reads 154 = .ok (.iload 6, 2) := by decide +kernel
theorem dX10_reads_156 : decode cX10_reads 156 = .ok (.ifCond .ne 13, 3) := by decide +kernel
theorem dX10_reads_159 : decode cX10_reads 159 = .ok (.iload 7, 2) := by decide +kernel
theorem dX10_reads_161 : decode cX10_reads 161 = .ok (.iload 5, 2) := by decide +kernel
theorem dX10_reads_163 : decode cX10_reads 163 = .ok (.iconst 1, 1) := by decide +kernel
theorem dX10_reads_164 : decode cX10_reads 164 = .ok (.iadd, 1) := by decide +kernel
theorem dX10_reads_165 : decode cX10_reads 165 = .ok (.idiv, 1) := by decide +kernel
theorem dX10_reads_166 : decode cX10_reads 166 = .ok (.goto 22, 3) := by decide +kernel
theorem dX10_reads_169 : decode cX10_reads 169 = .ok (.iload 6, 2) := by decide +kernel
theorem dX10_reads_171 : decode cX10_reads 171 = .ok (.iconst 1, 1) := by decide +kernel
theorem dX10_reads_172 : decode cX10_reads 172 = .ok (.if_icmp .ne 13, 3) := by decide +kernel
theorem dX10_reads_175 : decode cX10_reads 175 = .ok (.iload 7, 2) := by decide +kernel
theorem dX10_reads_177 : decode cX10_reads 177 = .ok (.iload 5, 2) := by decide +kernel
theorem dX10_reads_179 : decode cX10_reads 179 = .ok (.iconst 1, 1) := by decide +kernel
theorem dX10_reads_180 : decode cX10_reads 180 = .ok (.iadd, 1) := by decide +kernel
theorem dX10_reads_181 : decode cX10_reads 181 = .ok (.irem, 1) := by decide +kernel
theorem dX10_reads_182 : decode cX10_reads 182 = .ok (.goto 6, 3) := by decide +kernel
theorem dX10_reads_185 : decode cX10_reads 185 = .ok (.lload 8, 2) := by decide +kernel
theorem dX10_reads_187 : decode cX10_reads 187 = .ok (.l2i, 1) := by decide +kernel
theorem dX10_reads_188 : decode cX10_reads 188 = .ok (.ireturn, 1) := by decide +kernel
set_option maxRecDepth 20000 in
theorem dX10_parted_0 : decode cX10_parted 0 = .ok (.aload_n 0, 1) := by decide +kernel
theorem dX10_parted_1 : decode cX10_parted 1 = .ok (.iconst 0, 1) := by decide +kernel
theorem dX10_parted_2 : decode cX10_parted 2 = .ok (.putfield 81, 3) := by decide +kernel
theorem dX10_parted_5 : decode cX10_parted 5 = .ok (.aload_n 0, 1) := by decide +kernel
theorem dX10_parted_6 : decode cX10_parted 6 = .ok (.iconst 1, 1) := by decide +kernel
theorem dX10_parted_7 : decode cX10_parted 7 = .ok (.iload_n 3, 1) := by decide +kernel
theorem dX10_parted_8 : decode cX10_parted 8 = .ok (.invokevirtual 226, 3) := by decide +kernel
theorem dX10_parted_11 : decode cX10_parted 11 = .ok (.ifCond .eq 23, 3) := by decide +kernel
theorem dX10_parted_14 : decode cX10_parted 14 = .ok (.aload_n 0, 1) := by decide +kernel
theorem dX10_parted_15 : decode cX10_parted 15 = .ok (.iconst 2, 1) := by decide +kernel
theorem dX10_parted_16 : decode cX10_parted 16 = .ok (.iload 4, 2) := by decide +kernel
theorem dX10_parted_18 : decode cX10_parted 18 = .ok (.invokevirtual 226, 3) := by decide +kernel
theorem dX10_parted_21 : decode cX10_parted 21 = .ok (.ifCond .eq 13, 3) := by decide +kernel
theorem dX10_parted_24 : decode cX10_parted 24 = .ok (.aload_n 0, 1) := by decide +kernel
theorem dX10_parted_25 : decode cX10_parted 25 = .ok (.iload_n 1, 1) := by decide +kernel
theorem dX10_parted_26 : decode cX10_parted 26 = .ok (.iload_n 2, 1) := by decide +kernel
theorem dX10_parted_27 : decode cX10_parted 27 = .ok (.iconst 0, 1) := by decide +kernel
theorem dX10_parted_28 : decode cX10_parted 28 = .ok (.invokevirtual 329, 3) := by decide +kernel
theorem dX10_parted_31 : decode cX10_parted 31 = .ok (.ifCond .ne 5, 3) := by decide +kernel
theorem dX10_parted_34 : decode cX10_parted 34 = .ok (.iconst (-1), 1) := by decide +kernel
theorem dX10_parted_35 : decode cX10_parted 35 = .ok (.ireturn, 1) := by decide +kernel
theorem dX10_parted_36 : decode cX10_parted 36 = .ok (.aload_n 0, 1) := by decide +kernel
theorem dX10_parted_37 : decode cX10_parted 37 = .ok (.iconst 1, 1) := by decide +kernel
theorem dX10_parted_38 : decode cX10_parted 38 = .ok (.iload_n 3, 1) := by decide +kernel
theorem dX10_parted_39 : decode cX10_parted 39 = .ok (.invokevirtual 326, 3) := by decide +kernel
theorem dX10_parted_42 : decode cX10_parted 42 = .ok (.aload_n 0, 1) := by decide +kernel
theorem dX10_parted_43 : decode cX10_parted 43 = .ok (.getfield 32, 3) := by decide +kernel
theorem dX10_parted_46 : decode cX10_parted 46 = .ok (.bipush 61, 2) := by decide +kernel
theorem dX10_parted_48 : decode cX10_parted 48 = .ok (.iload 4, 2) := by decide +kernel
theorem dX10_parted_50 : decode cX10_parted 50 = .ok (.imul, 1) := by decide +kernel
theorem dX10_parted_51 : decode cX10_parted 51 = .ok (.iaload, 1) := by decide +kernel
theorem dX10_parted_52 : decode cX10_parted 52 = .ok (.istore 5, 2) := by decide +kernel
theorem dX10_parted_54 : decode cX10_parted 54 = .ok (.iconst (-1), 1) := by decide +kernel
theorem dX10_parted_55 : decode cX10_parted 55 = .ok (.istore 6, 2) := by decide +kernel
theorem dX10_parted_57 : decode cX10_parted 57 = .ok (.lconst 0, 1) := by decide +kernel
theorem dX10_parted_58 : decode cX10_parted 58 = .ok (.lstore 7, 2) := by decide +kernel
theorem dX10_parted_60 : decode cX10_parted 60 = .ok (.iconst 0, 1) := by decide +kernel
theorem dX10_parted_61 : decode cX10_parted 61 = .ok (.istore 9, 2) := by decide +kernel
theorem dX10_parted_63 : decode cX10_parted 63 = .ok (.iload 9, 2) := by decide +kernel
theorem dX10_parted_65 : decode cX10_parted 65 = .ok (.iload 5, 2) := by decide +kernel
theorem dX10_parted_67 : decode cX10_parted 67 = .ok (.if_icmp .gt 61, 3) := by decide +kernel
theorem dX10_parted_70 : decode cX10_parted 70 = .ok (.aload_n 0, 1) := by decide +kernel
theorem dX10_parted_71 : decode cX10_parted 71 = .ok (.iconst 0, 1) := by decide +kernel
theorem dX10_parted_72 : decode cX10_parted 72 = .ok (.invokevirtual 309, 3) := by decide +kernel
theorem dX10_parted_75 : decode cX10_parted 75 = .ok (.aload_n 0, 1) := by decide +kernel
theorem dX10_parted_76 : decode cX10_parted 76 = .ok (.iconst 0, 1) := by decide +kernel
theorem dX10_parted_77 : decode cX10_parted 77 = .ok (.iload 9, 2) := by decide +kernel
theorem dX10_parted_79 : decode cX10_parted 79 = .ok (.invokevirtual 312, 3) := by decide +kernel
theorem dX10_parted_82 : decode cX10_parted 82 = .ok (.aload_n 0, 1) := by decide +kernel
theorem dX10_parted_83 : decode cX10_parted 83 = .ok (.iconst 1, 1) := by decide +kernel
theorem dX10_parted_84 : decode cX10_parted 84 = .ok (.iload 5, 2) := by decide +kernel
theorem dX10_parted_86 : decode cX10_parted 86 = .ok (.iload 9, 2) := by decide +kernel
theorem dX10_parted_88 : decode cX10_parted 88 = .ok (.isub, 1) := by decide +kernel
theorem dX10_parted_89 : decode cX10_parted 89 = .ok (.invokevirtual 312, 3) := by decide +kernel
theorem dX10_parted_92 : decode cX10_parted 92 = .ok (.iload 6, 2) := by decide +kernel
theorem dX10_parted_94 : decode cX10_parted 94 = .ok (.iconst (-1), 1) := by decide +kernel
theorem dX10_parted_95 : decode cX10_parted 95 = .ok (.if_icmp .eq 15, 3) := by decide +kernel
theorem dX10_parted_98 : decode cX10_parted 98 = .ok (.aload_n 0, 1) := by decide +kernel
theorem dX10_parted_99 : decode cX10_parted 99 = .ok (.iload 4, 2) := by decide +kernel
theorem dX10_parted_101 : decode cX10_parted 101 = .ok (.invokevirtual 366, 3) := by decide +kernel
theorem dX10_parted_104 : decode cX10_parted 104 = .ok (.lload 7, 2) := by decide +kernel
theorem dX10_parted_106 : decode cX10_parted 106 = .ok (.lcmp, 1) := by decide +kernel
theorem dX10_parted_107 : decode cX10_parted 107 = .ok (.ifCond .ge 15, 3) := by decide +kernel
theorem dX10_parted_110 : decode cX10_parted 110 = .ok (.iload 9, 2) := by decide +kernel
theorem dX10_parted_112 : decode cX10_parted 112 = .ok (.istore 6, 2) := by decide +kernel
theorem dX10_parted_114 : decode cX10_parted 114 = .ok (.aload_n 0, 1) := by decide +kernel
theorem dX10_parted_115 : decode cX10_parted 115 = .ok (.iload 4, 2) := by decide +kernel
theorem dX10_parted_117 : decode cX10_parted 117 = .ok (.invokevirtual 366, 3) := by decide +kernel
theorem dX10_parted_120 : decode cX10_parted 120 = .ok (.lstore 7, 2) := by decide +kernel
theorem dX10_parted_122 : decode cX10_parted 122 = .ok (.iinc 9 1, 3) := by decide +kernel
theorem dX10_parted_125 : decode cX10_parted 125 = .ok (.goto (-62), 3) := by decide +kernel
theorem dX10_parted_128 : decode cX10_parted 128 = .ok (.iload 6, 2) := by decide +kernel
theorem dX10_parted_130 : decode cX10_parted 130 = .ok (.ireturn, 1) := by decide +kernel
set_option maxRecDepth 20000 in
theorem dX10_count_0 : decode cX10_count 0 = .ok (.aload_n 0, 1) := by decide +kernel
theorem dX10_count_1 : decode cX10_count 1 = .ok (.iconst 0, 1) := by decide +kernel
theorem dX10_count_2 : decode cX10_count 2 = .ok (.putfield 81, 3) := by decide +kernel
theorem dX10_count_5 : decode cX10_count 5 = .ok (.iload_n 1, 1) := by decide +kernel
theorem dX10_count_6 : decode cX10_count 6 = .ok (.iconst 0, 1) := by decide +kernel
theorem dX10_count_7 : decode cX10_count 7 = .ok (.iconst 3, 1) := by decide +kernel
theorem dX10_count_8 : decode cX10_count 8 = .ok (.invokestatic 89, 3) := by decide +kernel
theorem dX10_count_11 : decode cX10_count 11 = .ok (.ifCond .eq 12, 3) := by decide +kernel
theorem dX10_count_14 : decode cX10_count 14 = .ok (.aload_n 0, 1) := by decide +kernel
theorem dX10_count_15 : decode cX10_count 15 = .ok (.getfield 23, 3) := by decide +kernel
theorem dX10_count_18 : decode cX10_count 18 = .ok (.iload_n 1, 1) := by decide +kernel
theorem dX10_count_19 : decode cX10_count 19 = .ok (.iaload, 1) := by decide +kernel
theorem dX10_count_20 : decode cX10_count 20 = .ok (.goto 5, 3) := by decide +kernel
theorem dX10_count_23 : decode cX10_count 23 = .ok (.bipush (-2), 2) := by decide +kernel
theorem dX10_count_25 : decode cX10_count 25 = .ok (.ireturn, 1) := by decide +kernel
set_option maxRecDepth 20000 in
theorem dX10_image_0 : decode cX10_image 0 = .ok (.aload_n 0, 1) := by decide +kernel
theorem dX10_image_1 : decode cX10_image 1 = .ok (.iconst 0, 1) := by decide +kernel
theorem dX10_image_2 : decode cX10_image 2 = .ok (.putfield 81, 3) := by decide +kernel
theorem dX10_image_5 : decode cX10_image 5 = .ok (.iload_n 1, 1) := by decide +kernel
theorem dX10_image_6 : decode cX10_image 6 = .ok (.iconst 0, 1) := by decide +kernel
theorem dX10_image_7 : decode cX10_image 7 = .ok (.iconst 2, 1) := by decide +kernel
theorem dX10_image_8 : decode cX10_image 8 = .ok (.invokestatic 89, 3) := by decide +kernel
theorem dX10_image_11 : decode cX10_image 11 = .ok (.ifCond .ne 5, 3) := by decide +kernel
theorem dX10_image_14 : decode cX10_image 14 = .ok (.iconst 0, 1) := by decide +kernel
theorem dX10_image_15 : decode cX10_image 15 = .ok (.ireturn, 1) := by decide +kernel
theorem dX10_image_16 : decode cX10_image 16 = .ok (.aload_n 0, 1) := by decide +kernel
theorem dX10_image_17 : decode cX10_image 17 = .ok (.iconst 0, 1) := by decide +kernel
theorem dX10_image_18 : decode cX10_image 18 = .ok (.iload_n 1, 1) := by decide +kernel
theorem dX10_image_19 : decode cX10_image 19 = .ok (.iconst 1, 1) := by decide +kernel
theorem dX10_image_20 : decode cX10_image 20 = .ok (.iadd, 1) := by decide +kernel
theorem dX10_image_21 : decode cX10_image 21 = .ok (.invokevirtual 374, 3) := by decide +kernel
theorem dX10_image_24 : decode cX10_image 24 = .ok (.aload_n 0, 1) := by decide +kernel
theorem dX10_image_25 : decode cX10_image 25 = .ok (.getfield 77, 3) := by decide +kernel
theorem dX10_image_28 : decode cX10_image 28 = .ok (.iload_n 1, 1) := by decide +kernel
theorem dX10_image_29 : decode cX10_image 29 = .ok (.iconst 1, 1) := by decide +kernel
theorem dX10_image_30 : decode cX10_image 30 = .ok (.bastore, 1) := by decide +kernel
theorem dX10_image_31 : decode cX10_image 31 = .ok (.iconst 1, 1) := by decide +kernel
theorem dX10_image_32 : decode cX10_image 32 = .ok (.ireturn, 1) := by decide +kernel
set_option maxRecDepth 20000 in
theorem dX10_again_0 : decode cX10_again 0 = .ok (.aload_n 0, 1) := by decide +kernel
theorem dX10_again_1 : decode cX10_again 1 = .ok (.iconst 0, 1) := by decide +kernel
theorem dX10_again_2 : decode cX10_again 2 = .ok (.putfield 81, 3) := by decide +kernel
theorem dX10_again_5 : decode cX10_again 5 = .ok (.iload_n 1, 1) := by decide +kernel
theorem dX10_again_6 : decode cX10_again 6 = .ok (.iconst 0, 1) := by decide +kernel
theorem dX10_again_7 : decode cX10_again 7 = .ok (.iconst 2, 1) := by decide +kernel
theorem dX10_again_8 : decode cX10_again 8 = .ok (.invokestatic 89, 3) := by decide +kernel
theorem dX10_again_11 : decode cX10_again 11 = .ok (.ifCond .eq 12, 3) := by decide +kernel
theorem dX10_again_14 : decode cX10_again 14 = .ok (.aload_n 0, 1) := by decide +kernel
theorem dX10_again_15 : decode cX10_again 15 = .ok (.getfield 77, 3) := by decide +kernel
theorem dX10_again_18 : decode cX10_again 18 = .ok (.iload_n 1, 1) := by decide +kernel
theorem dX10_again_19 : decode cX10_again 19 = .ok (.baload, 1) := by decide +kernel
theorem dX10_again_20 : decode cX10_again 20 = .ok (.ifCond .ne 5, 3) := by decide +kernel
theorem dX10_again_23 : decode cX10_again 23 = .ok (.iconst 0, 1) := by decide +kernel
theorem dX10_again_24 : decode cX10_again 24 = .ok (.ireturn, 1) := by decide +kernel
theorem dX10_again_25 : decode cX10_again 25 = .ok (.aload_n 0, 1) := by decide +kernel
theorem dX10_again_26 : decode cX10_again 26 = .ok (.iload_n 1, 1) := by decide +kernel
theorem dX10_again_27 : decode cX10_again 27 = .ok (.iconst 1, 1) := by decide +kernel
theorem dX10_again_28 : decode cX10_again 28 = .ok (.iadd, 1) := by decide +kernel
theorem dX10_again_29 : decode cX10_again 29 = .ok (.iconst 0, 1) := by decide +kernel
theorem dX10_again_30 : decode cX10_again 30 = .ok (.invokevirtual 374, 3) := by decide +kernel
theorem dX10_again_33 : decode cX10_again 33 = .ok (.iconst 1, 1) := by decide +kernel
theorem dX10_again_34 : decode cX10_again 34 = .ok (.ireturn, 1) := by decide +kernel
