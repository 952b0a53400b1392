set_option maxRecDepth 20000 in
theorem dX9_init_0 : decode cX9_init 0 = .ok (.aload_n 0, 1) := by decide +kernel
theorem dX9_init_1 : decode cX9_init 1 = .ok (.invokespecial 1, 3) := by decide +kernel
theorem dX9_init_4 : decode cX9_init 4 = .ok (.aload_n 0, 1) := by decide +kernel
theorem dX9_init_5 : decode cX9_init 5 = .ok (.new 7, 3) := by decide +kernel
theorem dX9_init_8 : decode cX9_init 8 = .ok (.dup, 1) := by decide +kernel
theorem dX9_init_9 : decode cX9_init 9 = .ok (.invokespecial 9, 3) := by decide +kernel
theorem dX9_init_12 : decode cX9_init 12 = .ok (.putfield 10, 3) := by decide +kernel
theorem dX9_init_15 : decode cX9_init 15 = .ok (.aload_n 0, 1) := by decide +kernel
theorem dX9_init_16 : decode cX9_init 16 = .ok (.iconst 3, 1) := by decide +kernel
theorem dX9_init_17 : decode cX9_init 17 = .ok (.anewarray 7, 3) := by decide +kernel
theorem dX9_init_20 : decode cX9_init 20 = .ok (.putfield 16, 3) := by decide +kernel
theorem dX9_init_23 : decode cX9_init 23 = .ok (.aload_n 0, 1) := by decide +kernel
theorem dX9_init_24 : decode cX9_init 24 = .ok (.iconst 3, 1) := by decide +kernel
theorem dX9_init_25 : decode cX9_init 25 = .ok (.newarray .boolean, 2) := by decide +kernel
theorem dX9_init_27 : decode cX9_init 27 = .ok (.putfield 20, 3) := by decide +kernel
theorem dX9_init_30 : decode cX9_init 30 = .ok (.aload_n 0, 1) := by decide +kernel
theorem dX9_init_31 : decode cX9_init 31 = .ok (.new 24, 3) := by decide +kernel
theorem dX9_init_34 : decode cX9_init 34 = .ok (.dup, 1) := by decide +kernel
theorem dX9_init_35 : decode cX9_init 35 = .ok (.invokespecial 26, 3) := by decide +kernel
theorem dX9_init_38 : decode cX9_init 38 = .ok (.putfield 27, 3) := by decide +kernel
theorem dX9_init_41 : decode cX9_init 41 = .ok (.aload_n 0, 1) := by decide +kernel
theorem dX9_init_42 : decode cX9_init 42 = .ok (.new 31, 3) := by decide +kernel
theorem dX9_init_45 : decode cX9_init 45 = .ok (.dup, 1) := by decide +kernel
theorem dX9_init_46 : decode cX9_init 46 = .ok (.invokespecial 33, 3) := by decide +kernel
theorem dX9_init_49 : decode cX9_init 49 = .ok (.putfield 34, 3) := by decide +kernel
theorem dX9_init_52 : decode cX9_init 52 = .ok (.aload_n 0, 1) := by decide +kernel
theorem dX9_init_53 : decode cX9_init 53 = .ok (.new 38, 3) := by decide +kernel
theorem dX9_init_56 : decode cX9_init 56 = .ok (.dup, 1) := by decide +kernel
theorem dX9_init_57 : decode cX9_init 57 = .ok (.invokespecial 40, 3) := by decide +kernel
theorem dX9_init_60 : decode cX9_init 60 = .ok (.putfield 41, 3) := by decide +kernel
theorem dX9_init_63 : decode cX9_init 63 = .ok (.aload_n 0, 1) := by decide +kernel
theorem dX9_init_64 : decode cX9_init 64 = .ok (.new 45, 3) := by decide +kernel
theorem dX9_init_67 : decode cX9_init 67 = .ok (.dup, 1) := by decide +kernel
theorem dX9_init_68 : decode cX9_init 68 = .ok (.invokespecial 47, 3) := by decide +kernel
theorem dX9_init_71 : decode cX9_init 71 = .ok (.putfield 48, 3) := by decide +kernel
theorem dX9_init_74 : decode cX9_init 74 = .ok (.iconst 0, 1) := by decide +kernel
theorem dX9_init_75 : decode cX9_init 75 = .ok (.istore_n 1, 1) := by decide +kernel
theorem dX9_init_76 : decode cX9_init 76 = .ok (.iload_n 1, 1) := by decide +kernel
theorem dX9_init_77 : decode cX9_init 77 = .ok (.iconst 3, 1) := by decide +kernel
theorem dX9_init_78 : decode cX9_init 78 = .ok (.if_icmp .ge 22, 3) := by decide +kernel
theorem dX9_init_81 : decode cX9_init 81 = .ok (.aload_n 0, 1) := by decide +kernel
theorem dX9_init_82 : decode cX9_init 82 = .ok (.getfield 16, 3) := by decide +kernel
theorem dX9_init_85 : decode cX9_init 85 = .ok (.iload_n 1, 1) := by decide +kernel
theorem dX9_init_86 : decode cX9_init 86 = .ok (.new 7, 3) := by decide +kernel
theorem dX9_init_89 : decode cX9_init 89 = .ok (.dup, 1) := by decide +kernel
theorem dX9_init_90 : decode cX9_init 90 = .ok (.invokespecial 9, 3) := by decide +kernel
theorem dX9_init_93 : decode cX9_init 93 = .ok (.aastore, 1) := by decide +kernel
theorem dX9_init_94 : decode cX9_init 94 = .ok (.iinc 1 1, 3) := by decide +kernel
theorem dX9_init_97 : decode cX9_init 97 = .ok (.goto (-21), 3) := by decide +kernel
theorem dX9_init_100 : decode cX9_init 100 = .ok (.return_, 1) := by decide +kernel
set_option maxRecDepth 20000 in
theorem dX9_feed_0 : decode cX9_feed 0 = .ok (.aload_n 0, 1) := by decide +kernel
theorem dX9_feed_1 : decode cX9_feed 1 = .ok (.getfield 10, 3) := by decide +kernel
theorem dX9_feed_4 : decode cX9_feed 4 = .ok (.getfield 52, 3) := by decide +kernel
theorem dX9_feed_7 : decode cX9_feed 7 = .ok (.astore 6, 2) := by decide +kernel
theorem dX9_feed_9 : decode cX9_feed 9 = .ok (.aload 6, 2) := by decide +kernel
theorem dX9_feed_11 : decode cX9_feed 11 = .ok (.getfield 56, 3) := by decide +kernel
theorem dX9_feed_14 : decode cX9_feed 14 = .ok (.sipush 580, 3) := by decide +kernel
theorem dX9_feed_17 : decode cX9_feed 17 = .ok (.if_icmp .le 5, 3) := by decide +kernel
theorem dX9_feed_20 : decode cX9_feed 20 = .ok (.iconst (-1), 1) := by decide +kernel
theorem dX9_feed_21 : decode cX9_feed 21 = .ok (.ireturn, 1) := by decide +kernel
theorem dX9_feed_22 : decode cX9_feed 22 = .ok (.aload 6, 2) := by decide +kernel
theorem dX9_feed_24 : decode cX9_feed 24 = .ok (.iload_n 1, 1) := by decide +kernel
theorem dX9_feed_25 : decode cX9_feed 25 = .ok (.invokevirtual 62, 3) := by decide +kernel
theorem dX9_feed_28 : decode cX9_feed 28 = .ok (.aload 6, 2) := by decide +kernel
theorem dX9_feed_30 : decode cX9_feed 30 = .ok (.iload_n 2, 1) := by decide +kernel
theorem dX9_feed_31 : decode cX9_feed 31 = .ok (.invokevirtual 62, 3) := by decide +kernel
theorem dX9_feed_34 : decode cX9_feed 34 = .ok (.aload 6, 2) := by decide +kernel
theorem dX9_feed_36 : decode cX9_feed 36 = .ok (.iload_n 3, 1) := by decide +kernel
theorem dX9_feed_37 : decode cX9_feed 37 = .ok (.invokevirtual 62, 3) := by decide +kernel
theorem dX9_feed_40 : decode cX9_feed 40 = .ok (.aload 6, 2) := by decide +kernel
theorem dX9_feed_42 : decode cX9_feed 42 = .ok (.iload 4, 2) := by decide +kernel
theorem dX9_feed_44 : decode cX9_feed 44 = .ok (.invokevirtual 62, 3) := by decide +kernel
theorem dX9_feed_47 : decode cX9_feed 47 = .ok (.aload 6, 2) := by decide +kernel
theorem dX9_feed_49 : decode cX9_feed 49 = .ok (.iload 5, 2) := by decide +kernel
theorem dX9_feed_51 : decode cX9_feed 51 = .ok (.invokevirtual 62, 3) := by decide +kernel
theorem dX9_feed_54 : decode cX9_feed 54 = .ok (.aload 6, 2) := by decide +kernel
theorem dX9_feed_56 : decode cX9_feed 56 = .ok (.getfield 56, 3) := by decide +kernel
theorem dX9_feed_59 : decode cX9_feed 59 = .ok (.ireturn, 1) := by decide +kernel
theorem dX9_end_0 : decode cX9_end 0 = .ok (.iload_n 1, 1) := by decide +kernel
theorem dX9_end_1 : decode cX9_end 1 = .ok (.ifCond .lt 17, 3) := by decide +kernel
theorem dX9_end_4 : decode cX9_end 4 = .ok (.iload_n 1, 1) := by decide +kernel
theorem dX9_end_5 : decode cX9_end 5 = .ok (.aload_n 0, 1) := by decide +kernel
theorem dX9_end_6 : decode cX9_end 6 = .ok (.getfield 10, 3) := by decide +kernel
theorem dX9_end_9 : decode cX9_end 9 = .ok (.getfield 52, 3) := by decide +kernel
theorem dX9_end_12 : decode cX9_end 12 = .ok (.getfield 56, 3) := by decide +kernel
theorem dX9_end_15 : decode cX9_end 15 = .ok (.if_icmp .le 5, 3) := by decide +kernel
theorem dX9_end_18 : decode cX9_end 18 = .ok (.iconst (-1), 1) := by decide +kernel
theorem dX9_end_19 : decode cX9_end 19 = .ok (.ireturn, 1) := by decide +kernel
theorem dX9_end_20 : decode cX9_end 20 = .ok (.aload_n 0, 1) := by decide +kernel
theorem dX9_end_21 : decode cX9_end 21 = .ok (.getfield 10, 3) := by decide +kernel
theorem dX9_end_24 : decode cX9_end 24 = .ok (.getfield 52, 3) := by decide +kernel
theorem dX9_end_27 : decode cX9_end 27 = .ok (.iload_n 1, 1) := by decide +kernel
theorem dX9_end_28 : decode cX9_end 28 = .ok (.putfield 56, 3) := by decide +kernel
theorem dX9_end_31 : decode cX9_end 31 = .ok (.iload_n 1, 1) := by decide +kernel
theorem dX9_end_32 : decode cX9_end 32 = .ok (.ireturn, 1) := by decide +kernel
set_option maxRecDepth 20000 in
theorem dX9_text_0 : decode cX9_text 0 = .ok (.aload_n 0, 1) := by decide +kernel
theorem dX9_text_1 : decode cX9_text 1 = .ok (.getfield 10, 3) := by decide +kernel
theorem dX9_text_4 : decode cX9_text 4 = .ok (.iload_n 1, 1) := by decide +kernel
theorem dX9_text_5 : decode cX9_text 5 = .ok (.iload_n 2, 1) := by decide +kernel
theorem dX9_text_6 : decode cX9_text 6 = .ok (.invokevirtual 66, 3) := by decide +kernel
theorem dX9_text_9 : decode cX9_text 9 = .ok (.istore_n 3, 1) := by decide +kernel
theorem dX9_text_10 : decode cX9_text 10 = .ok (.iload_n 3, 1) := by decide +kernel
theorem dX9_text_11 : decode cX9_text 11 = .ok (.bipush (-2), 2) := by decide +kernel
theorem dX9_text_13 : decode cX9_text 13 = .ok (.if_icmp .ne 33, 3) := by decide +kernel
theorem dX9_text_16 : decode cX9_text 16 = .ok (.aload_n 0, 1) := by decide +kernel
theorem dX9_text_17 : decode cX9_text 17 = .ok (.getfield 10, 3) := by decide +kernel
theorem dX9_text_20 : decode cX9_text 20 = .ok (.getfield 52, 3) := by decide +kernel
theorem dX9_text_23 : decode cX9_text 23 = .ok (.iconst 0, 1) := by decide +kernel
theorem dX9_text_24 : decode cX9_text 24 = .ok (.putfield 56, 3) := by decide +kernel
theorem dX9_text_27 : decode cX9_text 27 = .ok (.aload_n 0, 1) := by decide +kernel
theorem dX9_text_28 : decode cX9_text 28 = .ok (.getfield 10, 3) := by decide +kernel
theorem dX9_text_31 : decode cX9_text 31 = .ok (.iconst 0, 1) := by decide +kernel
theorem dX9_text_32 : decode cX9_text 32 = .ok (.putfield 70, 3) := by decide +kernel
theorem dX9_text_35 : decode cX9_text 35 = .ok (.aload_n 0, 1) := by decide +kernel
theorem dX9_text_36 : decode cX9_text 36 = .ok (.getfield 10, 3) := by decide +kernel
theorem dX9_text_39 : decode cX9_text 39 = .ok (.iconst (-1), 1) := by decide +kernel
theorem dX9_text_40 : decode cX9_text 40 = .ok (.putfield 73, 3) := by decide +kernel
theorem dX9_text_43 : decode cX9_text 43 = .ok (.bipush (-2), 2) := by decide +kernel
theorem dX9_text_45 : decode cX9_text 45 = .ok (.ireturn, 1) := by decide +kernel
theorem dX9_text_46 : decode cX9_text 46 = .ok (.aload_n 0, 1) := by decide +kernel
theorem dX9_text_47 : decode cX9_text 47 = .ok (.getfield 27, 3) := by decide +kernel
theorem dX9_text_50 : decode cX9_text 50 = .ok (.iload_n 1, 1) := by decide +kernel
theorem dX9_text_51 : decode cX9_text 51 = .ok (.aload_n 0, 1) := by decide +kernel
theorem dX9_text_52 : decode cX9_text 52 = .ok (.getfield 10, 3) := by decide +kernel
theorem dX9_text_55 : decode cX9_text 55 = .ok (.getfield 52, 3) := by decide +kernel
theorem dX9_text_58 : decode cX9_text 58 = .ok (.invokevirtual 76, 3) := by decide +kernel
theorem dX9_text_61 : decode cX9_text 61 = .ok (.aload_n 0, 1) := by decide +kernel
theorem dX9_text_62 : decode cX9_text 62 = .ok (.getfield 10, 3) := by decide +kernel
theorem dX9_text_65 : decode cX9_text 65 = .ok (.getfield 52, 3) := by decide +kernel
theorem dX9_text_68 : decode cX9_text 68 = .ok (.iconst 0, 1) := by decide +kernel
theorem dX9_text_69 : decode cX9_text 69 = .ok (.putfield 56, 3) := by decide +kernel
theorem dX9_text_72 : decode cX9_text 72 = .ok (.aload_n 0, 1) := by decide +kernel
theorem dX9_text_73 : decode cX9_text 73 = .ok (.getfield 10, 3) := by decide +kernel
theorem dX9_text_76 : decode cX9_text 76 = .ok (.aload_n 0, 1) := by decide +kernel
theorem dX9_text_77 : decode cX9_text 77 = .ok (.getfield 27, 3) := by decide +kernel
theorem dX9_text_80 : decode cX9_text 80 = .ok (.getfield 80, 3) := by decide +kernel
theorem dX9_text_83 : decode cX9_text 83 = .ok (.putfield 70, 3) := by decide +kernel
theorem dX9_text_86 : decode cX9_text 86 = .ok (.aload_n 0, 1) := by decide +kernel
theorem dX9_text_87 : decode cX9_text 87 = .ok (.getfield 10, 3) := by decide +kernel
theorem dX9_text_90 : decode cX9_text 90 = .ok (.aload_n 0, 1) := by decide +kernel
theorem dX9_text_91 : decode cX9_text 91 = .ok (.getfield 27, 3) := by decide +kernel
theorem dX9_text_94 : decode cX9_text 94 = .ok (.getfield 81, 3) := by decide +kernel
theorem dX9_text_97 : decode cX9_text 97 = .ok (.putfield 73, 3) := by decide +kernel
theorem dX9_text_100 : decode cX9_text 100 = .ok (.aload_n 0, 1) := by decide +kernel
theorem dX9_text_101 : decode cX9_text 101 = .ok (.getfield 27, 3) := by decide +kernel
theorem dX9_text_104 : decode cX9_text 104 = .ok (.getfield 80, 3) := by decide +kernel
theorem dX9_text_107 : decode cX9_text 107 = .ok (.ifCond .eq 5, 3) := by decide +kernel
theorem dX9_text_110 : decode cX9_text 110 = .ok (.iconst (-1), 1) := by decide +kernel
theorem dX9_text_111 : decode cX9_text 111 = .ok (.ireturn, 1) := by decide +kernel
theorem dX9_text_112 : decode cX9_text 112 = .ok (.aload_n 0, 1) := by decide +kernel
theorem dX9_text_113 : decode cX9_text 113 = .ok (.getfield 10, 3) := by decide +kernel
theorem dX9_text_116 : decode cX9_text 116 = .ok (.iload_n 1, 1) := by decide +kernel
theorem dX9_text_117 : decode cX9_text 117 = .ok (.iload_n 3, 1) := by decide +kernel
theorem dX9_text_118 : decode cX9_text 118 = .ok (.aload_n 0, 1) := by decide +kernel
theorem dX9_text_119 : decode cX9_text 119 = .ok (.getfield 27, 3) := by decide +kernel
theorem dX9_text_122 : decode cX9_text 122 = .ok (.invokevirtual 82, 3) := by decide +kernel
theorem dX9_text_125 : decode cX9_text 125 = .ok (.iload_n 3, 1) := by decide +kernel
theorem dX9_text_126 : decode cX9_text 126 = .ok (.ireturn, 1) := by decide +kernel
theorem dX9_fault_0 : decode cX9_fault 0 = .ok (.iload_n 1, 1) := by decide +kernel
theorem dX9_fault_1 : decode cX9_fault 1 = .ok (.ifCond .ne 13, 3) := by decide +kernel
theorem dX9_fault_4 : decode cX9_fault 4 = .ok (.aload_n 0, 1) := by decide +kernel
theorem dX9_fault_5 : decode cX9_fault 5 = .ok (.getfield 10, 3) := by decide +kernel
theorem dX9_fault_8 : decode cX9_fault 8 = .ok (.getfield 70, 3) := by decide +kernel
theorem dX9_fault_11 : decode cX9_fault 11 = .ok (.goto 19, 3) := by decide +kernel
theorem dX9_fault_14 : decode cX9_fault 14 = .ok (.iload_n 1, 1) := by decide +kernel
theorem dX9_fault_15 : decode cX9_fault 15 = .ok (.iconst 1, 1) := by decide +kernel
theorem dX9_fault_16 : decode cX9_fault 16 = .ok (.if_icmp .ne 13, 3) := by decide +kernel
theorem dX9_fault_19 : decode cX9_fault 19 = .ok (.aload_n 0, 1) := by decide +kernel
theorem dX9_fault_20 : decode cX9_fault 20 = .ok (.getfield 10, 3) := by decide +kernel
theorem dX9_fault_23 : decode cX9_fault 23 = .ok (.getfield 73, 3) := by decide +kernel
theorem dX9_fault_26 : decode cX9_fault 26 = .ok (.goto 4, 3) := by decide +kernel
theorem dX9_fault_29 : decode cX9_fault 29 = .ok (.iconst (-1), 1) := by decide +kernel
theorem dX9_fault_30 : decode cX9_fault 30 = .ok (.ireturn, 1) := by decide +kernel
set_option maxRecDepth 20000 in
theorem dX9_ship_0 : decode cX9_ship 0 = .ok (.aload_n 0, 1) := by decide +kernel
theorem dX9_ship_1 : decode cX9_ship 1 = .ok (.getfield 10, 3) := by decide +kernel
theorem dX9_ship_4 : decode cX9_ship 4 = .ok (.iload_n 1, 1) := by decide +kernel
theorem dX9_ship_5 : decode cX9_ship 5 = .ok (.invokevirtual 86, 3) := by decide +kernel
theorem dX9_ship_8 : decode cX9_ship 8 = .ok (.astore_n 3, 1) := by decide +kernel
theorem dX9_ship_9 : decode cX9_ship 9 = .ok (.aload_n 3, 1) := by decide +kernel
theorem dX9_ship_10 : decode cX9_ship 10 = .ok (.ifnonnull 8, 3) := by decide +kernel
theorem dX9_ship_13 : decode cX9_ship 13 = .ok (.ldc 90, 2) := by decide +kernel
theorem dX9_ship_15 : decode cX9_ship 15 = .ok (.goto 8, 3) := by decide +kernel
theorem dX9_ship_18 : decode cX9_ship 18 = .ok (.aload_n 3, 1) := by decide +kernel
theorem dX9_ship_19 : decode cX9_ship 19 = .ok (.iload_n 2, 1) := by decide +kernel
theorem dX9_ship_20 : decode cX9_ship 20 = .ok (.invokevirtual 91, 3) := by decide +kernel
theorem dX9_ship_23 : decode cX9_ship 23 = .ok (.ireturn, 1) := by decide +kernel
set_option maxRecDepth 20000 in
theorem dX9_hand_0 : decode cX9_hand 0 = .ok (.aload_n 0, 1) := by decide +kernel
theorem dX9_hand_1 : decode cX9_hand 1 = .ok (.getfield 10, 3) := by decide +kernel
theorem dX9_hand_4 : decode cX9_hand 4 = .ok (.iload_n 1, 1) := by decide +kernel
theorem dX9_hand_5 : decode cX9_hand 5 = .ok (.invokevirtual 95, 3) := by decide +kernel
theorem dX9_hand_8 : decode cX9_hand 8 = .ok (.astore_n 3, 1) := by decide +kernel
theorem dX9_hand_9 : decode cX9_hand 9 = .ok (.aload_n 3, 1) := by decide +kernel
theorem dX9_hand_10 : decode cX9_hand 10 = .ok (.ifnonnull 7, 3) := by decide +kernel
theorem dX9_hand_13 : decode cX9_hand 13 = .ok (.iconst (-1), 1) := by decide +kernel
theorem dX9_hand_14 : decode cX9_hand 14 = .ok (.goto 8, 3) := by decide +kernel
theorem dX9_hand_17 : decode cX9_hand 17 = .ok (.aload_n 3, 1) := by decide +kernel
theorem dX9_hand_18 : decode cX9_hand 18 = .ok (.iload_n 2, 1) := by decide +kernel
theorem dX9_hand_19 : decode cX9_hand 19 = .ok (.invokevirtual 99, 3) := by decide +kernel
theorem dX9_hand_22 : decode cX9_hand 22 = .ok (.ireturn, 1) := by decide +kernel
set_option maxRecDepth 20000 in
theorem dX9_paper_0 : decode cX9_paper 0 = .ok (.aload_n 0, 1) := by decide +kernel
theorem dX9_paper_1 : decode cX9_paper 1 = .ok (.getfield 10, 3) := by decide +kernel
theorem dX9_paper_4 : decode cX9_paper 4 = .ok (.iload_n 1, 1) := by decide +kernel
theorem dX9_paper_5 : decode cX9_paper 5 = .ok (.invokevirtual 100, 3) := by decide +kernel
theorem dX9_paper_8 : decode cX9_paper 8 = .ok (.astore_n 3, 1) := by decide +kernel
theorem dX9_paper_9 : decode cX9_paper 9 = .ok (.aload_n 3, 1) := by decide +kernel
theorem dX9_paper_10 : decode cX9_paper 10 = .ok (.ifnull 16, 3) := by decide +kernel
theorem dX9_paper_13 : decode cX9_paper 13 = .ok (.iload_n 2, 1) := by decide +kernel
theorem dX9_paper_14 : decode cX9_paper 14 = .ok (.iconst (-1), 1) := by decide +kernel
theorem dX9_paper_15 : decode cX9_paper 15 = .ok (.if_icmp .lt 11, 3) := by decide +kernel
theorem dX9_paper_18 : decode cX9_paper 18 = .ok (.iload_n 2, 1) := by decide +kernel
theorem dX9_paper_19 : decode cX9_paper 19 = .ok (.aload_n 3, 1) := by decide +kernel
theorem dX9_paper_20 : decode cX9_paper 20 = .ok (.getfield 104, 3) := by decide +kernel
theorem dX9_paper_23 : decode cX9_paper 23 = .ok (.if_icmp .lt 6, 3) := by decide +kernel
theorem dX9_paper_26 : decode cX9_paper 26 = .ok (.ldc 90, 2) := by decide +kernel
theorem dX9_paper_28 : decode cX9_paper 28 = .ok (.ireturn, 1) := by decide +kernel
theorem dX9_paper_29 : decode cX9_paper 29 = .ok (.iload_n 2, 1) := by decide +kernel
theorem dX9_paper_30 : decode cX9_paper 30 = .ok (.iconst (-1), 1) := by decide +kernel
theorem dX9_paper_31 : decode cX9_paper 31 = .ok (.if_icmp .ne 10, 3) := by decide +kernel
theorem dX9_paper_34 : decode cX9_paper 34 = .ok (.aload_n 3, 1) := by decide +kernel
theorem dX9_paper_35 : decode cX9_paper 35 = .ok (.getfield 104, 3) := by decide +kernel
theorem dX9_paper_38 : decode cX9_paper 38 = .ok (.goto 11, 3) := by decide +kernel
theorem dX9_paper_41 : decode cX9_paper 41 = .ok (.aload_n 3, 1) := by decide +kernel
theorem dX9_paper_42 : decode cX9_paper 42 = .ok (.getfield 109, 3) := by decide +kernel
theorem dX9_paper_45 : decode cX9_paper 45 = .ok (.iload_n 2, 1) := by decide +kernel
theorem dX9_paper_46 : decode cX9_paper 46 = .ok (.invokestatic 113, 3) := by decide +kernel
theorem dX9_paper_49 : decode cX9_paper 49 = .ok (.ireturn, 1) := by decide +kernel
set_option maxRecDepth 20000 in
theorem dX9_watch_0 : decode cX9_watch 0 = .ok (.aload_n 0, 1) := by decide +kernel
theorem dX9_watch_1 : decode cX9_watch 1 = .ok (.getfield 10, 3) := by decide +kernel
theorem dX9_watch_4 : decode cX9_watch 4 = .ok (.iload_n 1, 1) := by decide +kernel
theorem dX9_watch_5 : decode cX9_watch 5 = .ok (.invokevirtual 117, 3) := by decide +kernel
theorem dX9_watch_8 : decode cX9_watch 8 = .ok (.astore 4, 2) := by decide +kernel
theorem dX9_watch_10 : decode cX9_watch 10 = .ok (.aload 4, 2) := by decide +kernel
theorem dX9_watch_12 : decode cX9_watch 12 = .ok (.ifnull 17, 3) := by decide +kernel
theorem dX9_watch_15 : decode cX9_watch 15 = .ok (.iload_n 2, 1) := by decide +kernel
theorem dX9_watch_16 : decode cX9_watch 16 = .ok (.iconst (-1), 1) := by decide +kernel
theorem dX9_watch_17 : decode cX9_watch 17 = .ok (.if_icmp .lt 12, 3) := by decide +kernel
theorem dX9_watch_20 : decode cX9_watch 20 = .ok (.iload_n 2, 1) := by decide +kernel
theorem dX9_watch_21 : decode cX9_watch 21 = .ok (.aload 4, 2) := by decide +kernel
theorem dX9_watch_23 : decode cX9_watch 23 = .ok (.getfield 121, 3) := by decide +kernel
theorem dX9_watch_26 : decode cX9_watch 26 = .ok (.if_icmp .lt 5, 3) := by decide +kernel
theorem dX9_watch_29 : decode cX9_watch 29 = .ok (.iconst (-1), 1) := by decide +kernel
theorem dX9_watch_30 : decode cX9_watch 30 = .ok (.ireturn, 1) := by decide +kernel
theorem dX9_watch_31 : decode cX9_watch 31 = .ok (.iload_n 2, 1) := by decide +kernel
theorem dX9_watch_32 : decode cX9_watch 32 = .ok (.iconst (-1), 1) := by decide +kernel
theorem dX9_watch_33 : decode cX9_watch 33 = .ok (.if_icmp .ne 17, 3) := by decide +kernel
theorem dX9_watch_36 : decode cX9_watch 36 = .ok (.iload_n 3, 1) := by decide +kernel
theorem dX9_watch_37 : decode cX9_watch 37 = .ok (.ifCond .ne 11, 3) := by decide +kernel
theorem dX9_watch_40 : decode cX9_watch 40 = .ok (.aload 4, 2) := by decide +kernel
theorem dX9_watch_42 : decode cX9_watch 42 = .ok (.getfield 121, 3) := by decide +kernel
theorem dX9_watch_45 : decode cX9_watch 45 = .ok (.goto 4, 3) := by decide +kernel
theorem dX9_watch_48 : decode cX9_watch 48 = .ok (.iconst (-1), 1) := by decide +kernel
theorem dX9_watch_49 : decode cX9_watch 49 = .ok (.ireturn, 1) := by decide +kernel
theorem dX9_watch_50 : decode cX9_watch 50 = .ok (.iload_n 3, 1) := by decide +kernel
theorem dX9_watch_51 : decode cX9_watch 51 = .ok (.ifCond .ne 15, 3) := by decide +kernel
theorem dX9_watch_54 : decode cX9_watch 54 = .ok (.aload 4, 2) := by decide +kernel
theorem dX9_watch_56 : decode cX9_watch 56 = .ok (.getfield 126, 3) := by decide +kernel
theorem dX9_watch_59 : decode cX9_watch 59 = .ok (.iload_n 2, 1) := by decide +kernel
theorem dX9_watch_60 : decode cX9_watch 60 = .ok (.invokestatic 113, 3) := by decide +kernel
theorem dX9_watch_63 : decode cX9_watch 63 = .ok (.goto 21, 3) := by decide +kernel
theorem dX9_watch_66 : decode cX9_watch 66 = .ok (.iload_n 3, 1) := by decide +kernel
theorem dX9_watch_67 : decode cX9_watch 67 = .ok (.iconst 1, 1) := by decide +kernel
theorem dX9_watch_68 : decode cX9_watch 68 = .ok (.if_icmp .ne 15, 3) := by decide +kernel
theorem dX9_watch_71 : decode cX9_watch 71 = .ok (.aload 4, 2) := by decide +kernel
theorem dX9_watch_73 : decode cX9_watch 73 = .ok (.getfield 129, 3) := by decide +kernel
theorem dX9_watch_76 : decode cX9_watch 76 = .ok (.iload_n 2, 1) := by decide +kernel
theorem dX9_watch_77 : decode cX9_watch 77 = .ok (.invokestatic 113, 3) := by decide +kernel
theorem dX9_watch_80 : decode cX9_watch 80 = .ok (.goto 4, 3) := by decide +kernel
theorem dX9_watch_83 : decode cX9_watch 83 = .ok (.iconst (-1), 1) := by decide +kernel
theorem dX9_watch_84 : decode cX9_watch 84 = .ok (.ireturn, 1) := by decide +kernel
set_option maxRecDepth 20000 in
theorem dX9_second_0 : decode cX9_second 0 = .ok (.iload 4, 2) := by decide +kernel
theorem dX9_second_2 : decode cX9_second 2 = .ok (.ifCond .lt 23, 3) := by decide +kernel
theorem dX9_second_5 : decode cX9_second 5 = .ok (.iload 4, 2) := by decide +kernel
theorem dX9_second_7 : decode cX9_second 7 = .ok (.sipush 400, 3) := by decide +kernel
theorem dX9_second_10 : decode cX9_second 10 = .ok (.if_icmp .gt 15, 3) := by decide +kernel
theorem dX9_second_13 : decode cX9_second 13 = .ok (.aload_n 0, 1) := by decide +kernel
theorem dX9_second_14 : decode cX9_second 14 = .ok (.iload_n 1, 1) := by decide +kernel
theorem dX9_second_15 : decode cX9_second 15 = .ok (.iload_n 2, 1) := by decide +kernel
theorem dX9_second_16 : decode cX9_second 16 = .ok (.iload_n 3, 1) := by decide +kernel
theorem dX9_second_17 : decode cX9_second 17 = .ok (.iload 4, 2) := by decide +kernel
theorem dX9_second_19 : decode cX9_second 19 = .ok (.invokevirtual 132, 3) := by decide +kernel
theorem dX9_second_22 : decode cX9_second 22 = .ok (.ifCond .ne 6, 3) := by decide +kernel
theorem dX9_second_25 : decode cX9_second 25 = .ok (.ldc 90, 2) := by decide +kernel
theorem dX9_second_27 : decode cX9_second 27 = .ok (.ireturn, 1) := by decide +kernel
theorem dX9_second_28 : decode cX9_second 28 = .ok (.iload 5, 2) := by decide +kernel
theorem dX9_second_30 : decode cX9_second 30 = .ok (.tableswitch 82 0 3 #[30, 43, 56, 69], 30) := by decide +kernel
theorem dX9_second_60 : decode cX9_second 60 = .ok (.aload_n 0, 1) := by decide +kernel
theorem dX9_second_61 : decode cX9_second 61 = .ok (.getfield 34, 3) := by decide +kernel
theorem dX9_second_64 : decode cX9_second 64 = .ok (.getfield 136, 3) := by decide +kernel
theorem dX9_second_67 : decode cX9_second 67 = .ok (.iload 4, 2) := by decide +kernel
theorem dX9_second_69 : decode cX9_second 69 = .ok (.invokestatic 113, 3) := by decide +kernel
theorem dX9_second_72 : decode cX9_second 72 = .ok (.ireturn, 1) := by decide +kernel
theorem dX9_second_73 : decode cX9_second 73 = .ok (.aload_n 0, 1) := by decide +kernel
theorem dX9_second_74 : decode cX9_second 74 = .ok (.getfield 34, 3) := by decide +kernel
theorem dX9_second_77 : decode cX9_second 77 = .ok (.getfield 137, 3) := by decide +kernel
theorem dX9_second_80 : decode cX9_second 80 = .ok (.iload 4, 2) := by decide +kernel
theorem dX9_second_82 : decode cX9_second 82 = .ok (.invokestatic 113, 3) := by decide +kernel
theorem dX9_second_85 : decode cX9_second 85 = .ok (.ireturn, 1) := by decide +kernel
theorem dX9_second_86 : decode cX9_second 86 = .ok (.aload_n 0, 1) := by decide +kernel
theorem dX9_second_87 : decode cX9_second 87 = .ok (.getfield 34, 3) := by decide +kernel
theorem dX9_second_90 : decode cX9_second 90 = .ok (.getfield 140, 3) := by decide +kernel
theorem dX9_second_93 : decode cX9_second 93 = .ok (.iload 4, 2) := by decide +kernel
theorem dX9_second_95 : decode cX9_second 95 = .ok (.invokestatic 113, 3) := by decide +kernel
theorem dX9_second_98 : decode cX9_second 98 = .ok (.ireturn, 1) := by decide +kernel
theorem dX9_second_99 : decode cX9_second 99 = .ok (.aload_n 0, 1) := by decide +kernel
theorem dX9_second_100 : decode cX9_second 100 = .ok (.getfield 34, 3) := by decide +kernel
theorem dX9_second_103 : decode cX9_second 103 = .ok (.getfield 143, 3) := by decide +kernel
theorem dX9_second_106 : decode cX9_second 106 = .ok (.iload 4, 2) := by decide +kernel
theorem dX9_second_108 : decode cX9_second 108 = .ok (.invokestatic 113, 3) := by decide +kernel
theorem dX9_second_111 : decode cX9_second 111 = .ok (.ireturn, 1) := by decide +kernel
theorem dX9_second_112 : decode cX9_second 112 = .ok (.ldc 90, 2) := by decide +kernel
theorem dX9_second_114 : decode cX9_second 114 = .ok (.ireturn, 1) := by decide +kernel
set_option maxRecDepth 20000 in
theorem dX9_run_0 : decode cX9_run 0 = .ok (.iload 4, 2) := by decide +kernel
theorem dX9_run_2 : decode cX9_run 2 = .ok (.iconst 1, 1) := by decide +kernel
theorem dX9_run_3 : decode cX9_run 3 = .ok (.if_icmp .lt 23, 3) := by decide +kernel
theorem dX9_run_6 : decode cX9_run 6 = .ok (.iload 4, 2) := by decide +kernel
theorem dX9_run_8 : decode cX9_run 8 = .ok (.sipush 400, 3) := by decide +kernel
theorem dX9_run_11 : decode cX9_run 11 = .ok (.if_icmp .gt 15, 3) := by decide +kernel
theorem dX9_run_14 : decode cX9_run 14 = .ok (.aload_n 0, 1) := by decide +kernel
theorem dX9_run_15 : decode cX9_run 15 = .ok (.iload_n 1, 1) := by decide +kernel
theorem dX9_run_16 : decode cX9_run 16 = .ok (.iload_n 2, 1) := by decide +kernel
theorem dX9_run_17 : decode cX9_run 17 = .ok (.iload_n 3, 1) := by decide +kernel
theorem dX9_run_18 : decode cX9_run 18 = .ok (.iload 4, 2) := by decide +kernel
theorem dX9_run_20 : decode cX9_run 20 = .ok (.invokevirtual 132, 3) := by decide +kernel
theorem dX9_run_23 : decode cX9_run 23 = .ok (.ifCond .ne 7, 3) := by decide +kernel
theorem dX9_run_26 : decode cX9_run 26 = .ok (.ldc2_w 146, 3) := by decide +kernel
theorem dX9_run_29 : decode cX9_run 29 = .ok (.lreturn, 1) := by decide +kernel
theorem dX9_run_30 : decode cX9_run 30 = .ok (.aload_n 0, 1) := by decide +kernel
theorem dX9_run_31 : decode cX9_run 31 = .ok (.getfield 34, 3) := by decide +kernel
theorem dX9_run_34 : decode cX9_run 34 = .ok (.iload 5, 2) := by decide +kernel
theorem dX9_run_36 : decode cX9_run 36 = .ok (.invokevirtual 148, 3) := by decide +kernel
theorem dX9_run_39 : decode cX9_run 39 = .ok (.lreturn, 1) := by decide +kernel
set_option maxRecDepth 20000 in
theorem dX9_peak_0 : decode cX9_peak 0 = .ok (.iload 4, 2) := by decide +kernel
theorem dX9_peak_2 : decode cX9_peak 2 = .ok (.iconst 1, 1) := by decide +kernel
theorem dX9_peak_3 : decode cX9_peak 3 = .ok (.if_icmp .lt 23, 3) := by decide +kernel
theorem dX9_peak_6 : decode cX9_peak 6 = .ok (.iload 4, 2) := by decide +kernel
theorem dX9_peak_8 : decode cX9_peak 8 = .ok (.sipush 400, 3) := by decide +kernel
theorem dX9_peak_11 : decode cX9_peak 11 = .ok (.if_icmp .gt 15, 3) := by decide +kernel
theorem dX9_peak_14 : decode cX9_peak 14 = .ok (.aload_n 0, 1) := by decide +kernel
theorem dX9_peak_15 : decode cX9_peak 15 = .ok (.iload_n 1, 1) := by decide +kernel
theorem dX9_peak_16 : decode cX9_peak 16 = .ok (.iload_n 2, 1) := by decide +kernel
theorem dX9_peak_17 : decode cX9_peak 17 = .ok (.iload_n 3, 1) := by decide +kernel
theorem dX9_peak_18 : decode cX9_peak 18 = .ok (.iload 4, 2) := by decide +kernel
theorem dX9_peak_20 : decode cX9_peak 20 = .ok (.invokevirtual 132, 3) := by decide +kernel
theorem dX9_peak_23 : decode cX9_peak 23 = .ok (.ifCond .ne 5, 3) := by decide +kernel
theorem dX9_peak_26 : decode cX9_peak 26 = .ok (.iconst (-1), 1) := by decide +kernel
theorem dX9_peak_27 : decode cX9_peak 27 = .ok (.ireturn, 1) := by decide +kernel
theorem dX9_peak_28 : decode cX9_peak 28 = .ok (.aload_n 0, 1) := by decide +kernel
theorem dX9_peak_29 : decode cX9_peak 29 = .ok (.getfield 34, 3) := by decide +kernel
theorem dX9_peak_32 : decode cX9_peak 32 = .ok (.iload 5, 2) := by decide +kernel
theorem dX9_peak_34 : decode cX9_peak 34 = .ok (.invokevirtual 152, 3) := by decide +kernel
theorem dX9_peak_37 : decode cX9_peak 37 = .ok (.ireturn, 1) := by decide +kernel
set_option maxRecDepth 20000 in
theorem dX9_found_0 : decode cX9_found 0 = .ok (.aload_n 0, 1) := by decide +kernel
theorem dX9_found_1 : decode cX9_found 1 = .ok (.iload_n 1, 1) := by decide +kernel
theorem dX9_found_2 : decode cX9_found 2 = .ok (.iload_n 2, 1) := by decide +kernel
theorem dX9_found_3 : decode cX9_found 3 = .ok (.iload_n 3, 1) := by decide +kernel
theorem dX9_found_4 : decode cX9_found 4 = .ok (.invokevirtual 155, 3) := by decide +kernel
theorem dX9_found_7 : decode cX9_found 7 = .ok (.ifCond .ne 7, 3) := by decide +kernel
theorem dX9_found_10 : decode cX9_found 10 = .ok (.ldc2_w 159, 3) := by decide +kernel
theorem dX9_found_13 : decode cX9_found 13 = .ok (.lreturn, 1) := by decide +kernel
theorem dX9_found_14 : decode cX9_found 14 = .ok (.aload_n 0, 1) := by decide +kernel
theorem dX9_found_15 : decode cX9_found 15 = .ok (.aconst_null, 1) := by decide +kernel
theorem dX9_found_16 : decode cX9_found 16 = .ok (.iload_n 3, 1) := by decide +kernel
theorem dX9_found_17 : decode cX9_found 17 = .ok (.iload 4, 2) := by decide +kernel
theorem dX9_found_19 : decode cX9_found 19 = .ok (.iload 5, 2) := by decide +kernel
theorem dX9_found_21 : decode cX9_found 21 = .ok (.iload 6, 2) := by decide +kernel
theorem dX9_found_23 : decode cX9_found 23 = .ok (.invokevirtual 161, 3) := by decide +kernel
theorem dX9_found_26 : decode cX9_found 26 = .ok (.lreturn, 1) := by decide +kernel
set_option maxRecDepth 20000 in
theorem dX9_iron_0 : decode cX9_iron 0 = .ok (.aload_n 0, 1) := by decide +kernel
theorem dX9_iron_1 : decode cX9_iron 1 = .ok (.iload_n 1, 1) := by decide +kernel
theorem dX9_iron_2 : decode cX9_iron 2 = .ok (.iload_n 2, 1) := by decide +kernel
theorem dX9_iron_3 : decode cX9_iron 3 = .ok (.iload_n 3, 1) := by decide +kernel
theorem dX9_iron_4 : decode cX9_iron 4 = .ok (.invokevirtual 155, 3) := by decide +kernel
theorem dX9_iron_7 : decode cX9_iron 7 = .ok (.ifCond .ne 7, 3) := by decide +kernel
theorem dX9_iron_10 : decode cX9_iron 10 = .ok (.ldc2_w 159, 3) := by decide +kernel
theorem dX9_iron_13 : decode cX9_iron 13 = .ok (.lreturn, 1) := by decide +kernel
theorem dX9_iron_14 : decode cX9_iron 14 = .ok (.iconst (-1), 1) := by decide +kernel
theorem dX9_iron_15 : decode cX9_iron 15 = .ok (.istore 5, 2) := by decide +kernel
theorem dX9_iron_17 : decode cX9_iron 17 = .ok (.ldc2_w 165, 3) := by decide +kernel
theorem dX9_iron_20 : decode cX9_iron 20 = .ok (.lstore 6, 2) := by decide +kernel
theorem dX9_iron_22 : decode cX9_iron 22 = .ok (.iconst 0, 1) := by decide +kernel
theorem dX9_iron_23 : decode cX9_iron 23 = .ok (.istore 8, 2) := by decide +kernel
theorem dX9_iron_25 : decode cX9_iron 25 = .ok (.iload 8, 2) := by decide +kernel
theorem dX9_iron_27 : decode cX9_iron 27 = .ok (.bipush 20, 2) := by decide +kernel
theorem dX9_iron_29 : decode cX9_iron 29 = .ok (.if_icmp .gt 35, 3) := by decide +kernel
theorem dX9_iron_32 : decode cX9_iron 32 = .ok (.aload_n 0, 1) := by decide +kernel
theorem dX9_iron_33 : decode cX9_iron 33 = .ok (.iconst 2, 1) := by decide +kernel
theorem dX9_iron_34 : decode cX9_iron 34 = .ok (.iload 8, 2) := by decide +kernel
theorem dX9_iron_36 : decode cX9_iron 36 = .ok (.iload_n 3, 1) := by decide +kernel
theorem dX9_iron_37 : decode cX9_iron 37 = .ok (.invokevirtual 167, 3) := by decide +kernel
theorem dX9_iron_40 : decode cX9_iron 40 = .ok (.lstore 9, 2) := by decide +kernel
theorem dX9_iron_42 : decode cX9_iron 42 = .ok (.lload 9, 2) := by decide +kernel
theorem dX9_iron_44 : decode cX9_iron 44 = .ok (.lload 6, 2) := by decide +kernel
theorem dX9_iron_46 : decode cX9_iron 46 = .ok (.lcmp, 1) := by decide +kernel
theorem dX9_iron_47 : decode cX9_iron 47 = .ok (.ifCond .ge 11, 3) := by decide +kernel
theorem dX9_iron_50 : decode cX9_iron 50 = .ok (.lload 9, 2) := by decide +kernel
theorem dX9_iron_52 : decode cX9_iron 52 = .ok (.lstore 6, 2) := by decide +kernel
theorem dX9_iron_54 : decode cX9_iron 54 = .ok (.iload 8, 2) := by decide +kernel
theorem dX9_iron_56 : decode cX9_iron 56 = .ok (.istore 5, 2) := by decide +kernel
theorem dX9_iron_58 : decode cX9_iron 58 = .ok (.iinc 8 1, 3) := by decide +kernel
theorem dX9_iron_61 : decode cX9_iron 61 = .ok (.goto (-36), 3) := by decide +kernel
theorem dX9_iron_64 : decode cX9_iron 64 = .ok (.iload 4, 2) := by decide +kernel
theorem dX9_iron_66 : decode cX9_iron 66 = .ok (.ifCond .eq 8, 3) := by decide +kernel
theorem dX9_iron_69 : decode cX9_iron 69 = .ok (.lload 6, 2) := by decide +kernel
theorem dX9_iron_71 : decode cX9_iron 71 = .ok (.goto 6, 3) := by decide +kernel
theorem dX9_iron_74 : decode cX9_iron 74 = .ok (.iload 5, 2) := by decide +kernel
theorem dX9_iron_76 : decode cX9_iron 76 = .ok (.i2l, 1) := by decide +kernel
theorem dX9_iron_77 : decode cX9_iron 77 = .ok (.lreturn, 1) := by decide +kernel
set_option maxRecDepth 20000 in
theorem dX9_line_0 : decode cX9_line 0 = .ok (.aload_n 0, 1) := by decide +kernel
theorem dX9_line_1 : decode cX9_line 1 = .ok (.iload_n 1, 1) := by decide +kernel
theorem dX9_line_2 : decode cX9_line 2 = .ok (.iload_n 2, 1) := by decide +kernel
theorem dX9_line_3 : decode cX9_line 3 = .ok (.iload_n 3, 1) := by decide +kernel
theorem dX9_line_4 : decode cX9_line 4 = .ok (.iload 4, 2) := by decide +kernel
theorem dX9_line_6 : decode cX9_line 6 = .ok (.invokevirtual 171, 3) := by decide +kernel
theorem dX9_line_9 : decode cX9_line 9 = .ok (.ifCond .ne 5, 3) := by decide +kernel
theorem dX9_line_12 : decode cX9_line 12 = .ok (.iconst (-1), 1) := by decide +kernel
theorem dX9_line_13 : decode cX9_line 13 = .ok (.ireturn, 1) := by decide +kernel
theorem dX9_line_14 : decode cX9_line 14 = .ok (.bipush 99, 2) := by decide +kernel
theorem dX9_line_16 : decode cX9_line 16 = .ok (.istore 5, 2) := by decide +kernel
theorem dX9_line_18 : decode cX9_line 18 = .ok (.iload 5, 2) := by decide +kernel
theorem dX9_line_20 : decode cX9_line 20 = .ok (.ifCond .lt 23, 3) := by decide +kernel
theorem dX9_line_23 : decode cX9_line 23 = .ok (.aload_n 0, 1) := by decide +kernel
theorem dX9_line_24 : decode cX9_line 24 = .ok (.iconst 0, 1) := by decide +kernel
theorem dX9_line_25 : decode cX9_line 25 = .ok (.iload 5, 2) := by decide +kernel
theorem dX9_line_27 : decode cX9_line 27 = .ok (.iload_n 3, 1) := by decide +kernel
theorem dX9_line_28 : decode cX9_line 28 = .ok (.invokevirtual 174, 3) := by decide +kernel
theorem dX9_line_31 : decode cX9_line 31 = .ok (.ifCond .ne 6, 3) := by decide +kernel
theorem dX9_line_34 : decode cX9_line 34 = .ok (.iload 5, 2) := by decide +kernel
theorem dX9_line_36 : decode cX9_line 36 = .ok (.ireturn, 1) := by decide +kernel
theorem dX9_line_37 : decode cX9_line 37 = .ok (.iinc 5 (-1), 3) := by decide +kernel
theorem dX9_line_40 : decode cX9_line 40 = .ok (.goto (-22), 3) := by decide +kernel
theorem dX9_line_43 : decode cX9_line 43 = .ok (.iconst (-1), 1) := by decide +kernel
theorem dX9_line_44 : decode cX9_line 44 = .ok (.ireturn, 1) := by decide +kernel
set_option maxRecDepth 20000 in
theorem dX9_alone_0 : decode cX9_alone 0 = .ok (.aload_n 0, 1) := by decide +kernel
theorem dX9_alone_1 : decode cX9_alone 1 = .ok (.getfield 10, 3) := by decide +kernel
theorem dX9_alone_4 : decode cX9_alone 4 = .ok (.iload_n 1, 1) := by decide +kernel
theorem dX9_alone_5 : decode cX9_alone 5 = .ok (.invokevirtual 86, 3) := by decide +kernel
theorem dX9_alone_8 : decode cX9_alone 8 = .ok (.astore 4, 2) := by decide +kernel
theorem dX9_alone_10 : decode cX9_alone 10 = .ok (.aload 4, 2) := by decide +kernel
theorem dX9_alone_12 : decode cX9_alone 12 = .ok (.ifnull 14, 3) := by decide +kernel
theorem dX9_alone_15 : decode cX9_alone 15 = .ok (.iload_n 2, 1) := by decide +kernel
theorem dX9_alone_16 : decode cX9_alone 16 = .ok (.invokestatic 177, 3) := by decide +kernel
theorem dX9_alone_19 : decode cX9_alone 19 = .ok (.ifCond .eq 7, 3) := by decide +kernel
theorem dX9_alone_22 : decode cX9_alone 22 = .ok (.iload_n 3, 1) := by decide +kernel
theorem dX9_alone_23 : decode cX9_alone 23 = .ok (.ifCond .ge 5, 3) := by decide +kernel
theorem dX9_alone_26 : decode cX9_alone 26 = .ok (.iconst (-1), 1) := by decide +kernel
theorem dX9_alone_27 : decode cX9_alone 27 = .ok (.ireturn, 1) := by decide +kernel
theorem dX9_alone_28 : decode cX9_alone 28 = .ok (.aload_n 0, 1) := by decide +kernel
theorem dX9_alone_29 : decode cX9_alone 29 = .ok (.getfield 41, 3) := by decide +kernel
theorem dX9_alone_32 : decode cX9_alone 32 = .ok (.aload 4, 2) := by decide +kernel
theorem dX9_alone_34 : decode cX9_alone 34 = .ok (.invokevirtual 181, 3) := by decide +kernel
theorem dX9_alone_37 : decode cX9_alone 37 = .ok (.iconst 0, 1) := by decide +kernel
theorem dX9_alone_38 : decode cX9_alone 38 = .ok (.istore 5, 2) := by decide +kernel
theorem dX9_alone_40 : decode cX9_alone 40 = .ok (.iload 5, 2) := by decide +kernel
theorem dX9_alone_42 : decode cX9_alone 42 = .ok (.bipush 99, 2) := by decide +kernel
theorem dX9_alone_44 : decode cX9_alone 44 = .ok (.if_icmp .gt 50, 3) := by decide +kernel
theorem dX9_alone_47 : decode cX9_alone 47 = .ok (.aload_n 0, 1) := by decide +kernel
theorem dX9_alone_48 : decode cX9_alone 48 = .ok (.getfield 41, 3) := by decide +kernel
theorem dX9_alone_51 : decode cX9_alone 51 = .ok (.bipush 7, 2) := by decide +kernel
theorem dX9_alone_53 : decode cX9_alone 53 = .ok (.iload 5, 2) := by decide +kernel
theorem dX9_alone_55 : decode cX9_alone 55 = .ok (.invokevirtual 185, 3) := by decide +kernel
theorem dX9_alone_58 : decode cX9_alone 58 = .ok (.aload_n 0, 1) := by decide +kernel
theorem dX9_alone_59 : decode cX9_alone 59 = .ok (.getfield 34, 3) := by decide +kernel
theorem dX9_alone_62 : decode cX9_alone 62 = .ok (.aload_n 0, 1) := by decide +kernel
theorem dX9_alone_63 : decode cX9_alone 63 = .ok (.getfield 41, 3) := by decide +kernel
theorem dX9_alone_66 : decode cX9_alone 66 = .ok (.aconst_null, 1) := by decide +kernel
theorem dX9_alone_67 : decode cX9_alone 67 = .ok (.iconst 0, 1) := by decide +kernel
theorem dX9_alone_68 : decode cX9_alone 68 = .ok (.iload_n 2, 1) := by decide +kernel
theorem dX9_alone_69 : decode cX9_alone 69 = .ok (.invokevirtual 189, 3) := by decide +kernel
theorem dX9_alone_72 : decode cX9_alone 72 = .ok (.aload_n 0, 1) := by decide +kernel
theorem dX9_alone_73 : decode cX9_alone 73 = .ok (.getfield 34, 3) := by decide +kernel
theorem dX9_alone_76 : decode cX9_alone 76 = .ok (.invokevirtual 193, 3) := by decide +kernel
theorem dX9_alone_79 : decode cX9_alone 79 = .ok (.iload_n 3, 1) := by decide +kernel
theorem dX9_alone_80 : decode cX9_alone 80 = .ok (.i2l, 1) := by decide +kernel
theorem dX9_alone_81 : decode cX9_alone 81 = .ok (.lcmp, 1) := by decide +kernel
theorem dX9_alone_82 : decode cX9_alone 82 = .ok (.ifCond .gt 6, 3) := by decide +kernel
theorem dX9_alone_85 : decode cX9_alone 85 = .ok (.iload 5, 2) := by decide +kernel
theorem dX9_alone_87 : decode cX9_alone 87 = .ok (.ireturn, 1) := by decide +kernel
theorem dX9_alone_88 : decode cX9_alone 88 = .ok (.iinc 5 1, 3) := by decide +kernel
theorem dX9_alone_91 : decode cX9_alone 91 = .ok (.goto (-51), 3) := by decide +kernel
theorem dX9_alone_94 : decode cX9_alone 94 = .ok (.iconst (-1), 1) := by decide +kernel
theorem dX9_alone_95 : decode cX9_alone 95 = .ok (.ireturn, 1) := by decide +kernel
set_option maxRecDepth 20000 in
theorem dX9_hard_0 : decode cX9_hard 0 = .ok (.aload_n 0, 1) := by decide +kernel
theorem dX9_hard_1 : decode cX9_hard 1 = .ok (.getfield 10, 3) := by decide +kernel
theorem dX9_hard_4 : decode cX9_hard 4 = .ok (.iload_n 1, 1) := by decide +kernel
theorem dX9_hard_5 : decode cX9_hard 5 = .ok (.invokevirtual 86, 3) := by decide +kernel
theorem dX9_hard_8 : decode cX9_hard 8 = .ok (.astore 5, 2) := by decide +kernel
theorem dX9_hard_10 : decode cX9_hard 10 = .ok (.aload 5, 2) := by decide +kernel
theorem dX9_hard_12 : decode cX9_hard 12 = .ok (.ifnull 18, 3) := by decide +kernel
theorem dX9_hard_15 : decode cX9_hard 15 = .ok (.aload_n 0, 1) := by decide +kernel
theorem dX9_hard_16 : decode cX9_hard 16 = .ok (.iload_n 1, 1) := by decide +kernel
theorem dX9_hard_17 : decode cX9_hard 17 = .ok (.iload_n 2, 1) := by decide +kernel
theorem dX9_hard_18 : decode cX9_hard 18 = .ok (.iload_n 3, 1) := by decide +kernel
theorem dX9_hard_19 : decode cX9_hard 19 = .ok (.invokevirtual 155, 3) := by decide +kernel
theorem dX9_hard_22 : decode cX9_hard 22 = .ok (.ifCond .eq 8, 3) := by decide +kernel
theorem dX9_hard_25 : decode cX9_hard 25 = .ok (.iload 4, 2) := by decide +kernel
theorem dX9_hard_27 : decode cX9_hard 27 = .ok (.ifCond .ge 5, 3) := by decide +kernel
theorem dX9_hard_30 : decode cX9_hard 30 = .ok (.iconst (-1), 1) := by decide +kernel
theorem dX9_hard_31 : decode cX9_hard 31 = .ok (.ireturn, 1) := by decide +kernel
theorem dX9_hard_32 : decode cX9_hard 32 = .ok (.bipush 9, 2) := by decide +kernel
theorem dX9_hard_34 : decode cX9_hard 34 = .ok (.istore 6, 2) := by decide +kernel
theorem dX9_hard_36 : decode cX9_hard 36 = .ok (.iload 6, 2) := by decide +kernel
theorem dX9_hard_38 : decode cX9_hard 38 = .ok (.ifCond .lt 35, 3) := by decide +kernel
theorem dX9_hard_41 : decode cX9_hard 41 = .ok (.aload_n 0, 1) := by decide +kernel
theorem dX9_hard_42 : decode cX9_hard 42 = .ok (.getfield 41, 3) := by decide +kernel
theorem dX9_hard_45 : decode cX9_hard 45 = .ok (.aload 5, 2) := by decide +kernel
theorem dX9_hard_47 : decode cX9_hard 47 = .ok (.iload 6, 2) := by decide +kernel
theorem dX9_hard_49 : decode cX9_hard 49 = .ok (.invokevirtual 197, 3) := by decide +kernel
theorem dX9_hard_52 : decode cX9_hard 52 = .ok (.aload_n 0, 1) := by decide +kernel
theorem dX9_hard_53 : decode cX9_hard 53 = .ok (.iload_n 3, 1) := by decide +kernel
theorem dX9_hard_54 : decode cX9_hard 54 = .ok (.invokevirtual 201, 3) := by decide +kernel
theorem dX9_hard_57 : decode cX9_hard 57 = .ok (.iload 4, 2) := by decide +kernel
theorem dX9_hard_59 : decode cX9_hard 59 = .ok (.i2l, 1) := by decide +kernel
theorem dX9_hard_60 : decode cX9_hard 60 = .ok (.lcmp, 1) := by decide +kernel
theorem dX9_hard_61 : decode cX9_hard 61 = .ok (.ifCond .gt 6, 3) := by decide +kernel
theorem dX9_hard_64 : decode cX9_hard 64 = .ok (.iload 6, 2) := by decide +kernel
theorem dX9_hard_66 : decode cX9_hard 66 = .ok (.ireturn, 1) := by decide +kernel
theorem dX9_hard_67 : decode cX9_hard 67 = .ok (.iinc 6 (-1), 3) := by decide +kernel
theorem dX9_hard_70 : decode cX9_hard 70 = .ok (.goto (-34), 3) := by decide +kernel
theorem dX9_hard_73 : decode cX9_hard 73 = .ok (.iconst (-1), 1) := by decide +kernel
theorem dX9_hard_74 : decode cX9_hard 74 = .ok (.ireturn, 1) := by decide +kernel
set_option maxRecDepth 20000 in
theorem dX9_set_0 : decode cX9_set 0 = .ok (.aload_n 0, 1) := by decide +kernel
theorem dX9_set_1 : decode cX9_set 1 = .ok (.iload_n 1, 1) := by decide +kernel
theorem dX9_set_2 : decode cX9_set 2 = .ok (.iload_n 2, 1) := by decide +kernel
theorem dX9_set_3 : decode cX9_set 3 = .ok (.iload_n 3, 1) := by decide +kernel
theorem dX9_set_4 : decode cX9_set 4 = .ok (.invokevirtual 155, 3) := by decide +kernel
theorem dX9_set_7 : decode cX9_set 7 = .ok (.ifCond .ne 6, 3) := by decide +kernel
theorem dX9_set_10 : decode cX9_set 10 = .ok (.ldc 90, 2) := by decide +kernel
theorem dX9_set_12 : decode cX9_set 12 = .ok (.ireturn, 1) := by decide +kernel
theorem dX9_set_13 : decode cX9_set 13 = .ok (.aload_n 0, 1) := by decide +kernel
theorem dX9_set_14 : decode cX9_set 14 = .ok (.getfield 41, 3) := by decide +kernel
theorem dX9_set_17 : decode cX9_set 17 = .ok (.getfield 204, 3) := by decide +kernel
theorem dX9_set_20 : decode cX9_set 20 = .ok (.istore 4, 2) := by decide +kernel
theorem dX9_set_22 : decode cX9_set 22 = .ok (.ldc 90, 2) := by decide +kernel
theorem dX9_set_24 : decode cX9_set 24 = .ok (.istore 5, 2) := by decide +kernel
theorem dX9_set_26 : decode cX9_set 26 = .ok (.ldc2_w 165, 3) := by decide +kernel
theorem dX9_set_29 : decode cX9_set 29 = .ok (.lstore 6, 2) := by decide +kernel
theorem dX9_set_31 : decode cX9_set 31 = .ok (.bipush (-50), 2) := by decide +kernel
theorem dX9_set_33 : decode cX9_set 33 = .ok (.istore 8, 2) := by decide +kernel
theorem dX9_set_35 : decode cX9_set 35 = .ok (.iload 8, 2) := by decide +kernel
theorem dX9_set_37 : decode cX9_set 37 = .ok (.bipush 50, 2) := by decide +kernel
theorem dX9_set_39 : decode cX9_set 39 = .ok (.if_icmp .gt 66, 3) := by decide +kernel
theorem dX9_set_42 : decode cX9_set 42 = .ok (.aload_n 0, 1) := by decide +kernel
theorem dX9_set_43 : decode cX9_set 43 = .ok (.getfield 41, 3) := by decide +kernel
theorem dX9_set_46 : decode cX9_set 46 = .ok (.iload 4, 2) := by decide +kernel
theorem dX9_set_48 : decode cX9_set 48 = .ok (.iload 8, 2) := by decide +kernel
theorem dX9_set_50 : decode cX9_set 50 = .ok (.iadd, 1) := by decide +kernel
theorem dX9_set_51 : decode cX9_set 51 = .ok (.putfield 204, 3) := by decide +kernel
theorem dX9_set_54 : decode cX9_set 54 = .ok (.aload_n 0, 1) := by decide +kernel
theorem dX9_set_55 : decode cX9_set 55 = .ok (.getfield 34, 3) := by decide +kernel
theorem dX9_set_58 : decode cX9_set 58 = .ok (.aload_n 0, 1) := by decide +kernel
theorem dX9_set_59 : decode cX9_set 59 = .ok (.getfield 41, 3) := by decide +kernel
theorem dX9_set_62 : decode cX9_set 62 = .ok (.aload_n 0, 1) := by decide +kernel
theorem dX9_set_63 : decode cX9_set 63 = .ok (.getfield 48, 3) := by decide +kernel
theorem dX9_set_66 : decode cX9_set 66 = .ok (.iconst 0, 1) := by decide +kernel
theorem dX9_set_67 : decode cX9_set 67 = .ok (.iload_n 3, 1) := by decide +kernel
theorem dX9_set_68 : decode cX9_set 68 = .ok (.invokevirtual 189, 3) := by decide +kernel
theorem dX9_set_71 : decode cX9_set 71 = .ok (.aload_n 0, 1) := by decide +kernel
theorem dX9_set_72 : decode cX9_set 72 = .ok (.getfield 34, 3) := by decide +kernel
theorem dX9_set_75 : decode cX9_set 75 = .ok (.invokevirtual 207, 3) := by decide +kernel
theorem dX9_set_78 : decode cX9_set 78 = .ok (.invokestatic 210, 3) := by decide +kernel
theorem dX9_set_81 : decode cX9_set 81 = .ok (.lstore 9, 2) := by decide +kernel
theorem dX9_set_83 : decode cX9_set 83 = .ok (.lload 9, 2) := by decide +kernel
theorem dX9_set_85 : decode cX9_set 85 = .ok (.lload 6, 2) := by decide +kernel
theorem dX9_set_87 : decode cX9_set 87 = .ok (.lcmp, 1) := by decide +kernel
theorem dX9_set_88 : decode cX9_set 88 = .ok (.ifCond .ge 11, 3) := by decide +kernel
theorem dX9_set_91 : decode cX9_set 91 = .ok (.lload 9, 2) := by decide +kernel
theorem dX9_set_93 : decode cX9_set 93 = .ok (.lstore 6, 2) := by decide +kernel
theorem dX9_set_95 : decode cX9_set 95 = .ok (.iload 8, 2) := by decide +kernel
theorem dX9_set_97 : decode cX9_set 97 = .ok (.istore 5, 2) := by decide +kernel
theorem dX9_set_99 : decode cX9_set 99 = .ok (.iinc 8 1, 3) := by decide +kernel
theorem dX9_set_102 : decode cX9_set 102 = .ok (.goto (-67), 3) := by decide +kernel
theorem dX9_set_105 : decode cX9_set 105 = .ok (.iload 5, 2) := by decide +kernel
theorem dX9_set_107 : decode cX9_set 107 = .ok (.ireturn, 1) := by decide +kernel
set_option maxRecDepth 20000 in
theorem dX9_worth_0 : decode cX9_worth 0 = .ok (.aload_n 0, 1) := by decide +kernel
theorem dX9_worth_1 : decode cX9_worth 1 = .ok (.iload_n 1, 1) := by decide +kernel
theorem dX9_worth_2 : decode cX9_worth 2 = .ok (.iload_n 2, 1) := by decide +kernel
theorem dX9_worth_3 : decode cX9_worth 3 = .ok (.iload_n 3, 1) := by decide +kernel
theorem dX9_worth_4 : decode cX9_worth 4 = .ok (.invokevirtual 155, 3) := by decide +kernel
theorem dX9_worth_7 : decode cX9_worth 7 = .ok (.ifCond .ne 7, 3) := by decide +kernel
theorem dX9_worth_10 : decode cX9_worth 10 = .ok (.ldc2_w 146, 3) := by decide +kernel
theorem dX9_worth_13 : decode cX9_worth 13 = .ok (.lreturn, 1) := by decide +kernel
theorem dX9_worth_14 : decode cX9_worth 14 = .ok (.aload_n 0, 1) := by decide +kernel
theorem dX9_worth_15 : decode cX9_worth 15 = .ok (.iload_n 3, 1) := by decide +kernel
theorem dX9_worth_16 : decode cX9_worth 16 = .ok (.invokevirtual 216, 3) := by decide +kernel
theorem dX9_worth_19 : decode cX9_worth 19 = .ok (.lstore 5, 2) := by decide +kernel
theorem dX9_worth_21 : decode cX9_worth 21 = .ok (.iload 4, 2) := by decide +kernel
theorem dX9_worth_23 : decode cX9_worth 23 = .ok (.tableswitch 71 0 2 #[25, 42, 60], 25) := by decide +kernel
theorem dX9_worth_48 : decode cX9_worth 48 = .ok (.aload_n 0, 1) := by decide +kernel
theorem dX9_worth_49 : decode cX9_worth 49 = .ok (.getfield 48, 3) := by decide +kernel
theorem dX9_worth_52 : decode cX9_worth 52 = .ok (.iconst 0, 1) := by decide +kernel
theorem dX9_worth_53 : decode cX9_worth 53 = .ok (.putfield 219, 3) := by decide +kernel
theorem dX9_worth_56 : decode cX9_worth 56 = .ok (.aload_n 0, 1) := by decide +kernel
theorem dX9_worth_57 : decode cX9_worth 57 = .ok (.iload_n 3, 1) := by decide +kernel
theorem dX9_worth_58 : decode cX9_worth 58 = .ok (.invokevirtual 216, 3) := by decide +kernel
theorem dX9_worth_61 : decode cX9_worth 61 = .ok (.lload 5, 2) := by decide +kernel
theorem dX9_worth_63 : decode cX9_worth 63 = .ok (.lsub, 1) := by decide +kernel
theorem dX9_worth_64 : decode cX9_worth 64 = .ok (.lreturn, 1) := by decide +kernel
theorem dX9_worth_65 : decode cX9_worth 65 = .ok (.aload_n 0, 1) := by decide +kernel
theorem dX9_worth_66 : decode cX9_worth 66 = .ok (.bipush 8, 2) := by decide +kernel
theorem dX9_worth_68 : decode cX9_worth 68 = .ok (.iconst 1, 1) := by decide +kernel
theorem dX9_worth_69 : decode cX9_worth 69 = .ok (.iload_n 3, 1) := by decide +kernel
theorem dX9_worth_70 : decode cX9_worth 70 = .ok (.invokevirtual 167, 3) := by decide +kernel
theorem dX9_worth_73 : decode cX9_worth 73 = .ok (.aload_n 0, 1) := by decide +kernel
theorem dX9_worth_74 : decode cX9_worth 74 = .ok (.bipush 8, 2) := by decide +kernel
theorem dX9_worth_76 : decode cX9_worth 76 = .ok (.iconst 0, 1) := by decide +kernel
theorem dX9_worth_77 : decode cX9_worth 77 = .ok (.iload_n 3, 1) := by decide +kernel
theorem dX9_worth_78 : decode cX9_worth 78 = .ok (.invokevirtual 167, 3) := by decide +kernel
theorem dX9_worth_81 : decode cX9_worth 81 = .ok (.lsub, 1) := by decide +kernel
theorem dX9_worth_82 : decode cX9_worth 82 = .ok (.lreturn, 1) := by decide +kernel
theorem dX9_worth_83 : decode cX9_worth 83 = .ok (.aload_n 0, 1) := by decide +kernel
theorem dX9_worth_84 : decode cX9_worth 84 = .ok (.iconst 1, 1) := by decide +kernel
theorem dX9_worth_85 : decode cX9_worth 85 = .ok (.iconst 0, 1) := by decide +kernel
theorem dX9_worth_86 : decode cX9_worth 86 = .ok (.iload_n 3, 1) := by decide +kernel
theorem dX9_worth_87 : decode cX9_worth 87 = .ok (.invokevirtual 167, 3) := by decide +kernel
theorem dX9_worth_90 : decode cX9_worth 90 = .ok (.lload 5, 2) := by decide +kernel
theorem dX9_worth_92 : decode cX9_worth 92 = .ok (.lsub, 1) := by decide +kernel
theorem dX9_worth_93 : decode cX9_worth 93 = .ok (.lreturn, 1) := by decide +kernel
theorem dX9_worth_94 : decode cX9_worth 94 = .ok (.ldc2_w 146, 3) := by decide +kernel
theorem dX9_worth_97 : decode cX9_worth 97 = .ok (.lreturn, 1) := by decide +kernel
set_option maxRecDepth 20000 in
theorem dX9_night_0 : decode cX9_night 0 = .ok (.aload_n 0, 1) := by decide +kernel
theorem dX9_night_1 : decode cX9_night 1 = .ok (.iload_n 1, 1) := by decide +kernel
theorem dX9_night_2 : decode cX9_night 2 = .ok (.iload_n 2, 1) := by decide +kernel
theorem dX9_night_3 : decode cX9_night 3 = .ok (.iload_n 3, 1) := by decide +kernel
theorem dX9_night_4 : decode cX9_night 4 = .ok (.invokevirtual 155, 3) := by decide +kernel
theorem dX9_night_7 : decode cX9_night 7 = .ok (.ifCond .eq 16, 3) := by decide +kernel
theorem dX9_night_10 : decode cX9_night 10 = .ok (.iload 4, 2) := by decide +kernel
theorem dX9_night_12 : decode cX9_night 12 = .ok (.ifCond .lt 11, 3) := by decide +kernel
theorem dX9_night_15 : decode cX9_night 15 = .ok (.iload 4, 2) := by decide +kernel
theorem dX9_night_17 : decode cX9_night 17 = .ok (.sipush 999, 3) := by decide +kernel
theorem dX9_night_20 : decode cX9_night 20 = .ok (.if_icmp .le 7, 3) := by decide +kernel
theorem dX9_night_23 : decode cX9_night 23 = .ok (.ldc2_w 146, 3) := by decide +kernel
theorem dX9_night_26 : decode cX9_night 26 = .ok (.lreturn, 1) := by decide +kernel
theorem dX9_night_27 : decode cX9_night 27 = .ok (.aload_n 0, 1) := by decide +kernel
theorem dX9_night_28 : decode cX9_night 28 = .ok (.iconst 5, 1) := by decide +kernel
theorem dX9_night_29 : decode cX9_night 29 = .ok (.iload 4, 2) := by decide +kernel
theorem dX9_night_31 : decode cX9_night 31 = .ok (.iload_n 3, 1) := by decide +kernel
theorem dX9_night_32 : decode cX9_night 32 = .ok (.invokevirtual 167, 3) := by decide +kernel
theorem dX9_night_35 : decode cX9_night 35 = .ok (.aload_n 0, 1) := by decide +kernel
theorem dX9_night_36 : decode cX9_night 36 = .ok (.iconst 5, 1) := by decide +kernel
theorem dX9_night_37 : decode cX9_night 37 = .ok (.iconst 0, 1) := by decide +kernel
theorem dX9_night_38 : decode cX9_night 38 = .ok (.iload_n 3, 1) := by decide +kernel
theorem dX9_night_39 : decode cX9_night 39 = .ok (.invokevirtual 167, 3) := by decide +kernel
theorem dX9_night_42 : decode cX9_night 42 = .ok (.lsub, 1) := by decide +kernel
theorem dX9_night_43 : decode cX9_night 43 = .ok (.lreturn, 1) := by decide +kernel
set_option maxRecDepth 20000 in
theorem dX9_cloud_0 : decode cX9_cloud 0 = .ok (.aload_n 0, 1) := by decide +kernel
theorem dX9_cloud_1 : decode cX9_cloud 1 = .ok (.iload_n 1, 1) := by decide +kernel
theorem dX9_cloud_2 : decode cX9_cloud 2 = .ok (.iload_n 2, 1) := by decide +kernel
theorem dX9_cloud_3 : decode cX9_cloud 3 = .ok (.iload_n 3, 1) := by decide +kernel
theorem dX9_cloud_4 : decode cX9_cloud 4 = .ok (.invokevirtual 155, 3) := by decide +kernel
theorem dX9_cloud_7 : decode cX9_cloud 7 = .ok (.ifCond .eq 8, 3) := by decide +kernel
theorem dX9_cloud_10 : decode cX9_cloud 10 = .ok (.iload 4, 2) := by decide +kernel
theorem dX9_cloud_12 : decode cX9_cloud 12 = .ok (.ifCond .ge 5, 3) := by decide +kernel
theorem dX9_cloud_15 : decode cX9_cloud 15 = .ok (.iconst (-1), 1) := by decide +kernel
theorem dX9_cloud_16 : decode cX9_cloud 16 = .ok (.ireturn, 1) := by decide +kernel
theorem dX9_cloud_17 : decode cX9_cloud 17 = .ok (.iload_n 3, 1) := by decide +kernel
theorem dX9_cloud_18 : decode cX9_cloud 18 = .ok (.istore 5, 2) := by decide +kernel
theorem dX9_cloud_20 : decode cX9_cloud 20 = .ok (.iload 5, 2) := by decide +kernel
theorem dX9_cloud_22 : decode cX9_cloud 22 = .ok (.ifCond .lt 43, 3) := by decide +kernel
theorem dX9_cloud_25 : decode cX9_cloud 25 = .ok (.aload_n 0, 1) := by decide +kernel
theorem dX9_cloud_26 : decode cX9_cloud 26 = .ok (.getfield 48, 3) := by decide +kernel
theorem dX9_cloud_29 : decode cX9_cloud 29 = .ok (.iconst 0, 1) := by decide +kernel
theorem dX9_cloud_30 : decode cX9_cloud 30 = .ok (.putfield 219, 3) := by decide +kernel
theorem dX9_cloud_33 : decode cX9_cloud 33 = .ok (.aload_n 0, 1) := by decide +kernel
theorem dX9_cloud_34 : decode cX9_cloud 34 = .ok (.getfield 48, 3) := by decide +kernel
theorem dX9_cloud_37 : decode cX9_cloud 37 = .ok (.iconst 1, 1) := by decide +kernel
theorem dX9_cloud_38 : decode cX9_cloud 38 = .ok (.iload 5, 2) := by decide +kernel
theorem dX9_cloud_40 : decode cX9_cloud 40 = .ok (.invokevirtual 222, 3) := by decide +kernel
theorem dX9_cloud_43 : decode cX9_cloud 43 = .ok (.pop, 1) := by decide +kernel
theorem dX9_cloud_44 : decode cX9_cloud 44 = .ok (.aload_n 0, 1) := by decide +kernel
theorem dX9_cloud_45 : decode cX9_cloud 45 = .ok (.iload_n 3, 1) := by decide +kernel
theorem dX9_cloud_46 : decode cX9_cloud 46 = .ok (.invokevirtual 201, 3) := by decide +kernel
theorem dX9_cloud_49 : decode cX9_cloud 49 = .ok (.iload 4, 2) := by decide +kernel
theorem dX9_cloud_51 : decode cX9_cloud 51 = .ok (.i2l, 1) := by decide +kernel
theorem dX9_cloud_52 : decode cX9_cloud 52 = .ok (.lcmp, 1) := by decide +kernel
theorem dX9_cloud_53 : decode cX9_cloud 53 = .ok (.ifCond .gt 6, 3) := by decide +kernel
theorem dX9_cloud_56 : decode cX9_cloud 56 = .ok (.iload 5, 2) := by decide +kernel
theorem dX9_cloud_58 : decode cX9_cloud 58 = .ok (.ireturn, 1) := by decide +kernel
theorem dX9_cloud_59 : decode cX9_cloud 59 = .ok (.iinc 5 (-1), 3) := by decide +kernel
theorem dX9_cloud_62 : decode cX9_cloud 62 = .ok (.goto (-42), 3) := by decide +kernel
theorem dX9_cloud_65 : decode cX9_cloud 65 = .ok (.iconst (-1), 1) := by decide +kernel
theorem dX9_cloud_66 : decode cX9_cloud 66 = .ok (.ireturn, 1) := by decide +kernel
set_option maxRecDepth 20000 in
theorem dX9_coarse_0 : decode cX9_coarse 0 = .ok (.aload_n 0, 1) := by decide +kernel
theorem dX9_coarse_1 : decode cX9_coarse 1 = .ok (.iload_n 1, 1) := by decide +kernel
theorem dX9_coarse_2 : decode cX9_coarse 2 = .ok (.iload_n 2, 1) := by decide +kernel
theorem dX9_coarse_3 : decode cX9_coarse 3 = .ok (.iload_n 3, 1) := by decide +kernel
theorem dX9_coarse_4 : decode cX9_coarse 4 = .ok (.invokevirtual 155, 3) := by decide +kernel
theorem dX9_coarse_7 : decode cX9_coarse 7 = .ok (.ifCond .eq 16, 3) := by decide +kernel
theorem dX9_coarse_10 : decode cX9_coarse 10 = .ok (.iload 4, 2) := by decide +kernel
theorem dX9_coarse_12 : decode cX9_coarse 12 = .ok (.iconst 1, 1) := by decide +kernel
theorem dX9_coarse_13 : decode cX9_coarse 13 = .ok (.if_icmp .lt 10, 3) := by decide +kernel
theorem dX9_coarse_16 : decode cX9_coarse 16 = .ok (.iload 4, 2) := by decide +kernel
theorem dX9_coarse_18 : decode cX9_coarse 18 = .ok (.bipush 50, 2) := by decide +kernel
theorem dX9_coarse_20 : decode cX9_coarse 20 = .ok (.if_icmp .le 5, 3) := by decide +kernel
theorem dX9_coarse_23 : decode cX9_coarse 23 = .ok (.iconst (-1), 1) := by decide +kernel
theorem dX9_coarse_24 : decode cX9_coarse 24 = .ok (.ireturn, 1) := by decide +kernel
theorem dX9_coarse_25 : decode cX9_coarse 25 = .ok (.aload_n 0, 1) := by decide +kernel
theorem dX9_coarse_26 : decode cX9_coarse 26 = .ok (.iconst 4, 1) := by decide +kernel
theorem dX9_coarse_27 : decode cX9_coarse 27 = .ok (.iconst 1, 1) := by decide +kernel
theorem dX9_coarse_28 : decode cX9_coarse 28 = .ok (.iload_n 3, 1) := by decide +kernel
theorem dX9_coarse_29 : decode cX9_coarse 29 = .ok (.invokevirtual 167, 3) := by decide +kernel
theorem dX9_coarse_32 : decode cX9_coarse 32 = .ok (.lstore 5, 2) := by decide +kernel
theorem dX9_coarse_34 : decode cX9_coarse 34 = .ok (.iconst 1, 1) := by decide +kernel
theorem dX9_coarse_35 : decode cX9_coarse 35 = .ok (.istore 7, 2) := by decide +kernel
theorem dX9_coarse_37 : decode cX9_coarse 37 = .ok (.iconst 2, 1) := by decide +kernel
theorem dX9_coarse_38 : decode cX9_coarse 38 = .ok (.istore 8, 2) := by decide +kernel
theorem dX9_coarse_40 : decode cX9_coarse 40 = .ok (.iload 8, 2) := by decide +kernel
theorem dX9_coarse_42 : decode cX9_coarse 42 = .ok (.iload 4, 2) := by decide +kernel
theorem dX9_coarse_44 : decode cX9_coarse 44 = .ok (.if_icmp .gt 27, 3) := by decide +kernel
theorem dX9_coarse_47 : decode cX9_coarse 47 = .ok (.aload_n 0, 1) := by decide +kernel
theorem dX9_coarse_48 : decode cX9_coarse 48 = .ok (.iconst 4, 1) := by decide +kernel
theorem dX9_coarse_49 : decode cX9_coarse 49 = .ok (.iload 8, 2) := by decide +kernel
theorem dX9_coarse_51 : decode cX9_coarse 51 = .ok (.iload_n 3, 1) := by decide +kernel
theorem dX9_coarse_52 : decode cX9_coarse 52 = .ok (.invokevirtual 167, 3) := by decide +kernel
theorem dX9_coarse_55 : decode cX9_coarse 55 = .ok (.lload 5, 2) := by decide +kernel
theorem dX9_coarse_57 : decode cX9_coarse 57 = .ok (.lcmp, 1) := by decide +kernel
theorem dX9_coarse_58 : decode cX9_coarse 58 = .ok (.ifCond .gt 7, 3) := by decide +kernel
theorem dX9_coarse_61 : decode cX9_coarse 61 = .ok (.iload 8, 2) := by decide +kernel
theorem dX9_coarse_63 : decode cX9_coarse 63 = .ok (.istore 7, 2) := by decide +kernel
theorem dX9_coarse_65 : decode cX9_coarse 65 = .ok (.iinc 8 1, 3) := by decide +kernel
theorem dX9_coarse_68 : decode cX9_coarse 68 = .ok (.goto (-28), 3) := by decide +kernel
theorem dX9_coarse_71 : decode cX9_coarse 71 = .ok (.iload 7, 2) := by decide +kernel
theorem dX9_coarse_73 : decode cX9_coarse 73 = .ok (.ireturn, 1) := by decide +kernel
set_option maxRecDepth 20000 in
theorem dX9_weary_0 : decode cX9_weary 0 = .ok (.aload_n 0, 1) := by decide +kernel
theorem dX9_weary_1 : decode cX9_weary 1 = .ok (.iload_n 1, 1) := by decide +kernel
theorem dX9_weary_2 : decode cX9_weary 2 = .ok (.iload_n 2, 1) := by decide +kernel
theorem dX9_weary_3 : decode cX9_weary 3 = .ok (.iload_n 3, 1) := by decide +kernel
theorem dX9_weary_4 : decode cX9_weary 4 = .ok (.invokevirtual 155, 3) := by decide +kernel
theorem dX9_weary_7 : decode cX9_weary 7 = .ok (.ifCond .eq 8, 3) := by decide +kernel
theorem dX9_weary_10 : decode cX9_weary 10 = .ok (.iload 4, 2) := by decide +kernel
theorem dX9_weary_12 : decode cX9_weary 12 = .ok (.ifCond .ge 5, 3) := by decide +kernel
theorem dX9_weary_15 : decode cX9_weary 15 = .ok (.iconst (-1), 1) := by decide +kernel
theorem dX9_weary_16 : decode cX9_weary 16 = .ok (.ireturn, 1) := by decide +kernel
theorem dX9_weary_17 : decode cX9_weary 17 = .ok (.aload_n 0, 1) := by decide +kernel
theorem dX9_weary_18 : decode cX9_weary 18 = .ok (.getfield 34, 3) := by decide +kernel
theorem dX9_weary_21 : decode cX9_weary 21 = .ok (.aload_n 0, 1) := by decide +kernel
theorem dX9_weary_22 : decode cX9_weary 22 = .ok (.getfield 41, 3) := by decide +kernel
theorem dX9_weary_25 : decode cX9_weary 25 = .ok (.aload_n 0, 1) := by decide +kernel
theorem dX9_weary_26 : decode cX9_weary 26 = .ok (.getfield 48, 3) := by decide +kernel
theorem dX9_weary_29 : decode cX9_weary 29 = .ok (.iconst 0, 1) := by decide +kernel
theorem dX9_weary_30 : decode cX9_weary 30 = .ok (.iload_n 3, 1) := by decide +kernel
theorem dX9_weary_31 : decode cX9_weary 31 = .ok (.invokevirtual 189, 3) := by decide +kernel
theorem dX9_weary_34 : decode cX9_weary 34 = .ok (.iload 5, 2) := by decide +kernel
theorem dX9_weary_36 : decode cX9_weary 36 = .ok (.ifCond .ne 13, 3) := by decide +kernel
theorem dX9_weary_39 : decode cX9_weary 39 = .ok (.aload_n 0, 1) := by decide +kernel
theorem dX9_weary_40 : decode cX9_weary 40 = .ok (.getfield 34, 3) := by decide +kernel
theorem dX9_weary_43 : decode cX9_weary 43 = .ok (.iload 4, 2) := by decide +kernel
theorem dX9_weary_45 : decode cX9_weary 45 = .ok (.invokevirtual 226, 3) := by decide +kernel
theorem dX9_weary_48 : decode cX9_weary 48 = .ok (.ireturn, 1) := by decide +kernel
theorem dX9_weary_49 : decode cX9_weary 49 = .ok (.aload_n 0, 1) := by decide +kernel
theorem dX9_weary_50 : decode cX9_weary 50 = .ok (.getfield 34, 3) := by decide +kernel
theorem dX9_weary_53 : decode cX9_weary 53 = .ok (.iload 4, 2) := by decide +kernel
theorem dX9_weary_55 : decode cX9_weary 55 = .ok (.invokevirtual 229, 3) := by decide +kernel
theorem dX9_weary_58 : decode cX9_weary 58 = .ok (.istore 6, 2) := by decide +kernel
theorem dX9_weary_60 : decode cX9_weary 60 = .ok (.iload 6, 2) := by decide +kernel
theorem dX9_weary_62 : decode cX9_weary 62 = .ok (.iload_n 3, 1) := by decide +kernel
theorem dX9_weary_63 : decode cX9_weary 63 = .ok (.if_icmp .ne 7, 3) := by decide +kernel
theorem dX9_weary_66 : decode cX9_weary 66 = .ok (.iconst (-1), 1) := by decide +kernel
theorem dX9_weary_67 : decode cX9_weary 67 = .ok (.goto 5, 3) := by decide +kernel
theorem dX9_weary_70 : decode cX9_weary 70 = .ok (.iload 6, 2) := by decide +kernel
theorem dX9_weary_72 : decode cX9_weary 72 = .ok (.ireturn, 1) := by decide +kernel
set_option maxRecDepth 20000 in
theorem dX9_tries_0 : decode cX9_tries 0 = .ok (.aload_n 0, 1) := by decide +kernel
theorem dX9_tries_1 : decode cX9_tries 1 = .ok (.iload_n 1, 1) := by decide +kernel
theorem dX9_tries_2 : decode cX9_tries 2 = .ok (.iload_n 2, 1) := by decide +kernel
theorem dX9_tries_3 : decode cX9_tries 3 = .ok (.iload_n 3, 1) := by decide +kernel
theorem dX9_tries_4 : decode cX9_tries 4 = .ok (.invokevirtual 155, 3) := by decide +kernel
theorem dX9_tries_7 : decode cX9_tries 7 = .ok (.ifCond .ne 7, 3) := by decide +kernel
theorem dX9_tries_10 : decode cX9_tries 10 = .ok (.ldc2_w 159, 3) := by decide +kernel
theorem dX9_tries_13 : decode cX9_tries 13 = .ok (.lreturn, 1) := by decide +kernel
theorem dX9_tries_14 : decode cX9_tries 14 = .ok (.aload_n 0, 1) := by decide +kernel
theorem dX9_tries_15 : decode cX9_tries 15 = .ok (.bipush 32, 2) := by decide +kernel
theorem dX9_tries_17 : decode cX9_tries 17 = .ok (.bipush 16, 2) := by decide +kernel
theorem dX9_tries_19 : decode cX9_tries 19 = .ok (.iload_n 3, 1) := by decide +kernel
theorem dX9_tries_20 : decode cX9_tries 20 = .ok (.invokevirtual 232, 3) := by decide +kernel
theorem dX9_tries_23 : decode cX9_tries 23 = .ok (.istore 5, 2) := by decide +kernel
theorem dX9_tries_25 : decode cX9_tries 25 = .ok (.aload_n 0, 1) := by decide +kernel
theorem dX9_tries_26 : decode cX9_tries 26 = .ok (.iload 5, 2) := by decide +kernel
theorem dX9_tries_28 : decode cX9_tries 28 = .ok (.bipush 8, 2) := by decide +kernel
theorem dX9_tries_30 : decode cX9_tries 30 = .ok (.iload_n 3, 1) := by decide +kernel
theorem dX9_tries_31 : decode cX9_tries 31 = .ok (.invokevirtual 232, 3) := by decide +kernel
theorem dX9_tries_34 : decode cX9_tries 34 = .ok (.istore 5, 2) := by decide +kernel
theorem dX9_tries_36 : decode cX9_tries 36 = .ok (.aload_n 0, 1) := by decide +kernel
theorem dX9_tries_37 : decode cX9_tries 37 = .ok (.iload 5, 2) := by decide +kernel
theorem dX9_tries_39 : decode cX9_tries 39 = .ok (.iconst 4, 1) := by decide +kernel
theorem dX9_tries_40 : decode cX9_tries 40 = .ok (.iload_n 3, 1) := by decide +kernel
theorem dX9_tries_41 : decode cX9_tries 41 = .ok (.invokevirtual 232, 3) := by decide +kernel
theorem dX9_tries_44 : decode cX9_tries 44 = .ok (.istore 5, 2) := by decide +kernel
theorem dX9_tries_46 : decode cX9_tries 46 = .ok (.iload 4, 2) := by decide +kernel
theorem dX9_tries_48 : decode cX9_tries 48 = .ok (.ifCond .ne 7, 3) := by decide +kernel
theorem dX9_tries_51 : decode cX9_tries 51 = .ok (.iload 5, 2) := by decide +kernel
theorem dX9_tries_53 : decode cX9_tries 53 = .ok (.i2l, 1) := by decide +kernel
theorem dX9_tries_54 : decode cX9_tries 54 = .ok (.lreturn, 1) := by decide +kernel
theorem dX9_tries_55 : decode cX9_tries 55 = .ok (.ldc2_w 165, 3) := by decide +kernel
theorem dX9_tries_58 : decode cX9_tries 58 = .ok (.lstore 6, 2) := by decide +kernel
theorem dX9_tries_60 : decode cX9_tries 60 = .ok (.iconst 0, 1) := by decide +kernel
theorem dX9_tries_61 : decode cX9_tries 61 = .ok (.istore 8, 2) := by decide +kernel
theorem dX9_tries_63 : decode cX9_tries 63 = .ok (.iload 8, 2) := by decide +kernel
theorem dX9_tries_65 : decode cX9_tries 65 = .ok (.bipush 63, 2) := by decide +kernel
theorem dX9_tries_67 : decode cX9_tries 67 = .ok (.if_icmp .gt 24, 3) := by decide +kernel
theorem dX9_tries_70 : decode cX9_tries 70 = .ok (.lload 6, 2) := by decide +kernel
theorem dX9_tries_72 : decode cX9_tries 72 = .ok (.aload_n 0, 1) := by decide +kernel
theorem dX9_tries_73 : decode cX9_tries 73 = .ok (.iconst 0, 1) := by decide +kernel
theorem dX9_tries_74 : decode cX9_tries 74 = .ok (.iload 8, 2) := by decide +kernel
theorem dX9_tries_76 : decode cX9_tries 76 = .ok (.iload_n 3, 1) := by decide +kernel
theorem dX9_tries_77 : decode cX9_tries 77 = .ok (.invokevirtual 167, 3) := by decide +kernel
theorem dX9_tries_80 : decode cX9_tries 80 = .ok (.invokestatic 236, 3) := by decide +kernel
theorem dX9_tries_83 : decode cX9_tries 83 = .ok (.lstore 6, 2) := by decide +kernel
theorem dX9_tries_85 : decode cX9_tries 85 = .ok (.iinc 8 1, 3) := by decide +kernel
theorem dX9_tries_88 : decode cX9_tries 88 = .ok (.goto (-25), 3) := by decide +kernel
theorem dX9_tries_91 : decode cX9_tries 91 = .ok (.aload_n 0, 1) := by decide +kernel
theorem dX9_tries_92 : decode cX9_tries 92 = .ok (.iconst 0, 1) := by decide +kernel
theorem dX9_tries_93 : decode cX9_tries 93 = .ok (.iload 5, 2) := by decide +kernel
theorem dX9_tries_95 : decode cX9_tries 95 = .ok (.iload_n 3, 1) := by decide +kernel
theorem dX9_tries_96 : decode cX9_tries 96 = .ok (.invokevirtual 167, 3) := by decide +kernel
theorem dX9_tries_99 : decode cX9_tries 99 = .ok (.lload 6, 2) := by decide +kernel
theorem dX9_tries_101 : decode cX9_tries 101 = .ok (.lsub, 1) := by decide +kernel
theorem dX9_tries_102 : decode cX9_tries 102 = .ok (.lreturn, 1) := by decide +kernel
set_option maxRecDepth 20000 in
theorem dX9_learning_0 : decode cX9_learning 0 = .ok (.aload_n 0, 1) := by decide +kernel
theorem dX9_learning_1 : decode cX9_learning 1 = .ok (.iload_n 1, 1) := by decide +kernel
theorem dX9_learning_2 : decode cX9_learning 2 = .ok (.iload_n 2, 1) := by decide +kernel
theorem dX9_learning_3 : decode cX9_learning 3 = .ok (.iload_n 3, 1) := by decide +kernel
theorem dX9_learning_4 : decode cX9_learning 4 = .ok (.invokevirtual 155, 3) := by decide +kernel
theorem dX9_learning_7 : decode cX9_learning 7 = .ok (.ifCond .eq 15, 3) := by decide +kernel
theorem dX9_learning_10 : decode cX9_learning 10 = .ok (.iload 4, 2) := by decide +kernel
theorem dX9_learning_12 : decode cX9_learning 12 = .ok (.ifCond .lt 10, 3) := by decide +kernel
theorem dX9_learning_15 : decode cX9_learning 15 = .ok (.iload 4, 2) := by decide +kernel
theorem dX9_learning_17 : decode cX9_learning 17 = .ok (.bipush 30, 2) := by decide +kernel
theorem dX9_learning_19 : decode cX9_learning 19 = .ok (.if_icmp .le 5, 3) := by decide +kernel
theorem dX9_learning_22 : decode cX9_learning 22 = .ok (.iconst (-1), 1) := by decide +kernel
theorem dX9_learning_23 : decode cX9_learning 23 = .ok (.ireturn, 1) := by decide +kernel
theorem dX9_learning_24 : decode cX9_learning 24 = .ok (.aload_n 0, 1) := by decide +kernel
theorem dX9_learning_25 : decode cX9_learning 25 = .ok (.getfield 48, 3) := by decide +kernel
theorem dX9_learning_28 : decode cX9_learning 28 = .ok (.getfield 240, 3) := by decide +kernel
theorem dX9_learning_31 : decode cX9_learning 31 = .ok (.istore 5, 2) := by decide +kernel
theorem dX9_learning_33 : decode cX9_learning 33 = .ok (.iconst 1, 1) := by decide +kernel
theorem dX9_learning_34 : decode cX9_learning 34 = .ok (.istore 6, 2) := by decide +kernel
theorem dX9_learning_36 : decode cX9_learning 36 = .ok (.iload 6, 2) := by decide +kernel
theorem dX9_learning_38 : decode cX9_learning 38 = .ok (.iload 4, 2) := by decide +kernel
theorem dX9_learning_40 : decode cX9_learning 40 = .ok (.if_icmp .gt 18, 3) := by decide +kernel
theorem dX9_learning_43 : decode cX9_learning 43 = .ok (.aload_n 0, 1) := by decide +kernel
theorem dX9_learning_44 : decode cX9_learning 44 = .ok (.iload 5, 2) := by decide +kernel
theorem dX9_learning_46 : decode cX9_learning 46 = .ok (.iload_n 3, 1) := by decide +kernel
theorem dX9_learning_47 : decode cX9_learning 47 = .ok (.invokevirtual 243, 3) := by decide +kernel
theorem dX9_learning_50 : decode cX9_learning 50 = .ok (.istore 5, 2) := by decide +kernel
theorem dX9_learning_52 : decode cX9_learning 52 = .ok (.iinc 6 1, 3) := by decide +kernel
theorem dX9_learning_55 : decode cX9_learning 55 = .ok (.goto (-19), 3) := by decide +kernel
theorem dX9_learning_58 : decode cX9_learning 58 = .ok (.iload 5, 2) := by decide +kernel
theorem dX9_learning_60 : decode cX9_learning 60 = .ok (.ireturn, 1) := by decide +kernel
set_option maxRecDepth 20000 in
theorem dX9_steers_0 : decode cX9_steers 0 = .ok (.aload_n 0, 1) := by decide +kernel
theorem dX9_steers_1 : decode cX9_steers 1 = .ok (.getfield 10, 3) := by decide +kernel
theorem dX9_steers_4 : decode cX9_steers 4 = .ok (.iload_n 1, 1) := by decide +kernel
theorem dX9_steers_5 : decode cX9_steers 5 = .ok (.invokevirtual 86, 3) := by decide +kernel
theorem dX9_steers_8 : decode cX9_steers 8 = .ok (.astore 5, 2) := by decide +kernel
theorem dX9_steers_10 : decode cX9_steers 10 = .ok (.aload_n 0, 1) := by decide +kernel
theorem dX9_steers_11 : decode cX9_steers 11 = .ok (.getfield 10, 3) := by decide +kernel
theorem dX9_steers_14 : decode cX9_steers 14 = .ok (.iload_n 2, 1) := by decide +kernel
theorem dX9_steers_15 : decode cX9_steers 15 = .ok (.invokevirtual 117, 3) := by decide +kernel
theorem dX9_steers_18 : decode cX9_steers 18 = .ok (.astore 6, 2) := by decide +kernel
theorem dX9_steers_20 : decode cX9_steers 20 = .ok (.aload 5, 2) := by decide +kernel
theorem dX9_steers_22 : decode cX9_steers 22 = .ok (.ifnull 17, 3) := by decide +kernel
theorem dX9_steers_25 : decode cX9_steers 25 = .ok (.aload 6, 2) := by decide +kernel
theorem dX9_steers_27 : decode cX9_steers 27 = .ok (.ifnull 12, 3) := by decide +kernel
theorem dX9_steers_30 : decode cX9_steers 30 = .ok (.aload_n 0, 1) := by decide +kernel
theorem dX9_steers_31 : decode cX9_steers 31 = .ok (.aload 6, 2) := by decide +kernel
theorem dX9_steers_33 : decode cX9_steers 33 = .ok (.invokevirtual 246, 3) := by decide +kernel
theorem dX9_steers_36 : decode cX9_steers 36 = .ok (.ifCond .ne 7, 3) := by decide +kernel
theorem dX9_steers_39 : decode cX9_steers 39 = .ok (.ldc2_w 250, 3) := by decide +kernel
theorem dX9_steers_42 : decode cX9_steers 42 = .ok (.lreturn, 1) := by decide +kernel
theorem dX9_steers_43 : decode cX9_steers 43 = .ok (.aload_n 0, 1) := by decide +kernel
theorem dX9_steers_44 : decode cX9_steers 44 = .ok (.getfield 34, 3) := by decide +kernel
theorem dX9_steers_47 : decode cX9_steers 47 = .ok (.aload 5, 2) := by decide +kernel
theorem dX9_steers_49 : decode cX9_steers 49 = .ok (.iload_n 3, 1) := by decide +kernel
theorem dX9_steers_50 : decode cX9_steers 50 = .ok (.invokevirtual 252, 3) := by decide +kernel
theorem dX9_steers_53 : decode cX9_steers 53 = .ok (.iconst 0, 1) := by decide +kernel
theorem dX9_steers_54 : decode cX9_steers 54 = .ok (.istore 7, 2) := by decide +kernel
theorem dX9_steers_56 : decode cX9_steers 56 = .ok (.iload 7, 2) := by decide +kernel
theorem dX9_steers_58 : decode cX9_steers 58 = .ok (.aload 6, 2) := by decide +kernel
theorem dX9_steers_60 : decode cX9_steers 60 = .ok (.getfield 121, 3) := by decide +kernel
theorem dX9_steers_63 : decode cX9_steers 63 = .ok (.if_icmp .ge 43, 3) := by decide +kernel
theorem dX9_steers_66 : decode cX9_steers 66 = .ok (.aload_n 0, 1) := by decide +kernel
theorem dX9_steers_67 : decode cX9_steers 67 = .ok (.getfield 34, 3) := by decide +kernel
theorem dX9_steers_70 : decode cX9_steers 70 = .ok (.aload_n 0, 1) := by decide +kernel
theorem dX9_steers_71 : decode cX9_steers 71 = .ok (.getfield 10, 3) := by decide +kernel
theorem dX9_steers_74 : decode cX9_steers 74 = .ok (.aload 6, 2) := by decide +kernel
theorem dX9_steers_76 : decode cX9_steers 76 = .ok (.getfield 126, 3) := by decide +kernel
theorem dX9_steers_79 : decode cX9_steers 79 = .ok (.iload 7, 2) := by decide +kernel
theorem dX9_steers_81 : decode cX9_steers 81 = .ok (.invokestatic 113, 3) := by decide +kernel
theorem dX9_steers_84 : decode cX9_steers 84 = .ok (.invokevirtual 95, 3) := by decide +kernel
theorem dX9_steers_87 : decode cX9_steers 87 = .ok (.aload 6, 2) := by decide +kernel
theorem dX9_steers_89 : decode cX9_steers 89 = .ok (.getfield 129, 3) := by decide +kernel
theorem dX9_steers_92 : decode cX9_steers 92 = .ok (.iload 7, 2) := by decide +kernel
theorem dX9_steers_94 : decode cX9_steers 94 = .ok (.invokestatic 113, 3) := by decide +kernel
theorem dX9_steers_97 : decode cX9_steers 97 = .ok (.invokevirtual 255, 3) := by decide +kernel
theorem dX9_steers_100 : decode cX9_steers 100 = .ok (.iinc 7 1, 3) := by decide +kernel
theorem dX9_steers_103 : decode cX9_steers 103 = .ok (.goto (-47), 3) := by decide +kernel
theorem dX9_steers_106 : decode cX9_steers 106 = .ok (.iload 4, 2) := by decide +kernel
theorem dX9_steers_108 : decode cX9_steers 108 = .ok (.tableswitch 77 0 4 #[36, 44, 52, 60, 68], 36) := by decide +kernel
theorem dX9_steers_144 : decode cX9_steers 144 = .ok (.aload_n 0, 1) := by decide +kernel
theorem dX9_steers_145 : decode cX9_steers 145 = .ok (.getfield 34, 3) := by decide +kernel
theorem dX9_steers_148 : decode cX9_steers 148 = .ok (.invokevirtual 259, 3) := by decide +kernel
theorem dX9_steers_151 : decode cX9_steers 151 = .ok (.lreturn, 1) := by decide +kernel
theorem dX9_steers_152 : decode cX9_steers 152 = .ok (.aload_n 0, 1) := by decide +kernel
theorem dX9_steers_153 : decode cX9_steers 153 = .ok (.getfield 34, 3) := by decide +kernel
theorem dX9_steers_156 : decode cX9_steers 156 = .ok (.invokevirtual 262, 3) := by decide +kernel
theorem dX9_steers_159 : decode cX9_steers 159 = .ok (.lreturn, 1) := by decide +kernel
theorem dX9_steers_160 : decode cX9_steers 160 = .ok (.aload_n 0, 1) := by decide +kernel
theorem dX9_steers_161 : decode cX9_steers 161 = .ok (.getfield 34, 3) := by decide +kernel
theorem dX9_steers_164 : decode cX9_steers 164 = .ok (.invokevirtual 265, 3) := by decide +kernel
theorem dX9_steers_167 : decode cX9_steers 167 = .ok (.lreturn, 1) := by decide +kernel
theorem dX9_steers_168 : decode cX9_steers 168 = .ok (.aload_n 0, 1) := by decide +kernel
theorem dX9_steers_169 : decode cX9_steers 169 = .ok (.getfield 34, 3) := by decide +kernel
theorem dX9_steers_172 : decode cX9_steers 172 = .ok (.invokevirtual 193, 3) := by decide +kernel
theorem dX9_steers_175 : decode cX9_steers 175 = .ok (.lreturn, 1) := by decide +kernel
theorem dX9_steers_176 : decode cX9_steers 176 = .ok (.aload_n 0, 1) := by decide +kernel
theorem dX9_steers_177 : decode cX9_steers 177 = .ok (.getfield 34, 3) := by decide +kernel
theorem dX9_steers_180 : decode cX9_steers 180 = .ok (.getfield 268, 3) := by decide +kernel
theorem dX9_steers_183 : decode cX9_steers 183 = .ok (.i2l, 1) := by decide +kernel
theorem dX9_steers_184 : decode cX9_steers 184 = .ok (.lreturn, 1) := by decide +kernel
theorem dX9_steers_185 : decode cX9_steers 185 = .ok (.iload 4, 2) := by decide +kernel
theorem dX9_steers_187 : decode cX9_steers 187 = .ok (.sipush 1000, 3) := by decide +kernel
theorem dX9_steers_190 : decode cX9_steers 190 = .ok (.if_icmp .lt 23, 3) := by decide +kernel
theorem dX9_steers_193 : decode cX9_steers 193 = .ok (.iload 4, 2) := by decide +kernel
theorem dX9_steers_195 : decode cX9_steers 195 = .ok (.sipush 1000, 3) := by decide +kernel
theorem dX9_steers_198 : decode cX9_steers 198 = .ok (.isub, 1) := by decide +kernel
theorem dX9_steers_199 : decode cX9_steers 199 = .ok (.aload_n 0, 1) := by decide +kernel
theorem dX9_steers_200 : decode cX9_steers 200 = .ok (.getfield 34, 3) := by decide +kernel
theorem dX9_steers_203 : decode cX9_steers 203 = .ok (.getfield 268, 3) := by decide +kernel
theorem dX9_steers_206 : decode cX9_steers 206 = .ok (.if_icmp .gt 7, 3) := by decide +kernel
theorem dX9_steers_209 : decode cX9_steers 209 = .ok (.iconst 1, 1) := by decide +kernel
theorem dX9_steers_210 : decode cX9_steers 210 = .ok (.goto 4, 3) := by decide +kernel
theorem dX9_steers_213 : decode cX9_steers 213 = .ok (.iconst 0, 1) := by decide +kernel
theorem dX9_steers_214 : decode cX9_steers 214 = .ok (.istore 7, 2) := by decide +kernel
theorem dX9_steers_216 : decode cX9_steers 216 = .ok (.iload 7, 2) := by decide +kernel
theorem dX9_steers_218 : decode cX9_steers 218 = .ok (.ifCond .eq 23, 3) := by decide +kernel
theorem dX9_steers_221 : decode cX9_steers 221 = .ok (.aload_n 0, 1) := by decide +kernel
theorem dX9_steers_222 : decode cX9_steers 222 = .ok (.getfield 34, 3) := by decide +kernel
theorem dX9_steers_225 : decode cX9_steers 225 = .ok (.getfield 136, 3) := by decide +kernel
theorem dX9_steers_228 : decode cX9_steers 228 = .ok (.iload 4, 2) := by decide +kernel
theorem dX9_steers_230 : decode cX9_steers 230 = .ok (.sipush 1000, 3) := by decide +kernel
theorem dX9_steers_233 : decode cX9_steers 233 = .ok (.isub, 1) := by decide +kernel
theorem dX9_steers_234 : decode cX9_steers 234 = .ok (.invokestatic 113, 3) := by decide +kernel
theorem dX9_steers_237 : decode cX9_steers 237 = .ok (.i2l, 1) := by decide +kernel
theorem dX9_steers_238 : decode cX9_steers 238 = .ok (.goto 6, 3) := by decide +kernel
theorem dX9_steers_241 : decode cX9_steers 241 = .ok (.ldc2_w 250, 3) := by decide +kernel
theorem dX9_steers_244 : decode cX9_steers 244 = .ok (.lreturn, 1) := by decide +kernel
set_option maxRecDepth 20000 in
theorem dX9_change_0 : decode cX9_change 0 = .ok (.aload_n 0, 1) := by decide +kernel
theorem dX9_change_1 : decode cX9_change 1 = .ok (.getfield 10, 3) := by decide +kernel
theorem dX9_change_4 : decode cX9_change 4 = .ok (.iload_n 1, 1) := by decide +kernel
theorem dX9_change_5 : decode cX9_change 5 = .ok (.invokevirtual 86, 3) := by decide +kernel
theorem dX9_change_8 : decode cX9_change 8 = .ok (.astore 5, 2) := by decide +kernel
theorem dX9_change_10 : decode cX9_change 10 = .ok (.aload_n 0, 1) := by decide +kernel
theorem dX9_change_11 : decode cX9_change 11 = .ok (.getfield 10, 3) := by decide +kernel
theorem dX9_change_14 : decode cX9_change 14 = .ok (.iload_n 2, 1) := by decide +kernel
theorem dX9_change_15 : decode cX9_change 15 = .ok (.invokevirtual 95, 3) := by decide +kernel
theorem dX9_change_18 : decode cX9_change 18 = .ok (.astore 6, 2) := by decide +kernel
theorem dX9_change_20 : decode cX9_change 20 = .ok (.aload_n 0, 1) := by decide +kernel
theorem dX9_change_21 : decode cX9_change 21 = .ok (.getfield 10, 3) := by decide +kernel
theorem dX9_change_24 : decode cX9_change 24 = .ok (.iload_n 3, 1) := by decide +kernel
theorem dX9_change_25 : decode cX9_change 25 = .ok (.invokevirtual 95, 3) := by decide +kernel
theorem dX9_change_28 : decode cX9_change 28 = .ok (.astore 7, 2) := by decide +kernel
theorem dX9_change_30 : decode cX9_change 30 = .ok (.aload 5, 2) := by decide +kernel
theorem dX9_change_32 : decode cX9_change 32 = .ok (.ifnull 21, 3) := by decide +kernel
theorem dX9_change_35 : decode cX9_change 35 = .ok (.aload 6, 2) := by decide +kernel
theorem dX9_change_37 : decode cX9_change 37 = .ok (.ifnull 16, 3) := by decide +kernel
theorem dX9_change_40 : decode cX9_change 40 = .ok (.aload 7, 2) := by decide +kernel
theorem dX9_change_42 : decode cX9_change 42 = .ok (.ifnull 11, 3) := by decide +kernel
theorem dX9_change_45 : decode cX9_change 45 = .ok (.iload 4, 2) := by decide +kernel
theorem dX9_change_47 : decode cX9_change 47 = .ok (.invokestatic 177, 3) := by decide +kernel
theorem dX9_change_50 : decode cX9_change 50 = .ok (.ifCond .ne 5, 3) := by decide +kernel
theorem dX9_change_53 : decode cX9_change 53 = .ok (.iconst (-1), 1) := by decide +kernel
theorem dX9_change_54 : decode cX9_change 54 = .ok (.ireturn, 1) := by decide +kernel
theorem dX9_change_55 : decode cX9_change 55 = .ok (.iconst (-1), 1) := by decide +kernel
theorem dX9_change_56 : decode cX9_change 56 = .ok (.istore 8, 2) := by decide +kernel
theorem dX9_change_58 : decode cX9_change 58 = .ok (.ldc2_w 165, 3) := by decide +kernel
theorem dX9_change_61 : decode cX9_change 61 = .ok (.lstore 9, 2) := by decide +kernel
theorem dX9_change_63 : decode cX9_change 63 = .ok (.iconst 0, 1) := by decide +kernel
theorem dX9_change_64 : decode cX9_change 64 = .ok (.istore 11, 2) := by decide +kernel
theorem dX9_change_66 : decode cX9_change 66 = .ok (.iload 11, 2) := by decide +kernel
theorem dX9_change_68 : decode cX9_change 68 = .ok (.iload 4, 2) := by decide +kernel
theorem dX9_change_70 : decode cX9_change 70 = .ok (.if_icmp .gt 49, 3) := by decide +kernel
theorem dX9_change_73 : decode cX9_change 73 = .ok (.aload_n 0, 1) := by decide +kernel
theorem dX9_change_74 : decode cX9_change 74 = .ok (.aload 5, 2) := by decide +kernel
theorem dX9_change_76 : decode cX9_change 76 = .ok (.aload 6, 2) := by decide +kernel
theorem dX9_change_78 : decode cX9_change 78 = .ok (.aload 7, 2) := by decide +kernel
theorem dX9_change_80 : decode cX9_change 80 = .ok (.iload 11, 2) := by decide +kernel
theorem dX9_change_82 : decode cX9_change 82 = .ok (.iload 4, 2) := by decide +kernel
theorem dX9_change_84 : decode cX9_change 84 = .ok (.invokevirtual 271, 3) := by decide +kernel
theorem dX9_change_87 : decode cX9_change 87 = .ok (.aload_n 0, 1) := by decide +kernel
theorem dX9_change_88 : decode cX9_change 88 = .ok (.getfield 34, 3) := by decide +kernel
theorem dX9_change_91 : decode cX9_change 91 = .ok (.invokevirtual 259, 3) := by decide +kernel
theorem dX9_change_94 : decode cX9_change 94 = .ok (.lload 9, 2) := by decide +kernel
theorem dX9_change_96 : decode cX9_change 96 = .ok (.lcmp, 1) := by decide +kernel
theorem dX9_change_97 : decode cX9_change 97 = .ok (.ifCond .ge 16, 3) := by decide +kernel
theorem dX9_change_100 : decode cX9_change 100 = .ok (.aload_n 0, 1) := by decide +kernel
theorem dX9_change_101 : decode cX9_change 101 = .ok (.getfield 34, 3) := by decide +kernel
theorem dX9_change_104 : decode cX9_change 104 = .ok (.invokevirtual 259, 3) := by decide +kernel
theorem dX9_change_107 : decode cX9_change 107 = .ok (.lstore 9, 2) := by decide +kernel
theorem dX9_change_109 : decode cX9_change 109 = .ok (.iload 11, 2) := by decide +kernel
theorem dX9_change_111 : decode cX9_change 111 = .ok (.istore 8, 2) := by decide +kernel
theorem dX9_change_113 : decode cX9_change 113 = .ok (.iinc 11 1, 3) := by decide +kernel
theorem dX9_change_116 : decode cX9_change 116 = .ok (.goto (-50), 3) := by decide +kernel
theorem dX9_change_119 : decode cX9_change 119 = .ok (.iload 8, 2) := by decide +kernel
theorem dX9_change_121 : decode cX9_change 121 = .ok (.ireturn, 1) := by decide +kernel
set_option maxRecDepth 20000 in
theorem dX9_order_0 : decode cX9_order 0 = .ok (.aload_n 0, 1) := by decide +kernel
theorem dX9_order_1 : decode cX9_order 1 = .ok (.getfield 10, 3) := by decide +kernel
theorem dX9_order_4 : decode cX9_order 4 = .ok (.iload_n 1, 1) := by decide +kernel
theorem dX9_order_5 : decode cX9_order 5 = .ok (.invokevirtual 86, 3) := by decide +kernel
theorem dX9_order_8 : decode cX9_order 8 = .ok (.astore 5, 2) := by decide +kernel
theorem dX9_order_10 : decode cX9_order 10 = .ok (.iload_n 2, 1) := by decide +kernel
theorem dX9_order_11 : decode cX9_order 11 = .ok (.invokestatic 275, 3) := by decide +kernel
theorem dX9_order_14 : decode cX9_order 14 = .ok (.istore 6, 2) := by decide +kernel
theorem dX9_order_16 : decode cX9_order 16 = .ok (.iload_n 2, 1) := by decide +kernel
theorem dX9_order_17 : decode cX9_order 17 = .ok (.ifCond .le 20, 3) := by decide +kernel
theorem dX9_order_20 : decode cX9_order 20 = .ok (.iload_n 2, 1) := by decide +kernel
theorem dX9_order_21 : decode cX9_order 21 = .ok (.iconst 1, 1) := by decide +kernel
theorem dX9_order_22 : decode cX9_order 22 = .ok (.aload_n 0, 1) := by decide +kernel
theorem dX9_order_23 : decode cX9_order 23 = .ok (.getfield 10, 3) := by decide +kernel
theorem dX9_order_26 : decode cX9_order 26 = .ok (.getfield 280, 3) := by decide +kernel
theorem dX9_order_29 : decode cX9_order 29 = .ok (.ishl, 1) := by decide +kernel
theorem dX9_order_30 : decode cX9_order 30 = .ok (.if_icmp .ge 7, 3) := by decide +kernel
theorem dX9_order_33 : decode cX9_order 33 = .ok (.iconst 1, 1) := by decide +kernel
theorem dX9_order_34 : decode cX9_order 34 = .ok (.goto 4, 3) := by decide +kernel
theorem dX9_order_37 : decode cX9_order 37 = .ok (.iconst 0, 1) := by decide +kernel
theorem dX9_order_38 : decode cX9_order 38 = .ok (.istore 7, 2) := by decide +kernel
theorem dX9_order_40 : decode cX9_order 40 = .ok (.aload 5, 2) := by decide +kernel
theorem dX9_order_42 : decode cX9_order 42 = .ok (.ifnull 33, 3) := by decide +kernel
theorem dX9_order_45 : decode cX9_order 45 = .ok (.iload 7, 2) := by decide +kernel
theorem dX9_order_47 : decode cX9_order 47 = .ok (.ifCond .eq 28, 3) := by decide +kernel
theorem dX9_order_50 : decode cX9_order 50 = .ok (.iload_n 3, 1) := by decide +kernel
theorem dX9_order_51 : decode cX9_order 51 = .ok (.invokestatic 177, 3) := by decide +kernel
theorem dX9_order_54 : decode cX9_order 54 = .ok (.ifCond .eq 21, 3) := by decide +kernel
theorem dX9_order_57 : decode cX9_order 57 = .ok (.iload_n 3, 1) := by decide +kernel
theorem dX9_order_58 : decode cX9_order 58 = .ok (.iload 6, 2) := by decide +kernel
theorem dX9_order_60 : decode cX9_order 60 = .ok (.if_icmp .lt 15, 3) := by decide +kernel
theorem dX9_order_63 : decode cX9_order 63 = .ok (.iload 4, 2) := by decide +kernel
theorem dX9_order_65 : decode cX9_order 65 = .ok (.ifCond .lt 10, 3) := by decide +kernel
theorem dX9_order_68 : decode cX9_order 68 = .ok (.iload 4, 2) := by decide +kernel
theorem dX9_order_70 : decode cX9_order 70 = .ok (.iload 6, 2) := by decide +kernel
theorem dX9_order_72 : decode cX9_order 72 = .ok (.if_icmp .lt 5, 3) := by decide +kernel
theorem dX9_order_75 : decode cX9_order 75 = .ok (.iconst (-1), 1) := by decide +kernel
theorem dX9_order_76 : decode cX9_order 76 = .ok (.ireturn, 1) := by decide +kernel
theorem dX9_order_77 : decode cX9_order 77 = .ok (.iconst (-1), 1) := by decide +kernel
theorem dX9_order_78 : decode cX9_order 78 = .ok (.istore 8, 2) := by decide +kernel
theorem dX9_order_80 : decode cX9_order 80 = .ok (.ldc2_w 165, 3) := by decide +kernel
theorem dX9_order_83 : decode cX9_order 83 = .ok (.lstore 9, 2) := by decide +kernel
theorem dX9_order_85 : decode cX9_order 85 = .ok (.iconst 0, 1) := by decide +kernel
theorem dX9_order_86 : decode cX9_order 86 = .ok (.istore 11, 2) := by decide +kernel
theorem dX9_order_88 : decode cX9_order 88 = .ok (.iload 11, 2) := by decide +kernel
theorem dX9_order_90 : decode cX9_order 90 = .ok (.iconst 1, 1) := by decide +kernel
theorem dX9_order_91 : decode cX9_order 91 = .ok (.iconst 2, 1) := by decide +kernel
theorem dX9_order_92 : decode cX9_order 92 = .ok (.iload 6, 2) := by decide +kernel
theorem dX9_order_94 : decode cX9_order 94 = .ok (.imul, 1) := by decide +kernel
theorem dX9_order_95 : decode cX9_order 95 = .ok (.ishl, 1) := by decide +kernel
theorem dX9_order_96 : decode cX9_order 96 = .ok (.if_icmp .ge 49, 3) := by decide +kernel
theorem dX9_order_99 : decode cX9_order 99 = .ok (.iload 11, 2) := by decide +kernel
theorem dX9_order_101 : decode cX9_order 101 = .ok (.iload 6, 2) := by decide +kernel
theorem dX9_order_103 : decode cX9_order 103 = .ok (.invokestatic 282, 3) := by decide +kernel
theorem dX9_order_106 : decode cX9_order 106 = .ok (.iload_n 2, 1) := by decide +kernel
theorem dX9_order_107 : decode cX9_order 107 = .ok (.if_icmp .ne 32, 3) := by decide +kernel
theorem dX9_order_110 : decode cX9_order 110 = .ok (.aload_n 0, 1) := by decide +kernel
theorem dX9_order_111 : decode cX9_order 111 = .ok (.aload 5, 2) := by decide +kernel
theorem dX9_order_113 : decode cX9_order 113 = .ok (.iload 11, 2) := by decide +kernel
theorem dX9_order_115 : decode cX9_order 115 = .ok (.iload 6, 2) := by decide +kernel
theorem dX9_order_117 : decode cX9_order 117 = .ok (.iload_n 3, 1) := by decide +kernel
theorem dX9_order_118 : decode cX9_order 118 = .ok (.invokevirtual 285, 3) := by decide +kernel
theorem dX9_order_121 : decode cX9_order 121 = .ok (.lstore 12, 2) := by decide +kernel
theorem dX9_order_123 : decode cX9_order 123 = .ok (.lload 12, 2) := by decide +kernel
theorem dX9_order_125 : decode cX9_order 125 = .ok (.lload 9, 2) := by decide +kernel
theorem dX9_order_127 : decode cX9_order 127 = .ok (.lcmp, 1) := by decide +kernel
theorem dX9_order_128 : decode cX9_order 128 = .ok (.ifCond .ge 11, 3) := by decide +kernel
theorem dX9_order_131 : decode cX9_order 131 = .ok (.lload 12, 2) := by decide +kernel
theorem dX9_order_133 : decode cX9_order 133 = .ok (.lstore 9, 2) := by decide +kernel
theorem dX9_order_135 : decode cX9_order 135 = .ok (.iload 11, 2) := by decide +kernel
theorem dX9_order_137 : decode cX9_order 137 = .ok (.istore 8, 2) := by decide +kernel
theorem dX9_order_139 : decode cX9_order 139 = .ok (.iinc 11 1, 3) := by decide +kernel
theorem dX9_order_142 : decode cX9_order 142 = .ok (.goto (-54), 3) := by decide +kernel
theorem dX9_order_145 : decode cX9_order 145 = .ok (.iload 8, 2) := by decide +kernel
theorem dX9_order_147 : decode cX9_order 147 = .ok (.iconst (-1), 1) := by decide +kernel
theorem dX9_order_148 : decode cX9_order 148 = .ok (.if_icmp .ne 7, 3) := by decide +kernel
theorem dX9_order_151 : decode cX9_order 151 = .ok (.iconst (-1), 1) := by decide +kernel
theorem dX9_order_152 : decode cX9_order 152 = .ok (.goto 12, 3) := by decide +kernel
theorem dX9_order_155 : decode cX9_order 155 = .ok (.iload 8, 2) := by decide +kernel
theorem dX9_order_157 : decode cX9_order 157 = .ok (.iload 6, 2) := by decide +kernel
theorem dX9_order_159 : decode cX9_order 159 = .ok (.iload 4, 2) := by decide +kernel
theorem dX9_order_161 : decode cX9_order 161 = .ok (.invokestatic 289, 3) := by decide +kernel
theorem dX9_order_164 : decode cX9_order 164 = .ok (.ireturn, 1) := by decide +kernel
set_option maxRecDepth 20000 in
theorem dX9_both_0 : decode cX9_both 0 = .ok (.aload_n 0, 1) := by decide +kernel
theorem dX9_both_1 : decode cX9_both 1 = .ok (.getfield 10, 3) := by decide +kernel
theorem dX9_both_4 : decode cX9_both 4 = .ok (.iload_n 1, 1) := by decide +kernel
theorem dX9_both_5 : decode cX9_both 5 = .ok (.invokevirtual 86, 3) := by decide +kernel
theorem dX9_both_8 : decode cX9_both 8 = .ok (.astore 6, 2) := by decide +kernel
theorem dX9_both_10 : decode cX9_both 10 = .ok (.aload_n 0, 1) := by decide +kernel
theorem dX9_both_11 : decode cX9_both 11 = .ok (.getfield 10, 3) := by decide +kernel
theorem dX9_both_14 : decode cX9_both 14 = .ok (.iload_n 2, 1) := by decide +kernel
theorem dX9_both_15 : decode cX9_both 15 = .ok (.invokevirtual 95, 3) := by decide +kernel
theorem dX9_both_18 : decode cX9_both 18 = .ok (.astore 7, 2) := by decide +kernel
theorem dX9_both_20 : decode cX9_both 20 = .ok (.aload_n 0, 1) := by decide +kernel
theorem dX9_both_21 : decode cX9_both 21 = .ok (.getfield 10, 3) := by decide +kernel
theorem dX9_both_24 : decode cX9_both 24 = .ok (.iload_n 3, 1) := by decide +kernel
theorem dX9_both_25 : decode cX9_both 25 = .ok (.invokevirtual 95, 3) := by decide +kernel
theorem dX9_both_28 : decode cX9_both 28 = .ok (.astore 8, 2) := by decide +kernel
theorem dX9_both_30 : decode cX9_both 30 = .ok (.aload 6, 2) := by decide +kernel
theorem dX9_both_32 : decode cX9_both 32 = .ok (.ifnull 21, 3) := by decide +kernel
theorem dX9_both_35 : decode cX9_both 35 = .ok (.aload 7, 2) := by decide +kernel
theorem dX9_both_37 : decode cX9_both 37 = .ok (.ifnull 16, 3) := by decide +kernel
theorem dX9_both_40 : decode cX9_both 40 = .ok (.aload 8, 2) := by decide +kernel
theorem dX9_both_42 : decode cX9_both 42 = .ok (.ifnull 11, 3) := by decide +kernel
theorem dX9_both_45 : decode cX9_both 45 = .ok (.iload 4, 2) := by decide +kernel
theorem dX9_both_47 : decode cX9_both 47 = .ok (.invokestatic 177, 3) := by decide +kernel
theorem dX9_both_50 : decode cX9_both 50 = .ok (.ifCond .ne 7, 3) := by decide +kernel
theorem dX9_both_53 : decode cX9_both 53 = .ok (.ldc2_w 159, 3) := by decide +kernel
theorem dX9_both_56 : decode cX9_both 56 = .ok (.lreturn, 1) := by decide +kernel
theorem dX9_both_57 : decode cX9_both 57 = .ok (.aload_n 0, 1) := by decide +kernel
theorem dX9_both_58 : decode cX9_both 58 = .ok (.getfield 34, 3) := by decide +kernel
theorem dX9_both_61 : decode cX9_both 61 = .ok (.aload 6, 2) := by decide +kernel
theorem dX9_both_63 : decode cX9_both 63 = .ok (.iconst 0, 1) := by decide +kernel
theorem dX9_both_64 : decode cX9_both 64 = .ok (.invokevirtual 252, 3) := by decide +kernel
theorem dX9_both_67 : decode cX9_both 67 = .ok (.aload_n 0, 1) := by decide +kernel
theorem dX9_both_68 : decode cX9_both 68 = .ok (.getfield 34, 3) := by decide +kernel
theorem dX9_both_71 : decode cX9_both 71 = .ok (.aload 7, 2) := by decide +kernel
theorem dX9_both_73 : decode cX9_both 73 = .ok (.aload 8, 2) := by decide +kernel
theorem dX9_both_75 : decode cX9_both 75 = .ok (.iload 4, 2) := by decide +kernel
theorem dX9_both_77 : decode cX9_both 77 = .ok (.invokevirtual 292, 3) := by decide +kernel
theorem dX9_both_80 : decode cX9_both 80 = .ok (.iload 5, 2) := by decide +kernel
theorem dX9_both_82 : decode cX9_both 82 = .ok (.ifCond .eq 13, 3) := by decide +kernel
theorem dX9_both_85 : decode cX9_both 85 = .ok (.aload_n 0, 1) := by decide +kernel
theorem dX9_both_86 : decode cX9_both 86 = .ok (.getfield 34, 3) := by decide +kernel
theorem dX9_both_89 : decode cX9_both 89 = .ok (.invokevirtual 193, 3) := by decide +kernel
theorem dX9_both_92 : decode cX9_both 92 = .ok (.goto 10, 3) := by decide +kernel
theorem dX9_both_95 : decode cX9_both 95 = .ok (.aload_n 0, 1) := by decide +kernel
theorem dX9_both_96 : decode cX9_both 96 = .ok (.getfield 34, 3) := by decide +kernel
theorem dX9_both_99 : decode cX9_both 99 = .ok (.invokevirtual 259, 3) := by decide +kernel
theorem dX9_both_102 : decode cX9_both 102 = .ok (.lreturn, 1) := by decide +kernel
set_option maxRecDepth 20000 in
theorem dX9_apart_0 : decode cX9_apart 0 = .ok (.aload_n 0, 1) := by decide +kernel
theorem dX9_apart_1 : decode cX9_apart 1 = .ok (.getfield 10, 3) := by decide +kernel
theorem dX9_apart_4 : decode cX9_apart 4 = .ok (.iload_n 3, 1) := by decide +kernel
theorem dX9_apart_5 : decode cX9_apart 5 = .ok (.invokevirtual 100, 3) := by decide +kernel
theorem dX9_apart_8 : decode cX9_apart 8 = .ok (.astore 5, 2) := by decide +kernel
theorem dX9_apart_10 : decode cX9_apart 10 = .ok (.aload 5, 2) := by decide +kernel
theorem dX9_apart_12 : decode cX9_apart 12 = .ok (.ifnull 17, 3) := by decide +kernel
theorem dX9_apart_15 : decode cX9_apart 15 = .ok (.aload_n 0, 1) := by decide +kernel
theorem dX9_apart_16 : decode cX9_apart 16 = .ok (.iload_n 1, 1) := by decide +kernel
theorem dX9_apart_17 : decode cX9_apart 17 = .ok (.iload_n 2, 1) := by decide +kernel
theorem dX9_apart_18 : decode cX9_apart 18 = .ok (.aload 5, 2) := by decide +kernel
theorem dX9_apart_20 : decode cX9_apart 20 = .ok (.getfield 104, 3) := by decide +kernel
theorem dX9_apart_23 : decode cX9_apart 23 = .ok (.invokevirtual 155, 3) := by decide +kernel
theorem dX9_apart_26 : decode cX9_apart 26 = .ok (.ifCond .ne 5, 3) := by decide +kernel
theorem dX9_apart_29 : decode cX9_apart 29 = .ok (.iconst (-1), 1) := by decide +kernel
theorem dX9_apart_30 : decode cX9_apart 30 = .ok (.ireturn, 1) := by decide +kernel
theorem dX9_apart_31 : decode cX9_apart 31 = .ok (.aload_n 0, 1) := by decide +kernel
theorem dX9_apart_32 : decode cX9_apart 32 = .ok (.getfield 34, 3) := by decide +kernel
theorem dX9_apart_35 : decode cX9_apart 35 = .ok (.aload_n 0, 1) := by decide +kernel
theorem dX9_apart_36 : decode cX9_apart 36 = .ok (.getfield 41, 3) := by decide +kernel
theorem dX9_apart_39 : decode cX9_apart 39 = .ok (.aload_n 0, 1) := by decide +kernel
theorem dX9_apart_40 : decode cX9_apart 40 = .ok (.getfield 48, 3) := by decide +kernel
theorem dX9_apart_43 : decode cX9_apart 43 = .ok (.iconst 0, 1) := by decide +kernel
theorem dX9_apart_44 : decode cX9_apart 44 = .ok (.aload 5, 2) := by decide +kernel
theorem dX9_apart_46 : decode cX9_apart 46 = .ok (.getfield 104, 3) := by decide +kernel
theorem dX9_apart_49 : decode cX9_apart 49 = .ok (.invokevirtual 189, 3) := by decide +kernel
theorem dX9_apart_52 : decode cX9_apart 52 = .ok (.iload 4, 2) := by decide +kernel
theorem dX9_apart_54 : decode cX9_apart 54 = .ok (.ifCond .eq 15, 3) := by decide +kernel
theorem dX9_apart_57 : decode cX9_apart 57 = .ok (.aload_n 0, 1) := by decide +kernel
theorem dX9_apart_58 : decode cX9_apart 58 = .ok (.getfield 34, 3) := by decide +kernel
theorem dX9_apart_61 : decode cX9_apart 61 = .ok (.aload 5, 2) := by decide +kernel
theorem dX9_apart_63 : decode cX9_apart 63 = .ok (.invokevirtual 296, 3) := by decide +kernel
theorem dX9_apart_66 : decode cX9_apart 66 = .ok (.goto 12, 3) := by decide +kernel
theorem dX9_apart_69 : decode cX9_apart 69 = .ok (.aload_n 0, 1) := by decide +kernel
theorem dX9_apart_70 : decode cX9_apart 70 = .ok (.getfield 34, 3) := by decide +kernel
theorem dX9_apart_73 : decode cX9_apart 73 = .ok (.aload 5, 2) := by decide +kernel
theorem dX9_apart_75 : decode cX9_apart 75 = .ok (.invokevirtual 300, 3) := by decide +kernel
theorem dX9_apart_78 : decode cX9_apart 78 = .ok (.ireturn, 1) := by decide +kernel
set_option maxRecDepth 20000 in
theorem dX9_whose_0 : decode cX9_whose 0 = .ok (.aload_n 0, 1) := by decide +kernel
theorem dX9_whose_1 : decode cX9_whose 1 = .ok (.getfield 10, 3) := by decide +kernel
theorem dX9_whose_4 : decode cX9_whose 4 = .ok (.iload_n 2, 1) := by decide +kernel
theorem dX9_whose_5 : decode cX9_whose 5 = .ok (.invokevirtual 100, 3) := by decide +kernel
theorem dX9_whose_8 : decode cX9_whose 8 = .ok (.astore_n 3, 1) := by decide +kernel
theorem dX9_whose_9 : decode cX9_whose 9 = .ok (.aload_n 3, 1) := by decide +kernel
theorem dX9_whose_10 : decode cX9_whose 10 = .ok (.ifnonnull 5, 3) := by decide +kernel
theorem dX9_whose_13 : decode cX9_whose 13 = .ok (.iconst (-1), 1) := by decide +kernel
theorem dX9_whose_14 : decode cX9_whose 14 = .ok (.ireturn, 1) := by decide +kernel
theorem dX9_whose_15 : decode cX9_whose 15 = .ok (.iconst (-1), 1) := by decide +kernel
theorem dX9_whose_16 : decode cX9_whose 16 = .ok (.istore 4, 2) := by decide +kernel
theorem dX9_whose_18 : decode cX9_whose 18 = .ok (.ldc_w 303, 3) := by decide +kernel
theorem dX9_whose_21 : decode cX9_whose 21 = .ok (.istore 5, 2) := by decide +kernel
theorem dX9_whose_23 : decode cX9_whose 23 = .ok (.iconst 0, 1) := by decide +kernel
theorem dX9_whose_24 : decode cX9_whose 24 = .ok (.istore 6, 2) := by decide +kernel
theorem dX9_whose_26 : decode cX9_whose 26 = .ok (.iload 6, 2) := by decide +kernel
theorem dX9_whose_28 : decode cX9_whose 28 = .ok (.aload_n 0, 1) := by decide +kernel
theorem dX9_whose_29 : decode cX9_whose 29 = .ok (.getfield 10, 3) := by decide +kernel
theorem dX9_whose_32 : decode cX9_whose 32 = .ok (.getfield 280, 3) := by decide +kernel
theorem dX9_whose_35 : decode cX9_whose 35 = .ok (.if_icmp .ge 45, 3) := by decide +kernel
theorem dX9_whose_38 : decode cX9_whose 38 = .ok (.aload_n 0, 1) := by decide +kernel
theorem dX9_whose_39 : decode cX9_whose 39 = .ok (.iload_n 1, 1) := by decide +kernel
theorem dX9_whose_40 : decode cX9_whose 40 = .ok (.iload 6, 2) := by decide +kernel
theorem dX9_whose_42 : decode cX9_whose 42 = .ok (.aload_n 3, 1) := by decide +kernel
theorem dX9_whose_43 : decode cX9_whose 43 = .ok (.getfield 104, 3) := by decide +kernel
theorem dX9_whose_46 : decode cX9_whose 46 = .ok (.invokevirtual 155, 3) := by decide +kernel
theorem dX9_whose_49 : decode cX9_whose 49 = .ok (.ifCond .eq 25, 3) := by decide +kernel
theorem dX9_whose_52 : decode cX9_whose 52 = .ok (.aload_n 0, 1) := by decide +kernel
theorem dX9_whose_53 : decode cX9_whose 53 = .ok (.aload_n 3, 1) := by decide +kernel
theorem dX9_whose_54 : decode cX9_whose 54 = .ok (.invokevirtual 304, 3) := by decide +kernel
theorem dX9_whose_57 : decode cX9_whose 57 = .ok (.istore 7, 2) := by decide +kernel
theorem dX9_whose_59 : decode cX9_whose 59 = .ok (.iload 7, 2) := by decide +kernel
theorem dX9_whose_61 : decode cX9_whose 61 = .ok (.iload 5, 2) := by decide +kernel
theorem dX9_whose_63 : decode cX9_whose 63 = .ok (.if_icmp .ge 11, 3) := by decide +kernel
theorem dX9_whose_66 : decode cX9_whose 66 = .ok (.iload 7, 2) := by decide +kernel
theorem dX9_whose_68 : decode cX9_whose 68 = .ok (.istore 5, 2) := by decide +kernel
theorem dX9_whose_70 : decode cX9_whose 70 = .ok (.iload 6, 2) := by decide +kernel
theorem dX9_whose_72 : decode cX9_whose 72 = .ok (.istore 4, 2) := by decide +kernel
theorem dX9_whose_74 : decode cX9_whose 74 = .ok (.iinc 6 1, 3) := by decide +kernel
theorem dX9_whose_77 : decode cX9_whose 77 = .ok (.goto (-51), 3) := by decide +kernel
theorem dX9_whose_80 : decode cX9_whose 80 = .ok (.iload 4, 2) := by decide +kernel
theorem dX9_whose_82 : decode cX9_whose 82 = .ok (.ireturn, 1) := by decide +kernel
set_option maxRecDepth 20000 in
theorem dX9_tells_0 : decode cX9_tells 0 = .ok (.aload_n 0, 1) := by decide +kernel
theorem dX9_tells_1 : decode cX9_tells 1 = .ok (.getfield 10, 3) := by decide +kernel
theorem dX9_tells_4 : decode cX9_tells 4 = .ok (.iload_n 3, 1) := by decide +kernel
theorem dX9_tells_5 : decode cX9_tells 5 = .ok (.invokevirtual 100, 3) := by decide +kernel
theorem dX9_tells_8 : decode cX9_tells 8 = .ok (.astore 4, 2) := by decide +kernel
theorem dX9_tells_10 : decode cX9_tells 10 = .ok (.aload 4, 2) := by decide +kernel
theorem dX9_tells_12 : decode cX9_tells 12 = .ok (.ifnull 17, 3) := by decide +kernel
theorem dX9_tells_15 : decode cX9_tells 15 = .ok (.aload_n 0, 1) := by decide +kernel
theorem dX9_tells_16 : decode cX9_tells 16 = .ok (.iload_n 1, 1) := by decide +kernel
theorem dX9_tells_17 : decode cX9_tells 17 = .ok (.iload_n 2, 1) := by decide +kernel
theorem dX9_tells_18 : decode cX9_tells 18 = .ok (.aload 4, 2) := by decide +kernel
theorem dX9_tells_20 : decode cX9_tells 20 = .ok (.getfield 104, 3) := by decide +kernel
theorem dX9_tells_23 : decode cX9_tells 23 = .ok (.invokevirtual 155, 3) := by decide +kernel
theorem dX9_tells_26 : decode cX9_tells 26 = .ok (.ifCond .ne 5, 3) := by decide +kernel
theorem dX9_tells_29 : decode cX9_tells 29 = .ok (.iconst (-1), 1) := by decide +kernel
theorem dX9_tells_30 : decode cX9_tells 30 = .ok (.ireturn, 1) := by decide +kernel
theorem dX9_tells_31 : decode cX9_tells 31 = .ok (.iconst (-1), 1) := by decide +kernel
theorem dX9_tells_32 : decode cX9_tells 32 = .ok (.istore 5, 2) := by decide +kernel
theorem dX9_tells_34 : decode cX9_tells 34 = .ok (.ldc_w 303, 3) := by decide +kernel
theorem dX9_tells_37 : decode cX9_tells 37 = .ok (.istore 6, 2) := by decide +kernel
theorem dX9_tells_39 : decode cX9_tells 39 = .ok (.iconst 0, 1) := by decide +kernel
theorem dX9_tells_40 : decode cX9_tells 40 = .ok (.istore 7, 2) := by decide +kernel
theorem dX9_tells_42 : decode cX9_tells 42 = .ok (.iload 7, 2) := by decide +kernel
theorem dX9_tells_44 : decode cX9_tells 44 = .ok (.bipush 99, 2) := by decide +kernel
theorem dX9_tells_46 : decode cX9_tells 46 = .ok (.if_icmp .gt 42, 3) := by decide +kernel
theorem dX9_tells_49 : decode cX9_tells 49 = .ok (.aload_n 0, 1) := by decide +kernel
theorem dX9_tells_50 : decode cX9_tells 50 = .ok (.getfield 41, 3) := by decide +kernel
theorem dX9_tells_53 : decode cX9_tells 53 = .ok (.iconst 0, 1) := by decide +kernel
theorem dX9_tells_54 : decode cX9_tells 54 = .ok (.iload 7, 2) := by decide +kernel
theorem dX9_tells_56 : decode cX9_tells 56 = .ok (.invokevirtual 185, 3) := by decide +kernel
theorem dX9_tells_59 : decode cX9_tells 59 = .ok (.aload_n 0, 1) := by decide +kernel
theorem dX9_tells_60 : decode cX9_tells 60 = .ok (.aload 4, 2) := by decide +kernel
theorem dX9_tells_62 : decode cX9_tells 62 = .ok (.invokevirtual 304, 3) := by decide +kernel
theorem dX9_tells_65 : decode cX9_tells 65 = .ok (.istore 8, 2) := by decide +kernel
theorem dX9_tells_67 : decode cX9_tells 67 = .ok (.iload 8, 2) := by decide +kernel
theorem dX9_tells_69 : decode cX9_tells 69 = .ok (.iload 6, 2) := by decide +kernel
theorem dX9_tells_71 : decode cX9_tells 71 = .ok (.if_icmp .ge 11, 3) := by decide +kernel
theorem dX9_tells_74 : decode cX9_tells 74 = .ok (.iload 8, 2) := by decide +kernel
theorem dX9_tells_76 : decode cX9_tells 76 = .ok (.istore 6, 2) := by decide +kernel
theorem dX9_tells_78 : decode cX9_tells 78 = .ok (.iload 7, 2) := by decide +kernel
theorem dX9_tells_80 : decode cX9_tells 80 = .ok (.istore 5, 2) := by decide +kernel
theorem dX9_tells_82 : decode cX9_tells 82 = .ok (.iinc 7 1, 3) := by decide +kernel
theorem dX9_tells_85 : decode cX9_tells 85 = .ok (.goto (-43), 3) := by decide +kernel
theorem dX9_tells_88 : decode cX9_tells 88 = .ok (.iload 5, 2) := by decide +kernel
theorem dX9_tells_90 : decode cX9_tells 90 = .ok (.ireturn, 1) := by decide +kernel
set_option maxRecDepth 20000 in
theorem dX9_slipped_0 : decode cX9_slipped 0 = .ok (.aload_n 0, 1) := by decide +kernel
theorem dX9_slipped_1 : decode cX9_slipped 1 = .ok (.iload_n 1, 1) := by decide +kernel
theorem dX9_slipped_2 : decode cX9_slipped 2 = .ok (.iload_n 2, 1) := by decide +kernel
theorem dX9_slipped_3 : decode cX9_slipped 3 = .ok (.iload 5, 2) := by decide +kernel
theorem dX9_slipped_5 : decode cX9_slipped 5 = .ok (.invokevirtual 155, 3) := by decide +kernel
theorem dX9_slipped_8 : decode cX9_slipped 8 = .ok (.ifCond .eq 16, 3) := by decide +kernel
theorem dX9_slipped_11 : decode cX9_slipped 11 = .ok (.iload 4, 2) := by decide +kernel
theorem dX9_slipped_13 : decode cX9_slipped 13 = .ok (.iconst 1, 1) := by decide +kernel
theorem dX9_slipped_14 : decode cX9_slipped 14 = .ok (.if_icmp .lt 10, 3) := by decide +kernel
theorem dX9_slipped_17 : decode cX9_slipped 17 = .ok (.iload 4, 2) := by decide +kernel
theorem dX9_slipped_19 : decode cX9_slipped 19 = .ok (.bipush 20, 2) := by decide +kernel
theorem dX9_slipped_21 : decode cX9_slipped 21 = .ok (.if_icmp .le 7, 3) := by decide +kernel
theorem dX9_slipped_24 : decode cX9_slipped 24 = .ok (.ldc2_w 250, 3) := by decide +kernel
theorem dX9_slipped_27 : decode cX9_slipped 27 = .ok (.lreturn, 1) := by decide +kernel
theorem dX9_slipped_28 : decode cX9_slipped 28 = .ok (.iload_n 3, 1) := by decide +kernel
theorem dX9_slipped_29 : decode cX9_slipped 29 = .ok (.istore 7, 2) := by decide +kernel
theorem dX9_slipped_31 : decode cX9_slipped 31 = .ok (.ldc2_w 165, 3) := by decide +kernel
theorem dX9_slipped_34 : decode cX9_slipped 34 = .ok (.lstore 8, 2) := by decide +kernel
theorem dX9_slipped_36 : decode cX9_slipped 36 = .ok (.lconst 0, 1) := by decide +kernel
theorem dX9_slipped_37 : decode cX9_slipped 37 = .ok (.lstore 10, 2) := by decide +kernel
theorem dX9_slipped_39 : decode cX9_slipped 39 = .ok (.iconst 0, 1) := by decide +kernel
theorem dX9_slipped_40 : decode cX9_slipped 40 = .ok (.istore 12, 2) := by decide +kernel
theorem dX9_slipped_42 : decode cX9_slipped 42 = .ok (.iload 12, 2) := by decide +kernel
theorem dX9_slipped_44 : decode cX9_slipped 44 = .ok (.iload 4, 2) := by decide +kernel
theorem dX9_slipped_46 : decode cX9_slipped 46 = .ok (.if_icmp .ge 64, 3) := by decide +kernel
theorem dX9_slipped_49 : decode cX9_slipped 49 = .ok (.aload_n 0, 1) := by decide +kernel
theorem dX9_slipped_50 : decode cX9_slipped 50 = .ok (.getfield 34, 3) := by decide +kernel
theorem dX9_slipped_53 : decode cX9_slipped 53 = .ok (.aload_n 0, 1) := by decide +kernel
theorem dX9_slipped_54 : decode cX9_slipped 54 = .ok (.getfield 41, 3) := by decide +kernel
theorem dX9_slipped_57 : decode cX9_slipped 57 = .ok (.aload_n 0, 1) := by decide +kernel
theorem dX9_slipped_58 : decode cX9_slipped 58 = .ok (.getfield 48, 3) := by decide +kernel
theorem dX9_slipped_61 : decode cX9_slipped 61 = .ok (.iload_n 3, 1) := by decide +kernel
theorem dX9_slipped_62 : decode cX9_slipped 62 = .ok (.iload 12, 2) := by decide +kernel
theorem dX9_slipped_64 : decode cX9_slipped 64 = .ok (.iadd, 1) := by decide +kernel
theorem dX9_slipped_65 : decode cX9_slipped 65 = .ok (.iload 5, 2) := by decide +kernel
theorem dX9_slipped_67 : decode cX9_slipped 67 = .ok (.invokevirtual 189, 3) := by decide +kernel
theorem dX9_slipped_70 : decode cX9_slipped 70 = .ok (.aload_n 0, 1) := by decide +kernel
theorem dX9_slipped_71 : decode cX9_slipped 71 = .ok (.getfield 34, 3) := by decide +kernel
theorem dX9_slipped_74 : decode cX9_slipped 74 = .ok (.invokevirtual 259, 3) := by decide +kernel
theorem dX9_slipped_77 : decode cX9_slipped 77 = .ok (.lstore 13, 2) := by decide +kernel
theorem dX9_slipped_79 : decode cX9_slipped 79 = .ok (.lload 10, 2) := by decide +kernel
theorem dX9_slipped_81 : decode cX9_slipped 81 = .ok (.lload 13, 2) := by decide +kernel
theorem dX9_slipped_83 : decode cX9_slipped 83 = .ok (.ladd, 1) := by decide +kernel
theorem dX9_slipped_84 : decode cX9_slipped 84 = .ok (.lstore 10, 2) := by decide +kernel
theorem dX9_slipped_86 : decode cX9_slipped 86 = .ok (.lload 13, 2) := by decide +kernel
theorem dX9_slipped_88 : decode cX9_slipped 88 = .ok (.lload 8, 2) := by decide +kernel
theorem dX9_slipped_90 : decode cX9_slipped 90 = .ok (.lcmp, 1) := by decide +kernel
theorem dX9_slipped_91 : decode cX9_slipped 91 = .ok (.ifCond .ge 13, 3) := by decide +kernel
theorem dX9_slipped_94 : decode cX9_slipped 94 = .ok (.lload 13, 2) := by decide +kernel
theorem dX9_slipped_96 : decode cX9_slipped 96 = .ok (.lstore 8, 2) := by decide +kernel
theorem dX9_slipped_98 : decode cX9_slipped 98 = .ok (.iload_n 3, 1) := by decide +kernel
theorem dX9_slipped_99 : decode cX9_slipped 99 = .ok (.iload 12, 2) := by decide +kernel
theorem dX9_slipped_101 : decode cX9_slipped 101 = .ok (.iadd, 1) := by decide +kernel
theorem dX9_slipped_102 : decode cX9_slipped 102 = .ok (.istore 7, 2) := by decide +kernel
theorem dX9_slipped_104 : decode cX9_slipped 104 = .ok (.iinc 12 1, 3) := by decide +kernel
theorem dX9_slipped_107 : decode cX9_slipped 107 = .ok (.goto (-65), 3) := by decide +kernel
theorem dX9_slipped_110 : decode cX9_slipped 110 = .ok (.iload 6, 2) := by decide +kernel
theorem dX9_slipped_112 : decode cX9_slipped 112 = .ok (.ifCond .eq 9, 3) := by decide +kernel
theorem dX9_slipped_115 : decode cX9_slipped 115 = .ok (.iload 7, 2) := by decide +kernel
theorem dX9_slipped_117 : decode cX9_slipped 117 = .ok (.i2l, 1) := by decide +kernel
theorem dX9_slipped_118 : decode cX9_slipped 118 = .ok (.goto 5, 3) := by decide +kernel
theorem dX9_slipped_121 : decode cX9_slipped 121 = .ok (.lload 10, 2) := by decide +kernel
theorem dX9_slipped_123 : decode cX9_slipped 123 = .ok (.lreturn, 1) := by decide +kernel
set_option maxRecDepth 20000 in
theorem dX9_lead_0 : decode cX9_lead 0 = .ok (.aload_n 0, 1) := by decide +kernel
theorem dX9_lead_1 : decode cX9_lead 1 = .ok (.iload_n 1, 1) := by decide +kernel
theorem dX9_lead_2 : decode cX9_lead 2 = .ok (.iload_n 2, 1) := by decide +kernel
theorem dX9_lead_3 : decode cX9_lead 3 = .ok (.iload_n 3, 1) := by decide +kernel
theorem dX9_lead_4 : decode cX9_lead 4 = .ok (.iload 4, 2) := by decide +kernel
theorem dX9_lead_6 : decode cX9_lead 6 = .ok (.invokevirtual 171, 3) := by decide +kernel
theorem dX9_lead_9 : decode cX9_lead 9 = .ok (.ifCond .ne 5, 3) := by decide +kernel
theorem dX9_lead_12 : decode cX9_lead 12 = .ok (.iconst (-1), 1) := by decide +kernel
theorem dX9_lead_13 : decode cX9_lead 13 = .ok (.ireturn, 1) := by decide +kernel
theorem dX9_lead_14 : decode cX9_lead 14 = .ok (.iconst 0, 1) := by decide +kernel
theorem dX9_lead_15 : decode cX9_lead 15 = .ok (.istore 5, 2) := by decide +kernel
theorem dX9_lead_17 : decode cX9_lead 17 = .ok (.iload 5, 2) := by decide +kernel
theorem dX9_lead_19 : decode cX9_lead 19 = .ok (.bipush 99, 2) := by decide +kernel
theorem dX9_lead_21 : decode cX9_lead 21 = .ok (.if_icmp .gt 23, 3) := by decide +kernel
theorem dX9_lead_24 : decode cX9_lead 24 = .ok (.aload_n 0, 1) := by decide +kernel
theorem dX9_lead_25 : decode cX9_lead 25 = .ok (.iconst 1, 1) := by decide +kernel
theorem dX9_lead_26 : decode cX9_lead 26 = .ok (.iload 5, 2) := by decide +kernel
theorem dX9_lead_28 : decode cX9_lead 28 = .ok (.iload_n 3, 1) := by decide +kernel
theorem dX9_lead_29 : decode cX9_lead 29 = .ok (.invokevirtual 174, 3) := by decide +kernel
theorem dX9_lead_32 : decode cX9_lead 32 = .ok (.ifCond .ne 6, 3) := by decide +kernel
theorem dX9_lead_35 : decode cX9_lead 35 = .ok (.iload 5, 2) := by decide +kernel
theorem dX9_lead_37 : decode cX9_lead 37 = .ok (.ireturn, 1) := by decide +kernel
theorem dX9_lead_38 : decode cX9_lead 38 = .ok (.iinc 5 1, 3) := by decide +kernel
theorem dX9_lead_41 : decode cX9_lead 41 = .ok (.goto (-24), 3) := by decide +kernel
theorem dX9_lead_44 : decode cX9_lead 44 = .ok (.iconst (-1), 1) := by decide +kernel
theorem dX9_lead_45 : decode cX9_lead 45 = .ok (.ireturn, 1) := by decide +kernel
set_option maxRecDepth 20000 in
theorem dX9_bound_0 : decode cX9_bound 0 = .ok (.aload_n 0, 1) := by decide +kernel
theorem dX9_bound_1 : decode cX9_bound 1 = .ok (.iload_n 1, 1) := by decide +kernel
theorem dX9_bound_2 : decode cX9_bound 2 = .ok (.iload_n 2, 1) := by decide +kernel
theorem dX9_bound_3 : decode cX9_bound 3 = .ok (.iload_n 3, 1) := by decide +kernel
theorem dX9_bound_4 : decode cX9_bound 4 = .ok (.invokevirtual 155, 3) := by decide +kernel
theorem dX9_bound_7 : decode cX9_bound 7 = .ok (.ifCond .eq 8, 3) := by decide +kernel
theorem dX9_bound_10 : decode cX9_bound 10 = .ok (.iload 4, 2) := by decide +kernel
theorem dX9_bound_12 : decode cX9_bound 12 = .ok (.ifCond .ge 5, 3) := by decide +kernel
theorem dX9_bound_15 : decode cX9_bound 15 = .ok (.iconst (-1), 1) := by decide +kernel
theorem dX9_bound_16 : decode cX9_bound 16 = .ok (.ireturn, 1) := by decide +kernel
theorem dX9_bound_17 : decode cX9_bound 17 = .ok (.iload 5, 2) := by decide +kernel
theorem dX9_bound_19 : decode cX9_bound 19 = .ok (.tableswitch 51 0 2 #[25, 33, 42], 25) := by decide +kernel
theorem dX9_bound_44 : decode cX9_bound 44 = .ok (.aload_n 0, 1) := by decide +kernel
theorem dX9_bound_45 : decode cX9_bound 45 = .ok (.iload_n 3, 1) := by decide +kernel
theorem dX9_bound_46 : decode cX9_bound 46 = .ok (.iload 4, 2) := by decide +kernel
theorem dX9_bound_48 : decode cX9_bound 48 = .ok (.invokevirtual 307, 3) := by decide +kernel
theorem dX9_bound_51 : decode cX9_bound 51 = .ok (.ireturn, 1) := by decide +kernel
theorem dX9_bound_52 : decode cX9_bound 52 = .ok (.aload_n 0, 1) := by decide +kernel
theorem dX9_bound_53 : decode cX9_bound 53 = .ok (.iconst 3, 1) := by decide +kernel
theorem dX9_bound_54 : decode cX9_bound 54 = .ok (.iload_n 3, 1) := by decide +kernel
theorem dX9_bound_55 : decode cX9_bound 55 = .ok (.iload 4, 2) := by decide +kernel
theorem dX9_bound_57 : decode cX9_bound 57 = .ok (.invokevirtual 310, 3) := by decide +kernel
theorem dX9_bound_60 : decode cX9_bound 60 = .ok (.ireturn, 1) := by decide +kernel
theorem dX9_bound_61 : decode cX9_bound 61 = .ok (.aload_n 0, 1) := by decide +kernel
theorem dX9_bound_62 : decode cX9_bound 62 = .ok (.iconst 4, 1) := by decide +kernel
theorem dX9_bound_63 : decode cX9_bound 63 = .ok (.iload_n 3, 1) := by decide +kernel
theorem dX9_bound_64 : decode cX9_bound 64 = .ok (.iload 4, 2) := by decide +kernel
theorem dX9_bound_66 : decode cX9_bound 66 = .ok (.invokevirtual 310, 3) := by decide +kernel
theorem dX9_bound_69 : decode cX9_bound 69 = .ok (.ireturn, 1) := by decide +kernel
theorem dX9_bound_70 : decode cX9_bound 70 = .ok (.iconst (-1), 1) := by decide +kernel
theorem dX9_bound_71 : decode cX9_bound 71 = .ok (.ireturn, 1) := by decide +kernel
set_option maxRecDepth 20000 in
theorem dX9_first_0 : decode cX9_first 0 = .ok (.aload_n 0, 1) := by decide +kernel
theorem dX9_first_1 : decode cX9_first 1 = .ok (.iload_n 1, 1) := by decide +kernel
theorem dX9_first_2 : decode cX9_first 2 = .ok (.iload_n 2, 1) := by decide +kernel
theorem dX9_first_3 : decode cX9_first 3 = .ok (.iload_n 3, 1) := by decide +kernel
theorem dX9_first_4 : decode cX9_first 4 = .ok (.invokevirtual 155, 3) := by decide +kernel
theorem dX9_first_7 : decode cX9_first 7 = .ok (.ifCond .ne 5, 3) := by decide +kernel
theorem dX9_first_10 : decode cX9_first 10 = .ok (.iconst (-1), 1) := by decide +kernel
theorem dX9_first_11 : decode cX9_first 11 = .ok (.ireturn, 1) := by decide +kernel
theorem dX9_first_12 : decode cX9_first 12 = .ok (.aload_n 0, 1) := by decide +kernel
theorem dX9_first_13 : decode cX9_first 13 = .ok (.getfield 34, 3) := by decide +kernel
theorem dX9_first_16 : decode cX9_first 16 = .ok (.aload_n 0, 1) := by decide +kernel
theorem dX9_first_17 : decode cX9_first 17 = .ok (.getfield 41, 3) := by decide +kernel
theorem dX9_first_20 : decode cX9_first 20 = .ok (.aload_n 0, 1) := by decide +kernel
theorem dX9_first_21 : decode cX9_first 21 = .ok (.getfield 48, 3) := by decide +kernel
theorem dX9_first_24 : decode cX9_first 24 = .ok (.iconst 0, 1) := by decide +kernel
theorem dX9_first_25 : decode cX9_first 25 = .ok (.iload_n 3, 1) := by decide +kernel
theorem dX9_first_26 : decode cX9_first 26 = .ok (.invokevirtual 189, 3) := by decide +kernel
theorem dX9_first_29 : decode cX9_first 29 = .ok (.iload 4, 2) := by decide +kernel
theorem dX9_first_31 : decode cX9_first 31 = .ok (.tableswitch 52 0 2 #[25, 36, 44], 25) := by decide +kernel
theorem dX9_first_56 : decode cX9_first 56 = .ok (.aload_n 0, 1) := by decide +kernel
theorem dX9_first_57 : decode cX9_first 57 = .ok (.getfield 34, 3) := by decide +kernel
theorem dX9_first_60 : decode cX9_first 60 = .ok (.sipush 8999, 3) := by decide +kernel
theorem dX9_first_63 : decode cX9_first 63 = .ok (.invokevirtual 226, 3) := by decide +kernel
theorem dX9_first_66 : decode cX9_first 66 = .ok (.ireturn, 1) := by decide +kernel
theorem dX9_first_67 : decode cX9_first 67 = .ok (.aload_n 0, 1) := by decide +kernel
theorem dX9_first_68 : decode cX9_first 68 = .ok (.getfield 34, 3) := by decide +kernel
theorem dX9_first_71 : decode cX9_first 71 = .ok (.invokevirtual 313, 3) := by decide +kernel
theorem dX9_first_74 : decode cX9_first 74 = .ok (.ireturn, 1) := by decide +kernel
theorem dX9_first_75 : decode cX9_first 75 = .ok (.aload_n 0, 1) := by decide +kernel
theorem dX9_first_76 : decode cX9_first 76 = .ok (.getfield 34, 3) := by decide +kernel
theorem dX9_first_79 : decode cX9_first 79 = .ok (.invokevirtual 317, 3) := by decide +kernel
theorem dX9_first_82 : decode cX9_first 82 = .ok (.ireturn, 1) := by decide +kernel
theorem dX9_first_83 : decode cX9_first 83 = .ok (.iconst (-1), 1) := by decide +kernel
theorem dX9_first_84 : decode cX9_first 84 = .ok (.ireturn, 1) := by decide +kernel
set_option maxRecDepth 20000 in
theorem dX9_better_0 : decode cX9_better 0 = .ok (.aload_n 0, 1) := by decide +kernel
theorem dX9_better_1 : decode cX9_better 1 = .ok (.iload_n 1, 1) := by decide +kernel
theorem dX9_better_2 : decode cX9_better 2 = .ok (.iload_n 2, 1) := by decide +kernel
theorem dX9_better_3 : decode cX9_better 3 = .ok (.iload 4, 2) := by decide +kernel
theorem dX9_better_5 : decode cX9_better 5 = .ok (.invokevirtual 155, 3) := by decide +kernel
theorem dX9_better_8 : decode cX9_better 8 = .ok (.ifCond .ne 5, 3) := by decide +kernel
theorem dX9_better_11 : decode cX9_better 11 = .ok (.iconst (-1), 1) := by decide +kernel
theorem dX9_better_12 : decode cX9_better 12 = .ok (.ireturn, 1) := by decide +kernel
theorem dX9_better_13 : decode cX9_better 13 = .ok (.aload_n 0, 1) := by decide +kernel
theorem dX9_better_14 : decode cX9_better 14 = .ok (.iload 4, 2) := by decide +kernel
theorem dX9_better_16 : decode cX9_better 16 = .ok (.invokevirtual 216, 3) := by decide +kernel
theorem dX9_better_19 : decode cX9_better 19 = .ok (.lstore 5, 2) := by decide +kernel
theorem dX9_better_21 : decode cX9_better 21 = .ok (.aload_n 0, 1) := by decide +kernel
theorem dX9_better_22 : decode cX9_better 22 = .ok (.iload_n 1, 1) := by decide +kernel
theorem dX9_better_23 : decode cX9_better 23 = .ok (.iload_n 3, 1) := by decide +kernel
theorem dX9_better_24 : decode cX9_better 24 = .ok (.iload 4, 2) := by decide +kernel
theorem dX9_better_26 : decode cX9_better 26 = .ok (.invokevirtual 155, 3) := by decide +kernel
theorem dX9_better_29 : decode cX9_better 29 = .ok (.ifCond .ne 5, 3) := by decide +kernel
theorem dX9_better_32 : decode cX9_better 32 = .ok (.iconst (-1), 1) := by decide +kernel
theorem dX9_better_33 : decode cX9_better 33 = .ok (.ireturn, 1) := by decide +kernel
theorem dX9_better_34 : decode cX9_better 34 = .ok (.aload_n 0, 1) := by decide +kernel
theorem dX9_better_35 : decode cX9_better 35 = .ok (.iload 4, 2) := by decide +kernel
theorem dX9_better_37 : decode cX9_better 37 = .ok (.invokevirtual 216, 3) := by decide +kernel
theorem dX9_better_40 : decode cX9_better 40 = .ok (.lstore 7, 2) := by decide +kernel
theorem dX9_better_42 : decode cX9_better 42 = .ok (.lload 5, 2) := by decide +kernel
theorem dX9_better_44 : decode cX9_better 44 = .ok (.lload 7, 2) := by decide +kernel
theorem dX9_better_46 : decode cX9_better 46 = .ok (.lcmp, 1) := by decide +kernel
theorem dX9_better_47 : decode cX9_better 47 = .ok (.ifCond .ge 7, 3) := by decide +kernel
theorem dX9_better_50 : decode cX9_better 50 = .ok (.iconst 0, 1) := by decide +kernel
theorem dX9_better_51 : decode cX9_better 51 = .ok (.goto 16, 3) := by decide +kernel
theorem dX9_better_54 : decode cX9_better 54 = .ok (.lload 5, 2) := by decide +kernel
theorem dX9_better_56 : decode cX9_better 56 = .ok (.lload 7, 2) := by decide +kernel
theorem dX9_better_58 : decode cX9_better 58 = .ok (.lcmp, 1) := by decide +kernel
theorem dX9_better_59 : decode cX9_better 59 = .ok (.ifCond .le 7, 3) := by decide +kernel
theorem dX9_better_62 : decode cX9_better 62 = .ok (.iconst 1, 1) := by decide +kernel
theorem dX9_better_63 : decode cX9_better 63 = .ok (.goto 4, 3) := by decide +kernel
theorem dX9_better_66 : decode cX9_better 66 = .ok (.iconst 2, 1) := by decide +kernel
theorem dX9_better_67 : decode cX9_better 67 = .ok (.ireturn, 1) := by decide +kernel
set_option maxRecDepth 20000 in
theorem dX9_reads_0 : decode cX9_reads 0 = .ok (.aload_n 0, 1) := by decide +kernel
theorem dX9_reads_1 : decode cX9_reads 1 = .ok (.getfield 10, 3) := by decide +kernel
theorem dX9_reads_4 : decode cX9_reads 4 = .ok (.iload_n 3, 1) := by decide +kernel
theorem dX9_reads_5 : decode cX9_reads 5 = .ok (.invokevirtual 100, 3) := by decide +kernel
theorem dX9_reads_8 : decode cX9_reads 8 = .ok (.astore 7, 2) := by decide +kernel
theorem dX9_reads_10 : decode cX9_reads 10 = .ok (.aload 7, 2) := by decide +kernel
theorem dX9_reads_12 : decode cX9_reads 12 = .ok (.ifnull 17, 3) := by decide +kernel
theorem dX9_reads_15 : decode cX9_reads 15 = .ok (.aload_n 0, 1) := by decide +kernel
theorem dX9_reads_16 : decode cX9_reads 16 = .ok (.iload_n 1, 1) := by decide +kernel
theorem dX9_reads_17 : decode cX9_reads 17 = .ok (.iload_n 2, 1) := by decide +kernel
theorem dX9_reads_18 : decode cX9_reads 18 = .ok (.aload 7, 2) := by decide +kernel
theorem dX9_reads_20 : decode cX9_reads 20 = .ok (.getfield 104, 3) := by decide +kernel
theorem dX9_reads_23 : decode cX9_reads 23 = .ok (.invokevirtual 155, 3) := by decide +kernel
theorem dX9_reads_26 : decode cX9_reads 26 = .ok (.ifCond .ne 5, 3) := by decide +kernel
theorem dX9_reads_29 : decode cX9_reads 29 = .ok (.iconst (-1), 1) := by decide +kernel
theorem dX9_reads_30 : decode cX9_reads 30 = .ok (.ireturn, 1) := by decide +kernel
theorem dX9_reads_31 : decode cX9_reads 31 = .ok (.aload_n 0, 1) := by decide +kernel
theorem dX9_reads_32 : decode cX9_reads 32 = .ok (.aload 7, 2) := by decide +kernel
theorem dX9_reads_34 : decode cX9_reads 34 = .ok (.aload 7, 2) := by decide +kernel
theorem dX9_reads_36 : decode cX9_reads 36 = .ok (.getfield 104, 3) := by decide +kernel
theorem dX9_reads_39 : decode cX9_reads 39 = .ok (.iload 4, 2) := by decide +kernel
theorem dX9_reads_41 : decode cX9_reads 41 = .ok (.iload 5, 2) := by decide +kernel
theorem dX9_reads_43 : decode cX9_reads 43 = .ok (.iload 6, 2) := by decide +kernel
theorem dX9_reads_45 : decode cX9_reads 45 = .ok (.invokevirtual 161, 3) := by decide +kernel
theorem dX9_reads_48 : decode cX9_reads 48 = .ok (.l2i, 1) := by decide +kernel
theorem dX9_reads_49 : decode cX9_reads 49 = .ok (.ireturn, 1) := by decide +kernel
set_option maxRecDepth 20000 in
theorem dX9_parted_0 : decode cX9_parted 0 = .ok (.aload_n 0, 1) := by decide +kernel
theorem dX9_parted_1 : decode cX9_parted 1 = .ok (.getfield 10, 3) := by decide +kernel
theorem dX9_parted_4 : decode cX9_parted 4 = .ok (.iload_n 1, 1) := by decide +kernel
theorem dX9_parted_5 : decode cX9_parted 5 = .ok (.invokevirtual 86, 3) := by decide +kernel
theorem dX9_parted_8 : decode cX9_parted 8 = .ok (.astore 5, 2) := by decide +kernel
theorem dX9_parted_10 : decode cX9_parted 10 = .ok (.aload_n 0, 1) := by decide +kernel
theorem dX9_parted_11 : decode cX9_parted 11 = .ok (.getfield 10, 3) := by decide +kernel
theorem dX9_parted_14 : decode cX9_parted 14 = .ok (.iload_n 2, 1) := by decide +kernel
theorem dX9_parted_15 : decode cX9_parted 15 = .ok (.invokevirtual 95, 3) := by decide +kernel
theorem dX9_parted_18 : decode cX9_parted 18 = .ok (.astore 6, 2) := by decide +kernel
theorem dX9_parted_20 : decode cX9_parted 20 = .ok (.aload_n 0, 1) := by decide +kernel
theorem dX9_parted_21 : decode cX9_parted 21 = .ok (.getfield 10, 3) := by decide +kernel
theorem dX9_parted_24 : decode cX9_parted 24 = .ok (.iload_n 3, 1) := by decide +kernel
theorem dX9_parted_25 : decode cX9_parted 25 = .ok (.invokevirtual 95, 3) := by decide +kernel
theorem dX9_parted_28 : decode cX9_parted 28 = .ok (.astore 7, 2) := by decide +kernel
theorem dX9_parted_30 : decode cX9_parted 30 = .ok (.aload_n 0, 1) := by decide +kernel
theorem dX9_parted_31 : decode cX9_parted 31 = .ok (.getfield 10, 3) := by decide +kernel
theorem dX9_parted_34 : decode cX9_parted 34 = .ok (.iload 4, 2) := by decide +kernel
theorem dX9_parted_36 : decode cX9_parted 36 = .ok (.invokevirtual 100, 3) := by decide +kernel
theorem dX9_parted_39 : decode cX9_parted 39 = .ok (.astore 8, 2) := by decide +kernel
theorem dX9_parted_41 : decode cX9_parted 41 = .ok (.aload 5, 2) := by decide +kernel
theorem dX9_parted_43 : decode cX9_parted 43 = .ok (.ifnull 18, 3) := by decide +kernel
theorem dX9_parted_46 : decode cX9_parted 46 = .ok (.aload 6, 2) := by decide +kernel
theorem dX9_parted_48 : decode cX9_parted 48 = .ok (.ifnull 13, 3) := by decide +kernel
theorem dX9_parted_51 : decode cX9_parted 51 = .ok (.aload 7, 2) := by decide +kernel
theorem dX9_parted_53 : decode cX9_parted 53 = .ok (.ifnull 8, 3) := by decide +kernel
theorem dX9_parted_56 : decode cX9_parted 56 = .ok (.aload 8, 2) := by decide +kernel
theorem dX9_parted_58 : decode cX9_parted 58 = .ok (.ifnonnull 5, 3) := by decide +kernel
theorem dX9_parted_61 : decode cX9_parted 61 = .ok (.iconst (-1), 1) := by decide +kernel
theorem dX9_parted_62 : decode cX9_parted 62 = .ok (.ireturn, 1) := by decide +kernel
theorem dX9_parted_63 : decode cX9_parted 63 = .ok (.iconst (-1), 1) := by decide +kernel
theorem dX9_parted_64 : decode cX9_parted 64 = .ok (.istore 9, 2) := by decide +kernel
theorem dX9_parted_66 : decode cX9_parted 66 = .ok (.ldc_w 303, 3) := by decide +kernel
theorem dX9_parted_69 : decode cX9_parted 69 = .ok (.istore 10, 2) := by decide +kernel
theorem dX9_parted_71 : decode cX9_parted 71 = .ok (.iconst 0, 1) := by decide +kernel
theorem dX9_parted_72 : decode cX9_parted 72 = .ok (.istore 11, 2) := by decide +kernel
theorem dX9_parted_74 : decode cX9_parted 74 = .ok (.iload 11, 2) := by decide +kernel
theorem dX9_parted_76 : decode cX9_parted 76 = .ok (.aload 8, 2) := by decide +kernel
theorem dX9_parted_78 : decode cX9_parted 78 = .ok (.getfield 104, 3) := by decide +kernel
theorem dX9_parted_81 : decode cX9_parted 81 = .ok (.if_icmp .gt 52, 3) := by decide +kernel
theorem dX9_parted_84 : decode cX9_parted 84 = .ok (.aload_n 0, 1) := by decide +kernel
theorem dX9_parted_85 : decode cX9_parted 85 = .ok (.aload 5, 2) := by decide +kernel
theorem dX9_parted_87 : decode cX9_parted 87 = .ok (.aload 6, 2) := by decide +kernel
theorem dX9_parted_89 : decode cX9_parted 89 = .ok (.aload 7, 2) := by decide +kernel
theorem dX9_parted_91 : decode cX9_parted 91 = .ok (.iload 11, 2) := by decide +kernel
theorem dX9_parted_93 : decode cX9_parted 93 = .ok (.aload 8, 2) := by decide +kernel
theorem dX9_parted_95 : decode cX9_parted 95 = .ok (.getfield 104, 3) := by decide +kernel
theorem dX9_parted_98 : decode cX9_parted 98 = .ok (.invokevirtual 271, 3) := by decide +kernel
theorem dX9_parted_101 : decode cX9_parted 101 = .ok (.aload_n 0, 1) := by decide +kernel
theorem dX9_parted_102 : decode cX9_parted 102 = .ok (.getfield 34, 3) := by decide +kernel
theorem dX9_parted_105 : decode cX9_parted 105 = .ok (.aload 8, 2) := by decide +kernel
theorem dX9_parted_107 : decode cX9_parted 107 = .ok (.invokevirtual 300, 3) := by decide +kernel
theorem dX9_parted_110 : decode cX9_parted 110 = .ok (.istore 12, 2) := by decide +kernel
theorem dX9_parted_112 : decode cX9_parted 112 = .ok (.iload 12, 2) := by decide +kernel
theorem dX9_parted_114 : decode cX9_parted 114 = .ok (.iload 10, 2) := by decide +kernel
theorem dX9_parted_116 : decode cX9_parted 116 = .ok (.if_icmp .ge 11, 3) := by decide +kernel
theorem dX9_parted_119 : decode cX9_parted 119 = .ok (.iload 12, 2) := by decide +kernel
theorem dX9_parted_121 : decode cX9_parted 121 = .ok (.istore 10, 2) := by decide +kernel
theorem dX9_parted_123 : decode cX9_parted 123 = .ok (.iload 11, 2) := by decide +kernel
theorem dX9_parted_125 : decode cX9_parted 125 = .ok (.istore 9, 2) := by decide +kernel
theorem dX9_parted_127 : decode cX9_parted 127 = .ok (.iinc 11 1, 3) := by decide +kernel
theorem dX9_parted_130 : decode cX9_parted 130 = .ok (.goto (-56), 3) := by decide +kernel
theorem dX9_parted_133 : decode cX9_parted 133 = .ok (.iload 9, 2) := by decide +kernel
theorem dX9_parted_135 : decode cX9_parted 135 = .ok (.ireturn, 1) := by decide +kernel
set_option maxRecDepth 20000 in
theorem dX9_count_0 : decode cX9_count 0 = .ok (.aload_n 0, 1) := by decide +kernel
theorem dX9_count_1 : decode cX9_count 1 = .ok (.getfield 10, 3) := by decide +kernel
theorem dX9_count_4 : decode cX9_count 4 = .ok (.iload_n 1, 1) := by decide +kernel
theorem dX9_count_5 : decode cX9_count 5 = .ok (.invokevirtual 320, 3) := by decide +kernel
theorem dX9_count_8 : decode cX9_count 8 = .ok (.ireturn, 1) := by decide +kernel
set_option maxRecDepth 20000 in
theorem dX9_image_0 : decode cX9_image 0 = .ok (.iload_n 1, 1) := by decide +kernel
theorem dX9_image_1 : decode cX9_image 1 = .ok (.ifCond .lt 17, 3) := by decide +kernel
theorem dX9_image_4 : decode cX9_image 4 = .ok (.iload_n 1, 1) := by decide +kernel
theorem dX9_image_5 : decode cX9_image 5 = .ok (.iconst 3, 1) := by decide +kernel
theorem dX9_image_6 : decode cX9_image 6 = .ok (.if_icmp .ge 12, 3) := by decide +kernel
theorem dX9_image_9 : decode cX9_image 9 = .ok (.aload_n 0, 1) := by decide +kernel
theorem dX9_image_10 : decode cX9_image 10 = .ok (.getfield 16, 3) := by decide +kernel
theorem dX9_image_13 : decode cX9_image 13 = .ok (.iload_n 1, 1) := by decide +kernel
theorem dX9_image_14 : decode cX9_image 14 = .ok (.aaload, 1) := by decide +kernel
theorem dX9_image_15 : decode cX9_image 15 = .ok (.ifnonnull 5, 3) := by decide +kernel
theorem dX9_image_18 : decode cX9_image 18 = .ok (.iconst 0, 1) := by decide +kernel
theorem dX9_image_19 : decode cX9_image 19 = .ok (.ireturn, 1) := by decide +kernel
theorem dX9_image_20 : decode cX9_image 20 = .ok (.aload_n 0, 1) := by decide +kernel
theorem dX9_image_21 : decode cX9_image 21 = .ok (.getfield 16, 3) := by decide +kernel
theorem dX9_image_24 : decode cX9_image 24 = .ok (.iload_n 1, 1) := by decide +kernel
theorem dX9_image_25 : decode cX9_image 25 = .ok (.aaload, 1) := by decide +kernel
theorem dX9_image_26 : decode cX9_image 26 = .ok (.aload_n 0, 1) := by decide +kernel
theorem dX9_image_27 : decode cX9_image 27 = .ok (.getfield 10, 3) := by decide +kernel
theorem dX9_image_30 : decode cX9_image 30 = .ok (.invokevirtual 323, 3) := by decide +kernel
theorem dX9_image_33 : decode cX9_image 33 = .ok (.aload_n 0, 1) := by decide +kernel
theorem dX9_image_34 : decode cX9_image 34 = .ok (.getfield 20, 3) := by decide +kernel
theorem dX9_image_37 : decode cX9_image 37 = .ok (.iload_n 1, 1) := by decide +kernel
theorem dX9_image_38 : decode cX9_image 38 = .ok (.iconst 1, 1) := by decide +kernel
theorem dX9_image_39 : decode cX9_image 39 = .ok (.bastore, 1) := by decide +kernel
theorem dX9_image_40 : decode cX9_image 40 = .ok (.iconst 1, 1) := by decide +kernel
theorem dX9_image_41 : decode cX9_image 41 = .ok (.ireturn, 1) := by decide +kernel
set_option maxRecDepth 20000 in
theorem dX9_again_0 : decode cX9_again 0 = .ok (.iload_n 1, 1) := by decide +kernel
theorem dX9_again_1 : decode cX9_again 1 = .ok (.ifCond .lt 17, 3) := by decide +kernel
theorem dX9_again_4 : decode cX9_again 4 = .ok (.iload_n 1, 1) := by decide +kernel
theorem dX9_again_5 : decode cX9_again 5 = .ok (.iconst 3, 1) := by decide +kernel
theorem dX9_again_6 : decode cX9_again 6 = .ok (.if_icmp .ge 12, 3) := by decide +kernel
theorem dX9_again_9 : decode cX9_again 9 = .ok (.aload_n 0, 1) := by decide +kernel
theorem dX9_again_10 : decode cX9_again 10 = .ok (.getfield 20, 3) := by decide +kernel
theorem dX9_again_13 : decode cX9_again 13 = .ok (.iload_n 1, 1) := by decide +kernel
theorem dX9_again_14 : decode cX9_again 14 = .ok (.baload, 1) := by decide +kernel
theorem dX9_again_15 : decode cX9_again 15 = .ok (.ifCond .ne 5, 3) := by decide +kernel
theorem dX9_again_18 : decode cX9_again 18 = .ok (.iconst 0, 1) := by decide +kernel
theorem dX9_again_19 : decode cX9_again 19 = .ok (.ireturn, 1) := by decide +kernel
theorem dX9_again_20 : decode cX9_again 20 = .ok (.aload_n 0, 1) := by decide +kernel
theorem dX9_again_21 : decode cX9_again 21 = .ok (.getfield 10, 3) := by decide +kernel
theorem dX9_again_24 : decode cX9_again 24 = .ok (.aload_n 0, 1) := by decide +kernel
theorem dX9_again_25 : decode cX9_again 25 = .ok (.getfield 16, 3) := by decide +kernel
theorem dX9_again_28 : decode cX9_again 28 = .ok (.iload_n 1, 1) := by decide +kernel
theorem dX9_again_29 : decode cX9_again 29 = .ok (.aaload, 1) := by decide +kernel
theorem dX9_again_30 : decode cX9_again 30 = .ok (.invokevirtual 323, 3) := by decide +kernel
theorem dX9_again_33 : decode cX9_again 33 = .ok (.iconst 1, 1) := by decide +kernel
theorem dX9_again_34 : decode cX9_again 34 = .ok (.ireturn, 1) := by decide +kernel
theorem dX9_isTrial_0 : decode cX9_isTrial 0 = .ok (.iload_n 0, 1) := by decide +kernel
theorem dX9_isTrial_1 : decode cX9_isTrial 1 = .ok (.iconst 1, 1) := by decide +kernel
theorem dX9_isTrial_2 : decode cX9_isTrial 2 = .ok (.if_icmp .lt 14, 3) := by decide +kernel
theorem dX9_isTrial_5 : decode cX9_isTrial 5 = .ok (.iload_n 0, 1) := by decide +kernel
theorem dX9_isTrial_6 : decode cX9_isTrial 6 = .ok (.sipush 200, 3) := by decide +kernel
theorem dX9_isTrial_9 : decode cX9_isTrial 9 = .ok (.if_icmp .gt 7, 3) := by decide +kernel
theorem dX9_isTrial_12 : decode cX9_isTrial 12 = .ok (.iconst 1, 1) := by decide +kernel
theorem dX9_isTrial_13 : decode cX9_isTrial 13 = .ok (.goto 4, 3) := by decide +kernel
theorem dX9_isTrial_16 : decode cX9_isTrial 16 = .ok (.iconst 0, 1) := by decide +kernel
theorem dX9_isTrial_17 : decode cX9_isTrial 17 = .ok (.ireturn, 1) := by decide +kernel
set_option maxRecDepth 20000 in
theorem dX9_sailed_0 : decode cX9_sailed 0 = .ok (.aload_n 0, 1) := by decide +kernel
theorem dX9_sailed_1 : decode cX9_sailed 1 = .ok (.getfield 10, 3) := by decide +kernel
theorem dX9_sailed_4 : decode cX9_sailed 4 = .ok (.iload_n 1, 1) := by decide +kernel
theorem dX9_sailed_5 : decode cX9_sailed 5 = .ok (.invokevirtual 86, 3) := by decide +kernel
theorem dX9_sailed_8 : decode cX9_sailed 8 = .ok (.astore 5, 2) := by decide +kernel
theorem dX9_sailed_10 : decode cX9_sailed 10 = .ok (.aload_n 0, 1) := by decide +kernel
theorem dX9_sailed_11 : decode cX9_sailed 11 = .ok (.getfield 10, 3) := by decide +kernel
theorem dX9_sailed_14 : decode cX9_sailed 14 = .ok (.iload_n 2, 1) := by decide +kernel
theorem dX9_sailed_15 : decode cX9_sailed 15 = .ok (.invokevirtual 95, 3) := by decide +kernel
theorem dX9_sailed_18 : decode cX9_sailed 18 = .ok (.astore 6, 2) := by decide +kernel
theorem dX9_sailed_20 : decode cX9_sailed 20 = .ok (.aload 5, 2) := by decide +kernel
theorem dX9_sailed_22 : decode cX9_sailed 22 = .ok (.ifnull 13, 3) := by decide +kernel
theorem dX9_sailed_25 : decode cX9_sailed 25 = .ok (.aload 6, 2) := by decide +kernel
theorem dX9_sailed_27 : decode cX9_sailed 27 = .ok (.ifnonnull 10, 3) := by decide +kernel
theorem dX9_sailed_30 : decode cX9_sailed 30 = .ok (.iload_n 2, 1) := by decide +kernel
theorem dX9_sailed_31 : decode cX9_sailed 31 = .ok (.iconst (-1), 1) := by decide +kernel
theorem dX9_sailed_32 : decode cX9_sailed 32 = .ok (.if_icmp .eq 5, 3) := by decide +kernel
theorem dX9_sailed_35 : decode cX9_sailed 35 = .ok (.iconst 0, 1) := by decide +kernel
theorem dX9_sailed_36 : decode cX9_sailed 36 = .ok (.ireturn, 1) := by decide +kernel
theorem dX9_sailed_37 : decode cX9_sailed 37 = .ok (.aload_n 0, 1) := by decide +kernel
theorem dX9_sailed_38 : decode cX9_sailed 38 = .ok (.getfield 34, 3) := by decide +kernel
theorem dX9_sailed_41 : decode cX9_sailed 41 = .ok (.aload 5, 2) := by decide +kernel
theorem dX9_sailed_43 : decode cX9_sailed 43 = .ok (.aload 6, 2) := by decide +kernel
theorem dX9_sailed_45 : decode cX9_sailed 45 = .ok (.iload_n 3, 1) := by decide +kernel
theorem dX9_sailed_46 : decode cX9_sailed 46 = .ok (.iload 4, 2) := by decide +kernel
theorem dX9_sailed_48 : decode cX9_sailed 48 = .ok (.invokevirtual 189, 3) := by decide +kernel
theorem dX9_sailed_51 : decode cX9_sailed 51 = .ok (.iconst 1, 1) := by decide +kernel
theorem dX9_sailed_52 : decode cX9_sailed 52 = .ok (.ireturn, 1) := by decide +kernel
set_option maxRecDepth 20000 in
theorem dX9_ready_0 : decode cX9_ready 0 = .ok (.aload_n 0, 1) := by decide +kernel
theorem dX9_ready_1 : decode cX9_ready 1 = .ok (.getfield 10, 3) := by decide +kernel
theorem dX9_ready_4 : decode cX9_ready 4 = .ok (.iload_n 1, 1) := by decide +kernel
theorem dX9_ready_5 : decode cX9_ready 5 = .ok (.invokevirtual 86, 3) := by decide +kernel
theorem dX9_ready_8 : decode cX9_ready 8 = .ok (.astore 4, 2) := by decide +kernel
theorem dX9_ready_10 : decode cX9_ready 10 = .ok (.aload_n 0, 1) := by decide +kernel
theorem dX9_ready_11 : decode cX9_ready 11 = .ok (.getfield 10, 3) := by decide +kernel
theorem dX9_ready_14 : decode cX9_ready 14 = .ok (.iload_n 2, 1) := by decide +kernel
theorem dX9_ready_15 : decode cX9_ready 15 = .ok (.invokevirtual 95, 3) := by decide +kernel
theorem dX9_ready_18 : decode cX9_ready 18 = .ok (.astore 5, 2) := by decide +kernel
theorem dX9_ready_20 : decode cX9_ready 20 = .ok (.aload 4, 2) := by decide +kernel
theorem dX9_ready_22 : decode cX9_ready 22 = .ok (.ifnull 15, 3) := by decide +kernel
theorem dX9_ready_25 : decode cX9_ready 25 = .ok (.aload 5, 2) := by decide +kernel
theorem dX9_ready_27 : decode cX9_ready 27 = .ok (.ifnull 10, 3) := by decide +kernel
theorem dX9_ready_30 : decode cX9_ready 30 = .ok (.iload_n 3, 1) := by decide +kernel
theorem dX9_ready_31 : decode cX9_ready 31 = .ok (.invokestatic 177, 3) := by decide +kernel
theorem dX9_ready_34 : decode cX9_ready 34 = .ok (.ifCond .ne 5, 3) := by decide +kernel
theorem dX9_ready_37 : decode cX9_ready 37 = .ok (.iconst 0, 1) := by decide +kernel
theorem dX9_ready_38 : decode cX9_ready 38 = .ok (.ireturn, 1) := by decide +kernel
theorem dX9_ready_39 : decode cX9_ready 39 = .ok (.aload_n 0, 1) := by decide +kernel
theorem dX9_ready_40 : decode cX9_ready 40 = .ok (.getfield 41, 3) := by decide +kernel
theorem dX9_ready_43 : decode cX9_ready 43 = .ok (.aload 4, 2) := by decide +kernel
theorem dX9_ready_45 : decode cX9_ready 45 = .ok (.invokevirtual 181, 3) := by decide +kernel
theorem dX9_ready_48 : decode cX9_ready 48 = .ok (.aload_n 0, 1) := by decide +kernel
theorem dX9_ready_49 : decode cX9_ready 49 = .ok (.getfield 48, 3) := by decide +kernel
theorem dX9_ready_52 : decode cX9_ready 52 = .ok (.aload 5, 2) := by decide +kernel
theorem dX9_ready_54 : decode cX9_ready 54 = .ok (.invokevirtual 326, 3) := by decide +kernel
theorem dX9_ready_57 : decode cX9_ready 57 = .ok (.iconst 1, 1) := by decide +kernel
theorem dX9_ready_58 : decode cX9_ready 58 = .ok (.ireturn, 1) := by decide +kernel
set_option maxRecDepth 20000 in
theorem dX9_lagged_0 : decode cX9_lagged 0 = .ok (.iload 4, 2) := by decide +kernel
theorem dX9_lagged_2 : decode cX9_lagged 2 = .ok (.ifCond .lt 20, 3) := by decide +kernel
theorem dX9_lagged_5 : decode cX9_lagged 5 = .ok (.iload 4, 2) := by decide +kernel
theorem dX9_lagged_7 : decode cX9_lagged 7 = .ok (.bipush 9, 2) := by decide +kernel
theorem dX9_lagged_9 : decode cX9_lagged 9 = .ok (.if_icmp .gt 13, 3) := by decide +kernel
theorem dX9_lagged_12 : decode cX9_lagged 12 = .ok (.aload_n 0, 1) := by decide +kernel
theorem dX9_lagged_13 : decode cX9_lagged 13 = .ok (.iload_n 1, 1) := by decide +kernel
theorem dX9_lagged_14 : decode cX9_lagged 14 = .ok (.iload_n 2, 1) := by decide +kernel
theorem dX9_lagged_15 : decode cX9_lagged 15 = .ok (.iload_n 3, 1) := by decide +kernel
theorem dX9_lagged_16 : decode cX9_lagged 16 = .ok (.invokevirtual 155, 3) := by decide +kernel
theorem dX9_lagged_19 : decode cX9_lagged 19 = .ok (.ifCond .ne 5, 3) := by decide +kernel
theorem dX9_lagged_22 : decode cX9_lagged 22 = .ok (.iconst 0, 1) := by decide +kernel
theorem dX9_lagged_23 : decode cX9_lagged 23 = .ok (.ireturn, 1) := by decide +kernel
theorem dX9_lagged_24 : decode cX9_lagged 24 = .ok (.aload_n 0, 1) := by decide +kernel
theorem dX9_lagged_25 : decode cX9_lagged 25 = .ok (.getfield 41, 3) := by decide +kernel
theorem dX9_lagged_28 : decode cX9_lagged 28 = .ok (.iconst 2, 1) := by decide +kernel
theorem dX9_lagged_29 : decode cX9_lagged 29 = .ok (.iload 4, 2) := by decide +kernel
theorem dX9_lagged_31 : decode cX9_lagged 31 = .ok (.invokevirtual 185, 3) := by decide +kernel
theorem dX9_lagged_34 : decode cX9_lagged 34 = .ok (.iconst 1, 1) := by decide +kernel
theorem dX9_lagged_35 : decode cX9_lagged 35 = .ok (.ireturn, 1) := by decide +kernel
set_option maxRecDepth 20000 in
theorem dX9_trialCost_0 : decode cX9_trialCost 0 = .ok (.aload_n 0, 1) := by decide +kernel
theorem dX9_trialCost_1 : decode cX9_trialCost 1 = .ok (.getfield 34, 3) := by decide +kernel
theorem dX9_trialCost_4 : decode cX9_trialCost 4 = .ok (.aload_n 0, 1) := by decide +kernel
theorem dX9_trialCost_5 : decode cX9_trialCost 5 = .ok (.getfield 41, 3) := by decide +kernel
theorem dX9_trialCost_8 : decode cX9_trialCost 8 = .ok (.aload_n 0, 1) := by decide +kernel
theorem dX9_trialCost_9 : decode cX9_trialCost 9 = .ok (.getfield 48, 3) := by decide +kernel
theorem dX9_trialCost_12 : decode cX9_trialCost 12 = .ok (.iconst 0, 1) := by decide +kernel
theorem dX9_trialCost_13 : decode cX9_trialCost 13 = .ok (.iload_n 1, 1) := by decide +kernel
theorem dX9_trialCost_14 : decode cX9_trialCost 14 = .ok (.invokevirtual 189, 3) := by decide +kernel
theorem dX9_trialCost_17 : decode cX9_trialCost 17 = .ok (.aload_n 0, 1) := by decide +kernel
theorem dX9_trialCost_18 : decode cX9_trialCost 18 = .ok (.getfield 34, 3) := by decide +kernel
theorem dX9_trialCost_21 : decode cX9_trialCost 21 = .ok (.invokevirtual 259, 3) := by decide +kernel
theorem dX9_trialCost_24 : decode cX9_trialCost 24 = .ok (.lreturn, 1) := by decide +kernel
set_option maxRecDepth 20000 in
theorem dX9_trialWidest_0 : decode cX9_trialWidest 0 = .ok (.aload_n 0, 1) := by decide +kernel
theorem dX9_trialWidest_1 : decode cX9_trialWidest 1 = .ok (.getfield 34, 3) := by decide +kernel
theorem dX9_trialWidest_4 : decode cX9_trialWidest 4 = .ok (.aload_n 0, 1) := by decide +kernel
theorem dX9_trialWidest_5 : decode cX9_trialWidest 5 = .ok (.getfield 41, 3) := by decide +kernel
theorem dX9_trialWidest_8 : decode cX9_trialWidest 8 = .ok (.aload_n 0, 1) := by decide +kernel
theorem dX9_trialWidest_9 : decode cX9_trialWidest 9 = .ok (.getfield 48, 3) := by decide +kernel
theorem dX9_trialWidest_12 : decode cX9_trialWidest 12 = .ok (.iconst 0, 1) := by decide +kernel
theorem dX9_trialWidest_13 : decode cX9_trialWidest 13 = .ok (.iload_n 1, 1) := by decide +kernel
theorem dX9_trialWidest_14 : decode cX9_trialWidest 14 = .ok (.invokevirtual 189, 3) := by decide +kernel
theorem dX9_trialWidest_17 : decode cX9_trialWidest 17 = .ok (.aload_n 0, 1) := by decide +kernel
theorem dX9_trialWidest_18 : decode cX9_trialWidest 18 = .ok (.getfield 34, 3) := by decide +kernel
theorem dX9_trialWidest_21 : decode cX9_trialWidest 21 = .ok (.invokevirtual 193, 3) := by decide +kernel
theorem dX9_trialWidest_24 : decode cX9_trialWidest 24 = .ok (.lreturn, 1) := by decide +kernel
set_option maxRecDepth 20000 in
theorem dX9_trialApart_0 : decode cX9_trialApart 0 = .ok (.aload_n 0, 1) := by decide +kernel
theorem dX9_trialApart_1 : decode cX9_trialApart 1 = .ok (.getfield 34, 3) := by decide +kernel
theorem dX9_trialApart_4 : decode cX9_trialApart 4 = .ok (.aload_n 0, 1) := by decide +kernel
theorem dX9_trialApart_5 : decode cX9_trialApart 5 = .ok (.getfield 41, 3) := by decide +kernel
theorem dX9_trialApart_8 : decode cX9_trialApart 8 = .ok (.aload_n 0, 1) := by decide +kernel
theorem dX9_trialApart_9 : decode cX9_trialApart 9 = .ok (.getfield 48, 3) := by decide +kernel
theorem dX9_trialApart_12 : decode cX9_trialApart 12 = .ok (.iconst 0, 1) := by decide +kernel
theorem dX9_trialApart_13 : decode cX9_trialApart 13 = .ok (.aload_n 1, 1) := by decide +kernel
theorem dX9_trialApart_14 : decode cX9_trialApart 14 = .ok (.ifnonnull 7, 3) := by decide +kernel
theorem dX9_trialApart_17 : decode cX9_trialApart 17 = .ok (.iconst 0, 1) := by decide +kernel
theorem dX9_trialApart_18 : decode cX9_trialApart 18 = .ok (.goto 7, 3) := by decide +kernel
theorem dX9_trialApart_21 : decode cX9_trialApart 21 = .ok (.aload_n 1, 1) := by decide +kernel
theorem dX9_trialApart_22 : decode cX9_trialApart 22 = .ok (.getfield 104, 3) := by decide +kernel
theorem dX9_trialApart_25 : decode cX9_trialApart 25 = .ok (.invokevirtual 189, 3) := by decide +kernel
theorem dX9_trialApart_28 : decode cX9_trialApart 28 = .ok (.aload_n 0, 1) := by decide +kernel
theorem dX9_trialApart_29 : decode cX9_trialApart 29 = .ok (.getfield 34, 3) := by decide +kernel
theorem dX9_trialApart_32 : decode cX9_trialApart 32 = .ok (.aload_n 1, 1) := by decide +kernel
theorem dX9_trialApart_33 : decode cX9_trialApart 33 = .ok (.invokevirtual 300, 3) := by decide +kernel
theorem dX9_trialApart_36 : decode cX9_trialApart 36 = .ok (.ireturn, 1) := by decide +kernel
set_option maxRecDepth 20000 in
theorem dX9_costWith_0 : decode cX9_costWith 0 = .ok (.aload_n 0, 1) := by decide +kernel
theorem dX9_costWith_1 : decode cX9_costWith 1 = .ok (.getfield 48, 3) := by decide +kernel
theorem dX9_costWith_4 : decode cX9_costWith 4 = .ok (.iload_n 1, 1) := by decide +kernel
theorem dX9_costWith_5 : decode cX9_costWith 5 = .ok (.iload_n 2, 1) := by decide +kernel
theorem dX9_costWith_6 : decode cX9_costWith 6 = .ok (.invokevirtual 329, 3) := by decide +kernel
theorem dX9_costWith_9 : decode cX9_costWith 9 = .ok (.aload_n 0, 1) := by decide +kernel
theorem dX9_costWith_10 : decode cX9_costWith 10 = .ok (.getfield 34, 3) := by decide +kernel
theorem dX9_costWith_13 : decode cX9_costWith 13 = .ok (.aload_n 0, 1) := by decide +kernel
theorem dX9_costWith_14 : decode cX9_costWith 14 = .ok (.getfield 41, 3) := by decide +kernel
theorem dX9_costWith_17 : decode cX9_costWith 17 = .ok (.aload_n 0, 1) := by decide +kernel
theorem dX9_costWith_18 : decode cX9_costWith 18 = .ok (.getfield 48, 3) := by decide +kernel
theorem dX9_costWith_21 : decode cX9_costWith 21 = .ok (.iconst 0, 1) := by decide +kernel
theorem dX9_costWith_22 : decode cX9_costWith 22 = .ok (.iload_n 3, 1) := by decide +kernel
theorem dX9_costWith_23 : decode cX9_costWith 23 = .ok (.invokevirtual 189, 3) := by decide +kernel
theorem dX9_costWith_26 : decode cX9_costWith 26 = .ok (.aload_n 0, 1) := by decide +kernel
theorem dX9_costWith_27 : decode cX9_costWith 27 = .ok (.getfield 34, 3) := by decide +kernel
theorem dX9_costWith_30 : decode cX9_costWith 30 = .ok (.invokevirtual 259, 3) := by decide +kernel
theorem dX9_costWith_33 : decode cX9_costWith 33 = .ok (.lreturn, 1) := by decide +kernel
set_option maxRecDepth 20000 in
theorem dX9_growsWith_0 : decode cX9_growsWith 0 = .ok (.aload_n 0, 1) := by decide +kernel
theorem dX9_growsWith_1 : decode cX9_growsWith 1 = .ok (.getfield 48, 3) := by decide +kernel
theorem dX9_growsWith_4 : decode cX9_growsWith 4 = .ok (.iload_n 1, 1) := by decide +kernel
theorem dX9_growsWith_5 : decode cX9_growsWith 5 = .ok (.iload_n 2, 1) := by decide +kernel
theorem dX9_growsWith_6 : decode cX9_growsWith 6 = .ok (.invokevirtual 329, 3) := by decide +kernel
theorem dX9_growsWith_9 : decode cX9_growsWith 9 = .ok (.aload_n 0, 1) := by decide +kernel
theorem dX9_growsWith_10 : decode cX9_growsWith 10 = .ok (.getfield 34, 3) := by decide +kernel
theorem dX9_growsWith_13 : decode cX9_growsWith 13 = .ok (.aload_n 0, 1) := by decide +kernel
theorem dX9_growsWith_14 : decode cX9_growsWith 14 = .ok (.getfield 41, 3) := by decide +kernel
theorem dX9_growsWith_17 : decode cX9_growsWith 17 = .ok (.aload_n 0, 1) := by decide +kernel
theorem dX9_growsWith_18 : decode cX9_growsWith 18 = .ok (.getfield 48, 3) := by decide +kernel
theorem dX9_growsWith_21 : decode cX9_growsWith 21 = .ok (.iconst 0, 1) := by decide +kernel
theorem dX9_growsWith_22 : decode cX9_growsWith 22 = .ok (.iload_n 3, 1) := by decide +kernel
theorem dX9_growsWith_23 : decode cX9_growsWith 23 = .ok (.invokevirtual 189, 3) := by decide +kernel
theorem dX9_growsWith_26 : decode cX9_growsWith 26 = .ok (.aload_n 0, 1) := by decide +kernel
theorem dX9_growsWith_27 : decode cX9_growsWith 27 = .ok (.getfield 34, 3) := by decide +kernel
theorem dX9_growsWith_30 : decode cX9_growsWith 30 = .ok (.invokevirtual 330, 3) := by decide +kernel
theorem dX9_growsWith_33 : decode cX9_growsWith 33 = .ok (.ireturn, 1) := by decide +kernel
set_option maxRecDepth 20000 in
theorem dX9_leastRule_0 : decode cX9_leastRule 0 = .ok (.iload_n 3, 1) := by decide +kernel
theorem dX9_leastRule_1 : decode cX9_leastRule 1 = .ok (.ifCond .lt 32, 3) := by decide +kernel
theorem dX9_leastRule_4 : decode cX9_leastRule 4 = .ok (.iload_n 3, 1) := by decide +kernel
theorem dX9_leastRule_5 : decode cX9_leastRule 5 = .ok (.bipush 20, 2) := by decide +kernel
theorem dX9_leastRule_7 : decode cX9_leastRule 7 = .ok (.if_icmp .gt 26, 3) := by decide +kernel
theorem dX9_leastRule_10 : decode cX9_leastRule 10 = .ok (.iload 4, 2) := by decide +kernel
theorem dX9_leastRule_12 : decode cX9_leastRule 12 = .ok (.ifCond .lt 21, 3) := by decide +kernel
theorem dX9_leastRule_15 : decode cX9_leastRule 15 = .ok (.iload 4, 2) := by decide +kernel
theorem dX9_leastRule_17 : decode cX9_leastRule 17 = .ok (.bipush 20, 2) := by decide +kernel
theorem dX9_leastRule_19 : decode cX9_leastRule 19 = .ok (.if_icmp .gt 14, 3) := by decide +kernel
theorem dX9_leastRule_22 : decode cX9_leastRule 22 = .ok (.iload 5, 2) := by decide +kernel
theorem dX9_leastRule_24 : decode cX9_leastRule 24 = .ok (.ifCond .lt 9, 3) := by decide +kernel
theorem dX9_leastRule_27 : decode cX9_leastRule 27 = .ok (.iload 5, 2) := by decide +kernel
theorem dX9_leastRule_29 : decode cX9_leastRule 29 = .ok (.iconst 2, 1) := by decide +kernel
theorem dX9_leastRule_30 : decode cX9_leastRule 30 = .ok (.if_icmp .le 7, 3) := by decide +kernel
theorem dX9_leastRule_33 : decode cX9_leastRule 33 = .ok (.ldc2_w 159, 3) := by decide +kernel
theorem dX9_leastRule_36 : decode cX9_leastRule 36 = .ok (.lreturn, 1) := by decide +kernel
theorem dX9_leastRule_37 : decode cX9_leastRule 37 = .ok (.iconst 0, 1) := by decide +kernel
theorem dX9_leastRule_38 : decode cX9_leastRule 38 = .ok (.istore 6, 2) := by decide +kernel
theorem dX9_leastRule_40 : decode cX9_leastRule 40 = .ok (.iconst 0, 1) := by decide +kernel
theorem dX9_leastRule_41 : decode cX9_leastRule 41 = .ok (.istore 7, 2) := by decide +kernel
theorem dX9_leastRule_43 : decode cX9_leastRule 43 = .ok (.ldc2_w 165, 3) := by decide +kernel
theorem dX9_leastRule_46 : decode cX9_leastRule 46 = .ok (.lstore 8, 2) := by decide +kernel
theorem dX9_leastRule_48 : decode cX9_leastRule 48 = .ok (.iconst 0, 1) := by decide +kernel
theorem dX9_leastRule_49 : decode cX9_leastRule 49 = .ok (.istore 10, 2) := by decide +kernel
theorem dX9_leastRule_51 : decode cX9_leastRule 51 = .ok (.iload 10, 2) := by decide +kernel
theorem dX9_leastRule_53 : decode cX9_leastRule 53 = .ok (.iload_n 3, 1) := by decide +kernel
theorem dX9_leastRule_54 : decode cX9_leastRule 54 = .ok (.if_icmp .gt 85, 3) := by decide +kernel
theorem dX9_leastRule_57 : decode cX9_leastRule 57 = .ok (.iconst 0, 1) := by decide +kernel
theorem dX9_leastRule_58 : decode cX9_leastRule 58 = .ok (.istore 11, 2) := by decide +kernel
theorem dX9_leastRule_60 : decode cX9_leastRule 60 = .ok (.iload 11, 2) := by decide +kernel
theorem dX9_leastRule_62 : decode cX9_leastRule 62 = .ok (.iload 4, 2) := by decide +kernel
theorem dX9_leastRule_64 : decode cX9_leastRule 64 = .ok (.if_icmp .gt 69, 3) := by decide +kernel
theorem dX9_leastRule_67 : decode cX9_leastRule 67 = .ok (.aload_n 0, 1) := by decide +kernel
theorem dX9_leastRule_68 : decode cX9_leastRule 68 = .ok (.getfield 48, 3) := by decide +kernel
theorem dX9_leastRule_71 : decode cX9_leastRule 71 = .ok (.iconst 0, 1) := by decide +kernel
theorem dX9_leastRule_72 : decode cX9_leastRule 72 = .ok (.iload 10, 2) := by decide +kernel
theorem dX9_leastRule_74 : decode cX9_leastRule 74 = .ok (.invokevirtual 329, 3) := by decide +kernel
theorem dX9_leastRule_77 : decode cX9_leastRule 77 = .ok (.aload_n 0, 1) := by decide +kernel
theorem dX9_leastRule_78 : decode cX9_leastRule 78 = .ok (.getfield 48, 3) := by decide +kernel
theorem dX9_leastRule_81 : decode cX9_leastRule 81 = .ok (.iconst 1, 1) := by decide +kernel
theorem dX9_leastRule_82 : decode cX9_leastRule 82 = .ok (.iload 11, 2) := by decide +kernel
theorem dX9_leastRule_84 : decode cX9_leastRule 84 = .ok (.invokevirtual 329, 3) := by decide +kernel
theorem dX9_leastRule_87 : decode cX9_leastRule 87 = .ok (.aload_n 1, 1) := by decide +kernel
theorem dX9_leastRule_88 : decode cX9_leastRule 88 = .ok (.ifnonnull 11, 3) := by decide +kernel
theorem dX9_leastRule_91 : decode cX9_leastRule 91 = .ok (.aload_n 0, 1) := by decide +kernel
theorem dX9_leastRule_92 : decode cX9_leastRule 92 = .ok (.iload_n 2, 1) := by decide +kernel
theorem dX9_leastRule_93 : decode cX9_leastRule 93 = .ok (.invokevirtual 216, 3) := by decide +kernel
theorem dX9_leastRule_96 : decode cX9_leastRule 96 = .ok (.goto 9, 3) := by decide +kernel
theorem dX9_leastRule_99 : decode cX9_leastRule 99 = .ok (.aload_n 0, 1) := by decide +kernel
theorem dX9_leastRule_100 : decode cX9_leastRule 100 = .ok (.aload_n 1, 1) := by decide +kernel
theorem dX9_leastRule_101 : decode cX9_leastRule 101 = .ok (.invokevirtual 304, 3) := by decide +kernel
theorem dX9_leastRule_104 : decode cX9_leastRule 104 = .ok (.i2l, 1) := by decide +kernel
theorem dX9_leastRule_105 : decode cX9_leastRule 105 = .ok (.lstore 12, 2) := by decide +kernel
theorem dX9_leastRule_107 : decode cX9_leastRule 107 = .ok (.lload 12, 2) := by decide +kernel
theorem dX9_leastRule_109 : decode cX9_leastRule 109 = .ok (.lload 8, 2) := by decide +kernel
theorem dX9_leastRule_111 : decode cX9_leastRule 111 = .ok (.lcmp, 1) := by decide +kernel
theorem dX9_leastRule_112 : decode cX9_leastRule 112 = .ok (.ifCond .ge 15, 3) := by decide +kernel
theorem dX9_leastRule_115 : decode cX9_leastRule 115 = .ok (.lload 12, 2) := by decide +kernel
theorem dX9_leastRule_117 : decode cX9_leastRule 117 = .ok (.lstore 8, 2) := by decide +kernel
theorem dX9_leastRule_119 : decode cX9_leastRule 119 = .ok (.iload 10, 2) := by decide +kernel
theorem dX9_leastRule_121 : decode cX9_leastRule 121 = .ok (.istore 6, 2) := by decide +kernel
theorem dX9_leastRule_123 : decode cX9_leastRule 123 = .ok (.iload 11, 2) := by decide +kernel
theorem dX9_leastRule_125 : decode cX9_leastRule 125 = .ok (.istore 7, 2) := by decide +kernel
theorem dX9_leastRule_127 : decode cX9_leastRule 127 = .ok (.iinc 11 1, 3) := by decide +kernel
theorem dX9_leastRule_130 : decode cX9_leastRule 130 = .ok (.goto (-70), 3) := by decide +kernel
theorem dX9_leastRule_133 : decode cX9_leastRule 133 = .ok (.iinc 10 1, 3) := by decide +kernel
theorem dX9_leastRule_136 : decode cX9_leastRule 136 = .ok (.goto (-85), 3) := by decide +kernel
theorem dX9_leastRule_139 : decode cX9_leastRule 139 = .ok (.iload 5, 2) := by decide +kernel
theorem dX9_leastRule_141 : decode cX9_leastRule 141 = .ok (.ifCond .ne 9, 3) := by decide +kernel
theorem dX9_leastRule_144 : decode cX9_leastRule 144 = .ok (.iload 6, 2) := by decide +kernel
theorem dX9_leastRule_146 : decode cX9_leastRule 146 = .ok (.i2l, 1) := by decide +kernel
theorem dX9_leastRule_147 : decode cX9_leastRule 147 = .ok (.goto 17, 3) := by decide +kernel
theorem dX9_leastRule_150 : decode cX9_leastRule 150 = .ok (.iload 5, 2) := by decide +kernel
theorem dX9_leastRule_152 : decode cX9_leastRule 152 = .ok (.iconst 1, 1) := by decide +kernel
theorem dX9_leastRule_153 : decode cX9_leastRule 153 = .ok (.if_icmp .ne 9, 3) := by decide +kernel
theorem dX9_leastRule_156 : decode cX9_leastRule 156 = .ok (.iload 7, 2) := by decide +kernel
theorem dX9_leastRule_158 : decode cX9_leastRule 158 = .ok (.i2l, 1) := by decide +kernel
theorem dX9_leastRule_159 : decode cX9_leastRule 159 = .ok (.goto 5, 3) := by decide +kernel
theorem dX9_leastRule_162 : decode cX9_leastRule 162 = .ok (.lload 8, 2) := by decide +kernel
theorem dX9_leastRule_164 : decode cX9_leastRule 164 = .ok (.lreturn, 1) := by decide +kernel
set_option maxRecDepth 20000 in
theorem dX9_leastOfThree_0 : decode cX9_leastOfThree 0 = .ok (.iload_n 1, 1) := by decide +kernel
theorem dX9_leastOfThree_1 : decode cX9_leastOfThree 1 = .ok (.istore 4, 2) := by decide +kernel
theorem dX9_leastOfThree_3 : decode cX9_leastOfThree 3 = .ok (.ldc2_w 165, 3) := by decide +kernel
theorem dX9_leastOfThree_6 : decode cX9_leastOfThree 6 = .ok (.lstore 5, 2) := by decide +kernel
theorem dX9_leastOfThree_8 : decode cX9_leastOfThree 8 = .ok (.iconst (-1), 1) := by decide +kernel
theorem dX9_leastOfThree_9 : decode cX9_leastOfThree 9 = .ok (.istore 7, 2) := by decide +kernel
theorem dX9_leastOfThree_11 : decode cX9_leastOfThree 11 = .ok (.iload 7, 2) := by decide +kernel
theorem dX9_leastOfThree_13 : decode cX9_leastOfThree 13 = .ok (.iconst 1, 1) := by decide +kernel
theorem dX9_leastOfThree_14 : decode cX9_leastOfThree 14 = .ok (.if_icmp .gt 43, 3) := by decide +kernel
theorem dX9_leastOfThree_17 : decode cX9_leastOfThree 17 = .ok (.aload_n 0, 1) := by decide +kernel
theorem dX9_leastOfThree_18 : decode cX9_leastOfThree 18 = .ok (.iconst 0, 1) := by decide +kernel
theorem dX9_leastOfThree_19 : decode cX9_leastOfThree 19 = .ok (.iload_n 1, 1) := by decide +kernel
theorem dX9_leastOfThree_20 : decode cX9_leastOfThree 20 = .ok (.iload 7, 2) := by decide +kernel
theorem dX9_leastOfThree_22 : decode cX9_leastOfThree 22 = .ok (.iload_n 2, 1) := by decide +kernel
theorem dX9_leastOfThree_23 : decode cX9_leastOfThree 23 = .ok (.imul, 1) := by decide +kernel
theorem dX9_leastOfThree_24 : decode cX9_leastOfThree 24 = .ok (.iadd, 1) := by decide +kernel
theorem dX9_leastOfThree_25 : decode cX9_leastOfThree 25 = .ok (.iload_n 3, 1) := by decide +kernel
theorem dX9_leastOfThree_26 : decode cX9_leastOfThree 26 = .ok (.invokevirtual 167, 3) := by decide +kernel
theorem dX9_leastOfThree_29 : decode cX9_leastOfThree 29 = .ok (.lstore 8, 2) := by decide +kernel
theorem dX9_leastOfThree_31 : decode cX9_leastOfThree 31 = .ok (.lload 8, 2) := by decide +kernel
theorem dX9_leastOfThree_33 : decode cX9_leastOfThree 33 = .ok (.lload 5, 2) := by decide +kernel
theorem dX9_leastOfThree_35 : decode cX9_leastOfThree 35 = .ok (.lcmp, 1) := by decide +kernel
theorem dX9_leastOfThree_36 : decode cX9_leastOfThree 36 = .ok (.ifCond .ge 15, 3) := by decide +kernel
theorem dX9_leastOfThree_39 : decode cX9_leastOfThree 39 = .ok (.lload 8, 2) := by decide +kernel
theorem dX9_leastOfThree_41 : decode cX9_leastOfThree 41 = .ok (.lstore 5, 2) := by decide +kernel
theorem dX9_leastOfThree_43 : decode cX9_leastOfThree 43 = .ok (.iload_n 1, 1) := by decide +kernel
theorem dX9_leastOfThree_44 : decode cX9_leastOfThree 44 = .ok (.iload 7, 2) := by decide +kernel
theorem dX9_leastOfThree_46 : decode cX9_leastOfThree 46 = .ok (.iload_n 2, 1) := by decide +kernel
theorem dX9_leastOfThree_47 : decode cX9_leastOfThree 47 = .ok (.imul, 1) := by decide +kernel
theorem dX9_leastOfThree_48 : decode cX9_leastOfThree 48 = .ok (.iadd, 1) := by decide +kernel
theorem dX9_leastOfThree_49 : decode cX9_leastOfThree 49 = .ok (.istore 4, 2) := by decide +kernel
theorem dX9_leastOfThree_51 : decode cX9_leastOfThree 51 = .ok (.iinc 7 1, 3) := by decide +kernel
theorem dX9_leastOfThree_54 : decode cX9_leastOfThree 54 = .ok (.goto (-43), 3) := by decide +kernel
theorem dX9_leastOfThree_57 : decode cX9_leastOfThree 57 = .ok (.iload 4, 2) := by decide +kernel
theorem dX9_leastOfThree_59 : decode cX9_leastOfThree 59 = .ok (.ireturn, 1) := by decide +kernel
set_option maxRecDepth 20000 in
theorem dX9_learnt_0 : decode cX9_learnt 0 = .ok (.iload_n 1, 1) := by decide +kernel
theorem dX9_learnt_1 : decode cX9_learnt 1 = .ok (.istore_n 3, 1) := by decide +kernel
theorem dX9_learnt_2 : decode cX9_learnt 2 = .ok (.aload_n 0, 1) := by decide +kernel
theorem dX9_learnt_3 : decode cX9_learnt 3 = .ok (.iconst 0, 1) := by decide +kernel
theorem dX9_learnt_4 : decode cX9_learnt 4 = .ok (.iload_n 1, 1) := by decide +kernel
theorem dX9_learnt_5 : decode cX9_learnt 5 = .ok (.iload_n 2, 1) := by decide +kernel
theorem dX9_learnt_6 : decode cX9_learnt 6 = .ok (.invokevirtual 167, 3) := by decide +kernel
theorem dX9_learnt_9 : decode cX9_learnt 9 = .ok (.lstore 4, 2) := by decide +kernel
theorem dX9_learnt_11 : decode cX9_learnt 11 = .ok (.iload_n 1, 1) := by decide +kernel
theorem dX9_learnt_12 : decode cX9_learnt 12 = .ok (.ifCond .le 30, 3) := by decide +kernel
theorem dX9_learnt_15 : decode cX9_learnt 15 = .ok (.aload_n 0, 1) := by decide +kernel
theorem dX9_learnt_16 : decode cX9_learnt 16 = .ok (.iconst 0, 1) := by decide +kernel
theorem dX9_learnt_17 : decode cX9_learnt 17 = .ok (.iload_n 1, 1) := by decide +kernel
theorem dX9_learnt_18 : decode cX9_learnt 18 = .ok (.iconst 1, 1) := by decide +kernel
theorem dX9_learnt_19 : decode cX9_learnt 19 = .ok (.isub, 1) := by decide +kernel
theorem dX9_learnt_20 : decode cX9_learnt 20 = .ok (.iload_n 2, 1) := by decide +kernel
theorem dX9_learnt_21 : decode cX9_learnt 21 = .ok (.invokevirtual 167, 3) := by decide +kernel
theorem dX9_learnt_24 : decode cX9_learnt 24 = .ok (.lstore 6, 2) := by decide +kernel
theorem dX9_learnt_26 : decode cX9_learnt 26 = .ok (.lload 6, 2) := by decide +kernel
theorem dX9_learnt_28 : decode cX9_learnt 28 = .ok (.lload 4, 2) := by decide +kernel
theorem dX9_learnt_30 : decode cX9_learnt 30 = .ok (.lcmp, 1) := by decide +kernel
theorem dX9_learnt_31 : decode cX9_learnt 31 = .ok (.ifCond .ge 11, 3) := by decide +kernel
theorem dX9_learnt_34 : decode cX9_learnt 34 = .ok (.lload 6, 2) := by decide +kernel
theorem dX9_learnt_36 : decode cX9_learnt 36 = .ok (.lstore 4, 2) := by decide +kernel
theorem dX9_learnt_38 : decode cX9_learnt 38 = .ok (.iload_n 1, 1) := by decide +kernel
theorem dX9_learnt_39 : decode cX9_learnt 39 = .ok (.iconst 1, 1) := by decide +kernel
theorem dX9_learnt_40 : decode cX9_learnt 40 = .ok (.isub, 1) := by decide +kernel
theorem dX9_learnt_41 : decode cX9_learnt 41 = .ok (.istore_n 3, 1) := by decide +kernel
theorem dX9_learnt_42 : decode cX9_learnt 42 = .ok (.iload_n 1, 1) := by decide +kernel
theorem dX9_learnt_43 : decode cX9_learnt 43 = .ok (.bipush 99, 2) := by decide +kernel
theorem dX9_learnt_45 : decode cX9_learnt 45 = .ok (.if_icmp .ge 22, 3) := by decide +kernel
theorem dX9_learnt_48 : decode cX9_learnt 48 = .ok (.aload_n 0, 1) := by decide +kernel
theorem dX9_learnt_49 : decode cX9_learnt 49 = .ok (.iconst 0, 1) := by decide +kernel
theorem dX9_learnt_50 : decode cX9_learnt 50 = .ok (.iload_n 1, 1) := by decide +kernel
theorem dX9_learnt_51 : decode cX9_learnt 51 = .ok (.iconst 1, 1) := by decide +kernel
theorem dX9_learnt_52 : decode cX9_learnt 52 = .ok (.iadd, 1) := by decide +kernel
theorem dX9_learnt_53 : decode cX9_learnt 53 = .ok (.iload_n 2, 1) := by decide +kernel
theorem dX9_learnt_54 : decode cX9_learnt 54 = .ok (.invokevirtual 167, 3) := by decide +kernel
theorem dX9_learnt_57 : decode cX9_learnt 57 = .ok (.lload 4, 2) := by decide +kernel
theorem dX9_learnt_59 : decode cX9_learnt 59 = .ok (.lcmp, 1) := by decide +kernel
theorem dX9_learnt_60 : decode cX9_learnt 60 = .ok (.ifCond .ge 7, 3) := by decide +kernel
theorem dX9_learnt_63 : decode cX9_learnt 63 = .ok (.iload_n 1, 1) := by decide +kernel
theorem dX9_learnt_64 : decode cX9_learnt 64 = .ok (.iconst 1, 1) := by decide +kernel
theorem dX9_learnt_65 : decode cX9_learnt 65 = .ok (.iadd, 1) := by decide +kernel
theorem dX9_learnt_66 : decode cX9_learnt 66 = .ok (.istore_n 3, 1) := by decide +kernel
theorem dX9_learnt_67 : decode cX9_learnt 67 = .ok (.iload_n 3, 1) := by decide +kernel
theorem dX9_learnt_68 : decode cX9_learnt 68 = .ok (.ireturn, 1) := by decide +kernel
set_option maxRecDepth 20000 in
theorem dX9_deadest_0 : decode cX9_deadest 0 = .ok (.bipush 99, 2) := by decide +kernel
theorem dX9_deadest_2 : decode cX9_deadest 2 = .ok (.istore_n 3, 1) := by decide +kernel
theorem dX9_deadest_3 : decode cX9_deadest 3 = .ok (.iload_n 3, 1) := by decide +kernel
theorem dX9_deadest_4 : decode cX9_deadest 4 = .ok (.ifCond .lt 31, 3) := by decide +kernel
theorem dX9_deadest_7 : decode cX9_deadest 7 = .ok (.aload_n 0, 1) := by decide +kernel
theorem dX9_deadest_8 : decode cX9_deadest 8 = .ok (.getfield 48, 3) := by decide +kernel
theorem dX9_deadest_11 : decode cX9_deadest 11 = .ok (.iconst 3, 1) := by decide +kernel
theorem dX9_deadest_12 : decode cX9_deadest 12 = .ok (.iload_n 3, 1) := by decide +kernel
theorem dX9_deadest_13 : decode cX9_deadest 13 = .ok (.invokevirtual 329, 3) := by decide +kernel
theorem dX9_deadest_16 : decode cX9_deadest 16 = .ok (.aload_n 0, 1) := by decide +kernel
theorem dX9_deadest_17 : decode cX9_deadest 17 = .ok (.iload_n 1, 1) := by decide +kernel
theorem dX9_deadest_18 : decode cX9_deadest 18 = .ok (.invokevirtual 201, 3) := by decide +kernel
theorem dX9_deadest_21 : decode cX9_deadest 21 = .ok (.iload_n 2, 1) := by decide +kernel
theorem dX9_deadest_22 : decode cX9_deadest 22 = .ok (.i2l, 1) := by decide +kernel
theorem dX9_deadest_23 : decode cX9_deadest 23 = .ok (.lcmp, 1) := by decide +kernel
theorem dX9_deadest_24 : decode cX9_deadest 24 = .ok (.ifCond .gt 5, 3) := by decide +kernel
theorem dX9_deadest_27 : decode cX9_deadest 27 = .ok (.iload_n 3, 1) := by decide +kernel
theorem dX9_deadest_28 : decode cX9_deadest 28 = .ok (.ireturn, 1) := by decide +kernel
theorem dX9_deadest_29 : decode cX9_deadest 29 = .ok (.iinc 3 (-1), 3) := by decide +kernel
theorem dX9_deadest_32 : decode cX9_deadest 32 = .ok (.goto (-29), 3) := by decide +kernel
theorem dX9_deadest_35 : decode cX9_deadest 35 = .ok (.iconst (-1), 1) := by decide +kernel
theorem dX9_deadest_36 : decode cX9_deadest 36 = .ok (.ireturn, 1) := by decide +kernel
set_option maxRecDepth 20000 in
theorem dX9_leastGear_0 : decode cX9_leastGear 0 = .ok (.iconst 1, 1) := by decide +kernel
theorem dX9_leastGear_1 : decode cX9_leastGear 1 = .ok (.istore 4, 2) := by decide +kernel
theorem dX9_leastGear_3 : decode cX9_leastGear 3 = .ok (.iload 4, 2) := by decide +kernel
theorem dX9_leastGear_5 : decode cX9_leastGear 5 = .ok (.bipush 35, 2) := by decide +kernel
theorem dX9_leastGear_7 : decode cX9_leastGear 7 = .ok (.if_icmp .gt 33, 3) := by decide +kernel
theorem dX9_leastGear_10 : decode cX9_leastGear 10 = .ok (.aload_n 0, 1) := by decide +kernel
theorem dX9_leastGear_11 : decode cX9_leastGear 11 = .ok (.getfield 41, 3) := by decide +kernel
theorem dX9_leastGear_14 : decode cX9_leastGear 14 = .ok (.iload_n 1, 1) := by decide +kernel
theorem dX9_leastGear_15 : decode cX9_leastGear 15 = .ok (.iload 4, 2) := by decide +kernel
theorem dX9_leastGear_17 : decode cX9_leastGear 17 = .ok (.invokevirtual 185, 3) := by decide +kernel
theorem dX9_leastGear_20 : decode cX9_leastGear 20 = .ok (.aload_n 0, 1) := by decide +kernel
theorem dX9_leastGear_21 : decode cX9_leastGear 21 = .ok (.iload_n 2, 1) := by decide +kernel
theorem dX9_leastGear_22 : decode cX9_leastGear 22 = .ok (.invokevirtual 201, 3) := by decide +kernel
theorem dX9_leastGear_25 : decode cX9_leastGear 25 = .ok (.iload_n 3, 1) := by decide +kernel
theorem dX9_leastGear_26 : decode cX9_leastGear 26 = .ok (.i2l, 1) := by decide +kernel
theorem dX9_leastGear_27 : decode cX9_leastGear 27 = .ok (.lcmp, 1) := by decide +kernel
theorem dX9_leastGear_28 : decode cX9_leastGear 28 = .ok (.ifCond .gt 6, 3) := by decide +kernel
theorem dX9_leastGear_31 : decode cX9_leastGear 31 = .ok (.iload 4, 2) := by decide +kernel
theorem dX9_leastGear_33 : decode cX9_leastGear 33 = .ok (.ireturn, 1) := by decide +kernel
theorem dX9_leastGear_34 : decode cX9_leastGear 34 = .ok (.iinc 4 1, 3) := by decide +kernel
theorem dX9_leastGear_37 : decode cX9_leastGear 37 = .ok (.goto (-34), 3) := by decide +kernel
theorem dX9_leastGear_40 : decode cX9_leastGear 40 = .ok (.iconst (-1), 1) := by decide +kernel
theorem dX9_leastGear_41 : decode cX9_leastGear 41 = .ok (.ireturn, 1) := by decide +kernel
set_option maxRecDepth 20000 in
theorem dX9_isManned_0 : decode cX9_isManned 0 = .ok (.aload_n 1, 1) := by decide +kernel
theorem dX9_isManned_1 : decode cX9_isManned 1 = .ok (.ifnonnull 5, 3) := by decide +kernel
theorem dX9_isManned_4 : decode cX9_isManned 4 = .ok (.iconst 0, 1) := by decide +kernel
theorem dX9_isManned_5 : decode cX9_isManned 5 = .ok (.ireturn, 1) := by decide +kernel
theorem dX9_isManned_6 : decode cX9_isManned 6 = .ok (.iconst 0, 1) := by decide +kernel
theorem dX9_isManned_7 : decode cX9_isManned 7 = .ok (.istore_n 2, 1) := by decide +kernel
theorem dX9_isManned_8 : decode cX9_isManned 8 = .ok (.iload_n 2, 1) := by decide +kernel
theorem dX9_isManned_9 : decode cX9_isManned 9 = .ok (.aload_n 1, 1) := by decide +kernel
theorem dX9_isManned_10 : decode cX9_isManned 10 = .ok (.getfield 121, 3) := by decide +kernel
theorem dX9_isManned_13 : decode cX9_isManned 13 = .ok (.if_icmp .ge 29, 3) := by decide +kernel
theorem dX9_isManned_16 : decode cX9_isManned 16 = .ok (.aload_n 0, 1) := by decide +kernel
theorem dX9_isManned_17 : decode cX9_isManned 17 = .ok (.getfield 10, 3) := by decide +kernel
theorem dX9_isManned_20 : decode cX9_isManned 20 = .ok (.aload_n 1, 1) := by decide +kernel
theorem dX9_isManned_21 : decode cX9_isManned 21 = .ok (.getfield 126, 3) := by decide +kernel
theorem dX9_isManned_24 : decode cX9_isManned 24 = .ok (.iload_n 2, 1) := by decide +kernel
theorem dX9_isManned_25 : decode cX9_isManned 25 = .ok (.invokestatic 113, 3) := by decide +kernel
theorem dX9_isManned_28 : decode cX9_isManned 28 = .ok (.invokevirtual 95, 3) := by decide +kernel
theorem dX9_isManned_31 : decode cX9_isManned 31 = .ok (.ifnonnull 5, 3) := by decide +kernel
theorem dX9_isManned_34 : decode cX9_isManned 34 = .ok (.iconst 0, 1) := by decide +kernel
theorem dX9_isManned_35 : decode cX9_isManned 35 = .ok (.ireturn, 1) := by decide +kernel
theorem dX9_isManned_36 : decode cX9_isManned 36 = .ok (.iinc 2 1, 3) := by decide +kernel
theorem dX9_isManned_39 : decode cX9_isManned 39 = .ok (.goto (-31), 3) := by decide +kernel
theorem dX9_isManned_42 : decode cX9_isManned 42 = .ok (.iconst 1, 1) := by decide +kernel
theorem dX9_isManned_43 : decode cX9_isManned 43 = .ok (.ireturn, 1) := by decide +kernel
set_option maxRecDepth 20000 in
theorem dX9_sailChanged_0 : decode cX9_sailChanged 0 = .ok (.aload_n 0, 1) := by decide +kernel
theorem dX9_sailChanged_1 : decode cX9_sailChanged 1 = .ok (.getfield 34, 3) := by decide +kernel
theorem dX9_sailChanged_4 : decode cX9_sailChanged 4 = .ok (.aload_n 1, 1) := by decide +kernel
theorem dX9_sailChanged_5 : decode cX9_sailChanged 5 = .ok (.iconst 0, 1) := by decide +kernel
theorem dX9_sailChanged_6 : decode cX9_sailChanged 6 = .ok (.invokevirtual 252, 3) := by decide +kernel
theorem dX9_sailChanged_9 : decode cX9_sailChanged 9 = .ok (.aload_n 0, 1) := by decide +kernel
theorem dX9_sailChanged_10 : decode cX9_sailChanged 10 = .ok (.getfield 34, 3) := by decide +kernel
theorem dX9_sailChanged_13 : decode cX9_sailChanged 13 = .ok (.aload_n 2, 1) := by decide +kernel
theorem dX9_sailChanged_14 : decode cX9_sailChanged 14 = .ok (.iload 4, 2) := by decide +kernel
theorem dX9_sailChanged_16 : decode cX9_sailChanged 16 = .ok (.invokevirtual 255, 3) := by decide +kernel
theorem dX9_sailChanged_19 : decode cX9_sailChanged 19 = .ok (.aload_n 0, 1) := by decide +kernel
theorem dX9_sailChanged_20 : decode cX9_sailChanged 20 = .ok (.getfield 34, 3) := by decide +kernel
theorem dX9_sailChanged_23 : decode cX9_sailChanged 23 = .ok (.aload_n 3, 1) := by decide +kernel
theorem dX9_sailChanged_24 : decode cX9_sailChanged 24 = .ok (.iload 5, 2) := by decide +kernel
theorem dX9_sailChanged_26 : decode cX9_sailChanged 26 = .ok (.iload 4, 2) := by decide +kernel
theorem dX9_sailChanged_28 : decode cX9_sailChanged 28 = .ok (.isub, 1) := by decide +kernel
theorem dX9_sailChanged_29 : decode cX9_sailChanged 29 = .ok (.invokevirtual 255, 3) := by decide +kernel
theorem dX9_sailChanged_32 : decode cX9_sailChanged 32 = .ok (.return_, 1) := by decide +kernel
theorem dX9_handIn_0 : decode cX9_handIn 0 = .ok (.iload_n 0, 1) := by decide +kernel
theorem dX9_handIn_1 : decode cX9_handIn 1 = .ok (.iconst 2, 1) := by decide +kernel
theorem dX9_handIn_2 : decode cX9_handIn 2 = .ok (.iload_n 1, 1) := by decide +kernel
theorem dX9_handIn_3 : decode cX9_handIn 3 = .ok (.iconst 1, 1) := by decide +kernel
theorem dX9_handIn_4 : decode cX9_handIn 4 = .ok (.isub, 1) := by decide +kernel
theorem dX9_handIn_5 : decode cX9_handIn 5 = .ok (.iload_n 2, 1) := by decide +kernel
theorem dX9_handIn_6 : decode cX9_handIn 6 = .ok (.isub, 1) := by decide +kernel
theorem dX9_handIn_7 : decode cX9_handIn 7 = .ok (.imul, 1) := by decide +kernel
theorem dX9_handIn_8 : decode cX9_handIn 8 = .ok (.iushr, 1) := by decide +kernel
theorem dX9_handIn_9 : decode cX9_handIn 9 = .ok (.iconst 3, 1) := by decide +kernel
theorem dX9_handIn_10 : decode cX9_handIn 10 = .ok (.iand, 1) := by decide +kernel
theorem dX9_handIn_11 : decode cX9_handIn 11 = .ok (.ireturn, 1) := by decide +kernel
set_option maxRecDepth 20000 in
theorem dX9_handsOf_0 : decode cX9_handsOf 0 = .ok (.iconst 0, 1) := by decide +kernel
theorem dX9_handsOf_1 : decode cX9_handsOf 1 = .ok (.istore_n 2, 1) := by decide +kernel
theorem dX9_handsOf_2 : decode cX9_handsOf 2 = .ok (.iconst 0, 1) := by decide +kernel
theorem dX9_handsOf_3 : decode cX9_handsOf 3 = .ok (.istore_n 3, 1) := by decide +kernel
theorem dX9_handsOf_4 : decode cX9_handsOf 4 = .ok (.iload_n 3, 1) := by decide +kernel
theorem dX9_handsOf_5 : decode cX9_handsOf 5 = .ok (.iload_n 1, 1) := by decide +kernel
theorem dX9_handsOf_6 : decode cX9_handsOf 6 = .ok (.if_icmp .ge 20, 3) := by decide +kernel
theorem dX9_handsOf_9 : decode cX9_handsOf 9 = .ok (.iload_n 2, 1) := by decide +kernel
theorem dX9_handsOf_10 : decode cX9_handsOf 10 = .ok (.iconst 1, 1) := by decide +kernel
theorem dX9_handsOf_11 : decode cX9_handsOf 11 = .ok (.iload_n 0, 1) := by decide +kernel
theorem dX9_handsOf_12 : decode cX9_handsOf 12 = .ok (.iload_n 1, 1) := by decide +kernel
theorem dX9_handsOf_13 : decode cX9_handsOf 13 = .ok (.iload_n 3, 1) := by decide +kernel
theorem dX9_handsOf_14 : decode cX9_handsOf 14 = .ok (.invokestatic 289, 3) := by decide +kernel
theorem dX9_handsOf_17 : decode cX9_handsOf 17 = .ok (.ishl, 1) := by decide +kernel
theorem dX9_handsOf_18 : decode cX9_handsOf 18 = .ok (.ior, 1) := by decide +kernel
theorem dX9_handsOf_19 : decode cX9_handsOf 19 = .ok (.istore_n 2, 1) := by decide +kernel
theorem dX9_handsOf_20 : decode cX9_handsOf 20 = .ok (.iinc 3 1, 3) := by decide +kernel
theorem dX9_handsOf_23 : decode cX9_handsOf 23 = .ok (.goto (-19), 3) := by decide +kernel
theorem dX9_handsOf_26 : decode cX9_handsOf 26 = .ok (.iload_n 2, 1) := by decide +kernel
theorem dX9_handsOf_27 : decode cX9_handsOf 27 = .ok (.ireturn, 1) := by decide +kernel
set_option maxRecDepth 20000 in
theorem dX9_costInTurns_0 : decode cX9_costInTurns 0 = .ok (.iload_n 3, 1) := by decide +kernel
theorem dX9_costInTurns_1 : decode cX9_costInTurns 1 = .ok (.iconst 1, 1) := by decide +kernel
theorem dX9_costInTurns_2 : decode cX9_costInTurns 2 = .ok (.if_icmp .ge 7, 3) := by decide +kernel
theorem dX9_costInTurns_5 : decode cX9_costInTurns 5 = .ok (.ldc2_w 165, 3) := by decide +kernel
theorem dX9_costInTurns_8 : decode cX9_costInTurns 8 = .ok (.lreturn, 1) := by decide +kernel
theorem dX9_costInTurns_9 : decode cX9_costInTurns 9 = .ok (.iload 4, 2) := by decide +kernel
theorem dX9_costInTurns_11 : decode cX9_costInTurns 11 = .ok (.iload_n 3, 1) := by decide +kernel
theorem dX9_costInTurns_12 : decode cX9_costInTurns 12 = .ok (.idiv, 1) := by decide +kernel
theorem dX9_costInTurns_13 : decode cX9_costInTurns 13 = .ok (.istore 5, 2) := by decide +kernel
theorem dX9_costInTurns_15 : decode cX9_costInTurns 15 = .ok (.aload_n 0, 1) := by decide +kernel
theorem dX9_costInTurns_16 : decode cX9_costInTurns 16 = .ok (.getfield 34, 3) := by decide +kernel
theorem dX9_costInTurns_19 : decode cX9_costInTurns 19 = .ok (.aload_n 1, 1) := by decide +kernel
theorem dX9_costInTurns_20 : decode cX9_costInTurns 20 = .ok (.iconst 0, 1) := by decide +kernel
theorem dX9_costInTurns_21 : decode cX9_costInTurns 21 = .ok (.invokevirtual 252, 3) := by decide +kernel
theorem dX9_costInTurns_24 : decode cX9_costInTurns 24 = .ok (.iconst 0, 1) := by decide +kernel
theorem dX9_costInTurns_25 : decode cX9_costInTurns 25 = .ok (.istore 6, 2) := by decide +kernel
theorem dX9_costInTurns_27 : decode cX9_costInTurns 27 = .ok (.iload 6, 2) := by decide +kernel
theorem dX9_costInTurns_29 : decode cX9_costInTurns 29 = .ok (.iload_n 3, 1) := by decide +kernel
theorem dX9_costInTurns_30 : decode cX9_costInTurns 30 = .ok (.if_icmp .ge 55, 3) := by decide +kernel
theorem dX9_costInTurns_33 : decode cX9_costInTurns 33 = .ok (.iload 6, 2) := by decide +kernel
theorem dX9_costInTurns_35 : decode cX9_costInTurns 35 = .ok (.iload_n 3, 1) := by decide +kernel
theorem dX9_costInTurns_36 : decode cX9_costInTurns 36 = .ok (.iconst 1, 1) := by decide +kernel
theorem dX9_costInTurns_37 : decode cX9_costInTurns 37 = .ok (.isub, 1) := by decide +kernel
theorem dX9_costInTurns_38 : decode cX9_costInTurns 38 = .ok (.if_icmp .ne 14, 3) := by decide +kernel
theorem dX9_costInTurns_41 : decode cX9_costInTurns 41 = .ok (.iload 4, 2) := by decide +kernel
theorem dX9_costInTurns_43 : decode cX9_costInTurns 43 = .ok (.iload 5, 2) := by decide +kernel
theorem dX9_costInTurns_45 : decode cX9_costInTurns 45 = .ok (.iload 6, 2) := by decide +kernel
theorem dX9_costInTurns_47 : decode cX9_costInTurns 47 = .ok (.imul, 1) := by decide +kernel
theorem dX9_costInTurns_48 : decode cX9_costInTurns 48 = .ok (.isub, 1) := by decide +kernel
theorem dX9_costInTurns_49 : decode cX9_costInTurns 49 = .ok (.goto 5, 3) := by decide +kernel
theorem dX9_costInTurns_52 : decode cX9_costInTurns 52 = .ok (.iload 5, 2) := by decide +kernel
theorem dX9_costInTurns_54 : decode cX9_costInTurns 54 = .ok (.istore 7, 2) := by decide +kernel
theorem dX9_costInTurns_56 : decode cX9_costInTurns 56 = .ok (.aload_n 0, 1) := by decide +kernel
theorem dX9_costInTurns_57 : decode cX9_costInTurns 57 = .ok (.getfield 34, 3) := by decide +kernel
theorem dX9_costInTurns_60 : decode cX9_costInTurns 60 = .ok (.aload_n 0, 1) := by decide +kernel
theorem dX9_costInTurns_61 : decode cX9_costInTurns 61 = .ok (.getfield 10, 3) := by decide +kernel
theorem dX9_costInTurns_64 : decode cX9_costInTurns 64 = .ok (.iload_n 2, 1) := by decide +kernel
theorem dX9_costInTurns_65 : decode cX9_costInTurns 65 = .ok (.iload_n 3, 1) := by decide +kernel
theorem dX9_costInTurns_66 : decode cX9_costInTurns 66 = .ok (.iload 6, 2) := by decide +kernel
theorem dX9_costInTurns_68 : decode cX9_costInTurns 68 = .ok (.invokestatic 289, 3) := by decide +kernel
theorem dX9_costInTurns_71 : decode cX9_costInTurns 71 = .ok (.invokevirtual 95, 3) := by decide +kernel
theorem dX9_costInTurns_74 : decode cX9_costInTurns 74 = .ok (.iload 7, 2) := by decide +kernel
theorem dX9_costInTurns_76 : decode cX9_costInTurns 76 = .ok (.invokevirtual 255, 3) := by decide +kernel
theorem dX9_costInTurns_79 : decode cX9_costInTurns 79 = .ok (.iinc 6 1, 3) := by decide +kernel
theorem dX9_costInTurns_82 : decode cX9_costInTurns 82 = .ok (.goto (-55), 3) := by decide +kernel
theorem dX9_costInTurns_85 : decode cX9_costInTurns 85 = .ok (.aload_n 0, 1) := by decide +kernel
theorem dX9_costInTurns_86 : decode cX9_costInTurns 86 = .ok (.getfield 34, 3) := by decide +kernel
theorem dX9_costInTurns_89 : decode cX9_costInTurns 89 = .ok (.invokevirtual 259, 3) := by decide +kernel
theorem dX9_costInTurns_92 : decode cX9_costInTurns 92 = .ok (.lreturn, 1) := by decide +kernel
theorem dX9_at_0 : decode cX9_at 0 = .ok (.aload_n 0, 1) := by decide +kernel
theorem dX9_at_1 : decode cX9_at 1 = .ok (.ifnull 19, 3) := by decide +kernel
theorem dX9_at_4 : decode cX9_at 4 = .ok (.iload_n 1, 1) := by decide +kernel
theorem dX9_at_5 : decode cX9_at 5 = .ok (.ifCond .lt 15, 3) := by decide +kernel
theorem dX9_at_8 : decode cX9_at 8 = .ok (.iload_n 1, 1) := by decide +kernel
theorem dX9_at_9 : decode cX9_at 9 = .ok (.aload_n 0, 1) := by decide +kernel
theorem dX9_at_10 : decode cX9_at 10 = .ok (.arraylength, 1) := by decide +kernel
theorem dX9_at_11 : decode cX9_at 11 = .ok (.if_icmp .ge 9, 3) := by decide +kernel
theorem dX9_at_14 : decode cX9_at 14 = .ok (.aload_n 0, 1) := by decide +kernel
theorem dX9_at_15 : decode cX9_at 15 = .ok (.iload_n 1, 1) := by decide +kernel
theorem dX9_at_16 : decode cX9_at 16 = .ok (.iaload, 1) := by decide +kernel
theorem dX9_at_17 : decode cX9_at 17 = .ok (.goto 4, 3) := by decide +kernel
theorem dX9_at_20 : decode cX9_at 20 = .ok (.iconst 0, 1) := by decide +kernel
theorem dX9_at_21 : decode cX9_at 21 = .ok (.ireturn, 1) := by decide +kernel
theorem dX9_put_0 : decode cX9_put 0 = .ok (.aload_n 0, 1) := by decide +kernel
theorem dX9_put_1 : decode cX9_put 1 = .ok (.ifnull 17, 3) := by decide +kernel
theorem dX9_put_4 : decode cX9_put 4 = .ok (.iload_n 1, 1) := by decide +kernel
theorem dX9_put_5 : decode cX9_put 5 = .ok (.ifCond .lt 13, 3) := by decide +kernel
theorem dX9_put_8 : decode cX9_put 8 = .ok (.iload_n 1, 1) := by decide +kernel
theorem dX9_put_9 : decode cX9_put 9 = .ok (.aload_n 0, 1) := by decide +kernel
theorem dX9_put_10 : decode cX9_put 10 = .ok (.arraylength, 1) := by decide +kernel
theorem dX9_put_11 : decode cX9_put 11 = .ok (.if_icmp .ge 7, 3) := by decide +kernel
theorem dX9_put_14 : decode cX9_put 14 = .ok (.aload_n 0, 1) := by decide +kernel
theorem dX9_put_15 : decode cX9_put 15 = .ok (.iload_n 1, 1) := by decide +kernel
theorem dX9_put_16 : decode cX9_put 16 = .ok (.iload_n 2, 1) := by decide +kernel
theorem dX9_put_17 : decode cX9_put 17 = .ok (.iastore, 1) := by decide +kernel
theorem dX9_put_18 : decode cX9_put 18 = .ok (.return_, 1) := by decide +kernel
theorem dX9_copyRow_0 : decode cX9_copyRow 0 = .ok (.aload_n 0, 1) := by decide +kernel
theorem dX9_copyRow_1 : decode cX9_copyRow 1 = .ok (.ifnull 21, 3) := by decide +kernel
theorem dX9_copyRow_4 : decode cX9_copyRow 4 = .ok (.aload_n 1, 1) := by decide +kernel
theorem dX9_copyRow_5 : decode cX9_copyRow 5 = .ok (.ifnull 17, 3) := by decide +kernel
theorem dX9_copyRow_8 : decode cX9_copyRow 8 = .ok (.aload_n 0, 1) := by decide +kernel
theorem dX9_copyRow_9 : decode cX9_copyRow 9 = .ok (.iconst 0, 1) := by decide +kernel
theorem dX9_copyRow_10 : decode cX9_copyRow 10 = .ok (.aload_n 1, 1) := by decide +kernel
theorem dX9_copyRow_11 : decode cX9_copyRow 11 = .ok (.iconst 0, 1) := by decide +kernel
theorem dX9_copyRow_12 : decode cX9_copyRow 12 = .ok (.aload_n 0, 1) := by decide +kernel
theorem dX9_copyRow_13 : decode cX9_copyRow 13 = .ok (.arraylength, 1) := by decide +kernel
theorem dX9_copyRow_14 : decode cX9_copyRow 14 = .ok (.aload_n 1, 1) := by decide +kernel
theorem dX9_copyRow_15 : decode cX9_copyRow 15 = .ok (.arraylength, 1) := by decide +kernel
theorem dX9_copyRow_16 : decode cX9_copyRow 16 = .ok (.invokestatic 334, 3) := by decide +kernel
theorem dX9_copyRow_19 : decode cX9_copyRow 19 = .ok (.invokestatic 336, 3) := by decide +kernel
theorem dX9_copyRow_22 : decode cX9_copyRow 22 = .ok (.return_, 1) := by decide +kernel
theorem dX9_within_0 : decode cX9_within 0 = .ok (.iload_n 1, 1) := by decide +kernel
theorem dX9_within_1 : decode cX9_within 1 = .ok (.ineg, 1) := by decide +kernel
theorem dX9_within_2 : decode cX9_within 2 = .ok (.iload_n 1, 1) := by decide +kernel
theorem dX9_within_3 : decode cX9_within 3 = .ok (.iload_n 0, 1) := by decide +kernel
theorem dX9_within_4 : decode cX9_within 4 = .ok (.invokestatic 334, 3) := by decide +kernel
theorem dX9_within_7 : decode cX9_within 7 = .ok (.invokestatic 342, 3) := by decide +kernel
theorem dX9_within_10 : decode cX9_within 10 = .ok (.ireturn, 1) := by decide +kernel
