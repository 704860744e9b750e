theorem dX4_init_74 : decode cX4_init 74 = .ok (.iconst 5, 1) := by decide +kernel
theorem dX4_init_75 : decode cX4_init 75 = .ok (.iastore, 1) := by decide +kernel
theorem dX4_init_76 : decode cX4_init 76 = .ok (.aload_n 0, 1) := by decide +kernel
theorem dX4_init_77 : decode cX4_init 77 = .ok (.getfield 7, 3) := by decide +kernel
theorem dX4_init_80 : decode cX4_init 80 = .ok (.iconst 5, 1) := by decide +kernel
theorem dX4_init_81 : decode cX4_init 81 = .ok (.bipush 10, 2) := by decide +kernel
theorem dX4_init_83 : decode cX4_init 83 = .ok (.iastore, 1) := by decide +kernel
theorem dX4_init_84 : decode cX4_init 84 = .ok (.aload_n 0, 1) := by decide +kernel
theorem dX4_init_85 : decode cX4_init 85 = .ok (.getfield 7, 3) := by decide +kernel
theorem dX4_init_88 : decode cX4_init 88 = .ok (.bipush 6, 2) := by decide +kernel
theorem dX4_init_90 : decode cX4_init 90 = .ok (.bipush 50, 2) := by decide +kernel
theorem dX4_init_92 : decode cX4_init 92 = .ok (.iastore, 1) := by decide +kernel
theorem dX4_init_93 : decode cX4_init 93 = .ok (.aload_n 0, 1) := by decide +kernel
theorem dX4_init_94 : decode cX4_init 94 = .ok (.getfield 7, 3) := by decide +kernel
theorem dX4_init_97 : decode cX4_init 97 = .ok (.bipush 7, 2) := by decide +kernel
theorem dX4_init_99 : decode cX4_init 99 = .ok (.bipush 100, 2) := by decide +kernel
theorem dX4_init_101 : decode cX4_init 101 = .ok (.iastore, 1) := by decide +kernel
theorem dX4_init_102 : decode cX4_init 102 = .ok (.aload_n 0, 1) := by decide +kernel
theorem dX4_init_103 : decode cX4_init 103 = .ok (.getfield 7, 3) := by decide +kernel
theorem dX4_init_106 : decode cX4_init 106 = .ok (.bipush 8, 2) := by decide +kernel
theorem dX4_init_108 : decode cX4_init 108 = .ok (.sipush 200, 3) := by decide +kernel
theorem dX4_init_111 : decode cX4_init 111 = .ok (.iastore, 1) := by decide +kernel
theorem dX4_init_112 : decode cX4_init 112 = .ok (.aload_n 0, 1) := by decide +kernel
theorem dX4_init_113 : decode cX4_init 113 = .ok (.getfield 7, 3) := by decide +kernel
theorem dX4_init_116 : decode cX4_init 116 = .ok (.bipush 9, 2) := by decide +kernel
theorem dX4_init_118 : decode cX4_init 118 = .ok (.sipush 260, 3) := by decide +kernel
theorem dX4_init_121 : decode cX4_init 121 = .ok (.iastore, 1) := by decide +kernel
theorem dX4_init_122 : decode cX4_init 122 = .ok (.aload_n 0, 1) := by decide +kernel
theorem dX4_init_123 : decode cX4_init 123 = .ok (.getfield 7, 3) := by decide +kernel
theorem dX4_init_126 : decode cX4_init 126 = .ok (.bipush 10, 2) := by decide +kernel
theorem dX4_init_128 : decode cX4_init 128 = .ok (.sipush 400, 3) := by decide +kernel
theorem dX4_init_131 : decode cX4_init 131 = .ok (.iastore, 1) := by decide +kernel
theorem dX4_init_132 : decode cX4_init 132 = .ok (.aload_n 0, 1) := by decide +kernel
theorem dX4_init_133 : decode cX4_init 133 = .ok (.getfield 7, 3) := by decide +kernel
theorem dX4_init_136 : decode cX4_init 136 = .ok (.bipush 11, 2) := by decide +kernel
theorem dX4_init_138 : decode cX4_init 138 = .ok (.sipush 500, 3) := by decide +kernel
theorem dX4_init_141 : decode cX4_init 141 = .ok (.iastore, 1) := by decide +kernel
theorem dX4_init_142 : decode cX4_init 142 = .ok (.aload_n 0, 1) := by decide +kernel
theorem dX4_init_143 : decode cX4_init 143 = .ok (.getfield 7, 3) := by decide +kernel
theorem dX4_init_146 : decode cX4_init 146 = .ok (.sipush 1202, 3) := by decide +kernel
theorem dX4_init_149 : decode cX4_init 149 = .ok (.iconst (-1), 1) := by decide +kernel
theorem dX4_init_150 : decode cX4_init 150 = .ok (.iastore, 1) := by decide +kernel
theorem dX4_init_151 : decode cX4_init 151 = .ok (.return_, 1) := by decide +kernel
theorem dX4_thrown_0 : decode cX4_thrown 0 = .ok (.aload_n 0, 1) := by decide +kernel
theorem dX4_thrown_1 : decode cX4_thrown 1 = .ok (.getfield 22, 3) := by decide +kernel
theorem dX4_thrown_4 : decode cX4_thrown 4 = .ok (.ireturn, 1) := by decide +kernel
theorem dX4_refused_0 : decode cX4_refused 0 = .ok (.aload_n 0, 1) := by decide +kernel
theorem dX4_refused_1 : decode cX4_refused 1 = .ok (.iload_n 1, 1) := by decide +kernel
theorem dX4_refused_2 : decode cX4_refused 2 = .ok (.putfield 22, 3) := by decide +kernel
theorem dX4_refused_5 : decode cX4_refused 5 = .ok (.iload_n 1, 1) := by decide +kernel
theorem dX4_refused_6 : decode cX4_refused 6 = .ok (.ifCond .le 7, 3) := by decide +kernel
theorem dX4_refused_9 : decode cX4_refused 9 = .ok (.iconst 1, 1) := by decide +kernel
theorem dX4_refused_10 : decode cX4_refused 10 = .ok (.goto 4, 3) := by decide +kernel
theorem dX4_refused_13 : decode cX4_refused 13 = .ok (.iconst 0, 1) := by decide +kernel
theorem dX4_refused_14 : decode cX4_refused 14 = .ok (.ireturn, 1) := by decide +kernel
theorem dX4_within_0 : decode cX4_within 0 = .ok (.iload_n 0, 1) := by decide +kernel
theorem dX4_within_1 : decode cX4_within 1 = .ok (.iload_n 1, 1) := by decide +kernel
theorem dX4_within_2 : decode cX4_within 2 = .ok (.if_icmp .lt 12, 3) := by decide +kernel
theorem dX4_within_5 : decode cX4_within 5 = .ok (.iload_n 0, 1) := by decide +kernel
theorem dX4_within_6 : decode cX4_within 6 = .ok (.iload_n 2, 1) := by decide +kernel
theorem dX4_within_7 : decode cX4_within 7 = .ok (.if_icmp .gt 7, 3) := by decide +kernel
theorem dX4_within_10 : decode cX4_within 10 = .ok (.iconst 1, 1) := by decide +kernel
theorem dX4_within_11 : decode cX4_within 11 = .ok (.goto 4, 3) := by decide +kernel
theorem dX4_within_14 : decode cX4_within 14 = .ok (.iconst 0, 1) := by decide +kernel
theorem dX4_within_15 : decode cX4_within 15 = .ok (.ireturn, 1) := by decide +kernel
theorem dX4_saves_0 : decode cX4_saves 0 = .ok (.aload_n 0, 1) := by decide +kernel
theorem dX4_saves_1 : decode cX4_saves 1 = .ok (.getfield 26, 3) := by decide +kernel
theorem dX4_saves_4 : decode cX4_saves 4 = .ok (.iconst 4, 1) := by decide +kernel
theorem dX4_saves_5 : decode cX4_saves 5 = .ok (.if_icmp .ne 44, 3) := by decide +kernel
theorem dX4_saves_8 : decode cX4_saves 8 = .ok (.iconst 0, 1) := by decide +kernel
theorem dX4_saves_9 : decode cX4_saves 9 = .ok (.istore_n 1, 1) := by decide +kernel
theorem dX4_saves_10 : decode cX4_saves 10 = .ok (.iload_n 1, 1) := by decide +kernel
theorem dX4_saves_11 : decode cX4_saves 11 = .ok (.sipush 3609, 3) := by decide +kernel
theorem dX4_saves_14 : decode cX4_saves 14 = .ok (.if_icmp .ge 25, 3) := by decide +kernel
theorem dX4_saves_17 : decode cX4_saves 17 = .ok (.aload_n 0, 1) := by decide +kernel
theorem dX4_saves_18 : decode cX4_saves 18 = .ok (.getfield 13, 3) := by decide +kernel
theorem dX4_saves_21 : decode cX4_saves 21 = .ok (.iload_n 1, 1) := by decide +kernel
theorem dX4_saves_22 : decode cX4_saves 22 = .ok (.aload_n 0, 1) := by decide +kernel
theorem dX4_saves_23 : decode cX4_saves 23 = .ok (.getfield 13, 3) := by decide +kernel
theorem dX4_saves_26 : decode cX4_saves 26 = .ok (.iload_n 1, 1) := by decide +kernel
theorem dX4_saves_27 : decode cX4_saves 27 = .ok (.sipush 1203, 3) := by decide +kernel
theorem dX4_saves_30 : decode cX4_saves 30 = .ok (.iadd, 1) := by decide +kernel
theorem dX4_saves_31 : decode cX4_saves 31 = .ok (.iaload, 1) := by decide +kernel
theorem dX4_saves_32 : decode cX4_saves 32 = .ok (.iastore, 1) := by decide +kernel
theorem dX4_saves_33 : decode cX4_saves 33 = .ok (.iinc 1 1, 3) := by decide +kernel
theorem dX4_saves_36 : decode cX4_saves 36 = .ok (.goto (-26), 3) := by decide +kernel
theorem dX4_saves_39 : decode cX4_saves 39 = .ok (.aload_n 0, 1) := by decide +kernel
theorem dX4_saves_40 : decode cX4_saves 40 = .ok (.dup, 1) := by decide +kernel
theorem dX4_saves_41 : decode cX4_saves 41 = .ok (.getfield 26, 3) := by decide +kernel
theorem dX4_saves_44 : decode cX4_saves 44 = .ok (.iconst 1, 1) := by decide +kernel
theorem dX4_saves_45 : decode cX4_saves 45 = .ok (.isub, 1) := by decide +kernel
theorem dX4_saves_46 : decode cX4_saves 46 = .ok (.putfield 26, 3) := by decide +kernel
theorem dX4_saves_49 : decode cX4_saves 49 = .ok (.iconst 0, 1) := by decide +kernel
theorem dX4_saves_50 : decode cX4_saves 50 = .ok (.istore_n 1, 1) := by decide +kernel
theorem dX4_saves_51 : decode cX4_saves 51 = .ok (.iload_n 1, 1) := by decide +kernel
theorem dX4_saves_52 : decode cX4_saves 52 = .ok (.sipush 1203, 3) := by decide +kernel
theorem dX4_saves_55 : decode cX4_saves 55 = .ok (.if_icmp .ge 30, 3) := by decide +kernel
theorem dX4_saves_58 : decode cX4_saves 58 = .ok (.aload_n 0, 1) := by decide +kernel
theorem dX4_saves_59 : decode cX4_saves 59 = .ok (.getfield 13, 3) := by decide +kernel
theorem dX4_saves_62 : decode cX4_saves 62 = .ok (.sipush 1203, 3) := by decide +kernel
theorem dX4_saves_65 : decode cX4_saves 65 = .ok (.aload_n 0, 1) := by decide +kernel
theorem dX4_saves_66 : decode cX4_saves 66 = .ok (.getfield 26, 3) := by decide +kernel
theorem dX4_saves_69 : decode cX4_saves 69 = .ok (.imul, 1) := by decide +kernel
theorem dX4_saves_70 : decode cX4_saves 70 = .ok (.iload_n 1, 1) := by decide +kernel
theorem dX4_saves_71 : decode cX4_saves 71 = .ok (.iadd, 1) := by decide +kernel
theorem dX4_saves_72 : decode cX4_saves 72 = .ok (.aload_n 0, 1) := by decide +kernel
theorem dX4_saves_73 : decode cX4_saves 73 = .ok (.getfield 7, 3) := by decide +kernel
theorem dX4_saves_76 : decode cX4_saves 76 = .ok (.iload_n 1, 1) := by decide +kernel
theorem dX4_saves_77 : decode cX4_saves 77 = .ok (.iaload, 1) := by decide +kernel
theorem dX4_saves_78 : decode cX4_saves 78 = .ok (.iastore, 1) := by decide +kernel
theorem dX4_saves_79 : decode cX4_saves 79 = .ok (.iinc 1 1, 3) := by decide +kernel
theorem dX4_saves_82 : decode cX4_saves 82 = .ok (.goto (-31), 3) := by decide +kernel
theorem dX4_saves_85 : decode cX4_saves 85 = .ok (.aload_n 0, 1) := by decide +kernel
theorem dX4_saves_86 : decode cX4_saves 86 = .ok (.dup, 1) := by decide +kernel
theorem dX4_saves_87 : decode cX4_saves 87 = .ok (.getfield 26, 3) := by decide +kernel
theorem dX4_saves_90 : decode cX4_saves 90 = .ok (.iconst 1, 1) := by decide +kernel
theorem dX4_saves_91 : decode cX4_saves 91 = .ok (.iadd, 1) := by decide +kernel
theorem dX4_saves_92 : decode cX4_saves 92 = .ok (.putfield 26, 3) := by decide +kernel
theorem dX4_saves_95 : decode cX4_saves 95 = .ok (.return_, 1) := by decide +kernel
set_option maxRecDepth 20000 in
theorem ggX4_undo_X4_refused : GoodIn wsX4_undo wsX4_refused := goodIn_r _ [8, 9, 10, 11, 12, 13, 14, 15, 16, 17] (by decide +kernel) (by decide +kernel)
set_option maxRecDepth 20000 in
theorem gX4_undo_X4_refused : GoodIn wsX4_undo (wsV RX4 29 RX4 yX4_refused wsX4_refused) := goodIn_app (goodIn_of _ (by decide +kernel)) ggX4_undo_X4_refused
theorem dX4_undo_0 : decode cX4_undo 0 = .ok (.aload_n 0, 1) := by decide +kernel
theorem dX4_undo_1 : decode cX4_undo 1 = .ok (.aload_n 0, 1) := by decide +kernel
theorem dX4_undo_2 : decode cX4_undo 2 = .ok (.getfield 26, 3) := by decide +kernel
theorem dX4_undo_5 : decode cX4_undo 5 = .ok (.ifCond .ne 7, 3) := by decide +kernel
theorem dX4_undo_8 : decode cX4_undo 8 = .ok (.iconst 1, 1) := by decide +kernel
theorem dX4_undo_9 : decode cX4_undo 9 = .ok (.goto 4, 3) := by decide +kernel
theorem dX4_undo_12 : decode cX4_undo 12 = .ok (.iconst 0, 1) := by decide +kernel
theorem dX4_undo_13 : decode cX4_undo 13 = .ok (.invokevirtual 29, 3) := by decide +kernel
theorem dX4_undo_16 : decode cX4_undo 16 = .ok (.ifCond .eq 5, 3) := by decide +kernel
theorem dX4_undo_19 : decode cX4_undo 19 = .ok (.iconst 0, 1) := by decide +kernel
theorem dX4_undo_20 : decode cX4_undo 20 = .ok (.ireturn, 1) := by decide +kernel
theorem dX4_undo_21 : decode cX4_undo 21 = .ok (.aload_n 0, 1) := by decide +kernel
theorem dX4_undo_22 : decode cX4_undo 22 = .ok (.dup, 1) := by decide +kernel
theorem dX4_undo_23 : decode cX4_undo 23 = .ok (.getfield 26, 3) := by decide +kernel
theorem dX4_undo_26 : decode cX4_undo 26 = .ok (.iconst 1, 1) := by decide +kernel
theorem dX4_undo_27 : decode cX4_undo 27 = .ok (.isub, 1) := by decide +kernel
theorem dX4_undo_28 : decode cX4_undo 28 = .ok (.putfield 26, 3) := by decide +kernel
theorem dX4_undo_31 : decode cX4_undo 31 = .ok (.iconst 0, 1) := by decide +kernel
theorem dX4_undo_32 : decode cX4_undo 32 = .ok (.istore_n 1, 1) := by decide +kernel
theorem dX4_undo_33 : decode cX4_undo 33 = .ok (.iload_n 1, 1) := by decide +kernel
theorem dX4_undo_34 : decode cX4_undo 34 = .ok (.sipush 1203, 3) := by decide +kernel
theorem dX4_undo_37 : decode cX4_undo 37 = .ok (.if_icmp .ge 30, 3) := by decide +kernel
theorem dX4_undo_40 : decode cX4_undo 40 = .ok (.aload_n 0, 1) := by decide +kernel
theorem dX4_undo_41 : decode cX4_undo 41 = .ok (.getfield 7, 3) := by decide +kernel
theorem dX4_undo_44 : decode cX4_undo 44 = .ok (.iload_n 1, 1) := by decide +kernel
theorem dX4_undo_45 : decode cX4_undo 45 = .ok (.aload_n 0, 1) := by decide +kernel
theorem dX4_undo_46 : decode cX4_undo 46 = .ok (.getfield 13, 3) := by decide +kernel
theorem dX4_undo_49 : decode cX4_undo 49 = .ok (.sipush 1203, 3) := by decide +kernel
theorem dX4_undo_52 : decode cX4_undo 52 = .ok (.aload_n 0, 1) := by decide +kernel
theorem dX4_undo_53 : decode cX4_undo 53 = .ok (.getfield 26, 3) := by decide +kernel
theorem dX4_undo_56 : decode cX4_undo 56 = .ok (.imul, 1) := by decide +kernel
theorem dX4_undo_57 : decode cX4_undo 57 = .ok (.iload_n 1, 1) := by decide +kernel
theorem dX4_undo_58 : decode cX4_undo 58 = .ok (.iadd, 1) := by decide +kernel
theorem dX4_undo_59 : decode cX4_undo 59 = .ok (.iaload, 1) := by decide +kernel
theorem dX4_undo_60 : decode cX4_undo 60 = .ok (.iastore, 1) := by decide +kernel
theorem dX4_undo_61 : decode cX4_undo 61 = .ok (.iinc 1 1, 3) := by decide +kernel
theorem dX4_undo_64 : decode cX4_undo 64 = .ok (.goto (-31), 3) := by decide +kernel
theorem dX4_undo_67 : decode cX4_undo 67 = .ok (.aload_n 0, 1) := by decide +kernel
theorem dX4_undo_68 : decode cX4_undo 68 = .ok (.getfield 26, 3) := by decide +kernel
theorem dX4_undo_71 : decode cX4_undo 71 = .ok (.ireturn, 1) := by decide +kernel
theorem dX4_laysAside_0 : decode cX4_laysAside 0 = .ok (.iconst 0, 1) := by decide +kernel
theorem dX4_laysAside_1 : decode cX4_laysAside 1 = .ok (.istore_n 1, 1) := by decide +kernel
theorem dX4_laysAside_2 : decode cX4_laysAside 2 = .ok (.iload_n 1, 1) := by decide +kernel
theorem dX4_laysAside_3 : decode cX4_laysAside 3 = .ok (.sipush 1203, 3) := by decide +kernel
theorem dX4_laysAside_6 : decode cX4_laysAside 6 = .ok (.if_icmp .ge 21, 3) := by decide +kernel
theorem dX4_laysAside_9 : decode cX4_laysAside 9 = .ok (.aload_n 0, 1) := by decide +kernel
theorem dX4_laysAside_10 : decode cX4_laysAside 10 = .ok (.getfield 16, 3) := by decide +kernel
theorem dX4_laysAside_13 : decode cX4_laysAside 13 = .ok (.iload_n 1, 1) := by decide +kernel
theorem dX4_laysAside_14 : decode cX4_laysAside 14 = .ok (.aload_n 0, 1) := by decide +kernel
theorem dX4_laysAside_15 : decode cX4_laysAside 15 = .ok (.getfield 7, 3) := by decide +kernel
theorem dX4_laysAside_18 : decode cX4_laysAside 18 = .ok (.iload_n 1, 1) := by decide +kernel
theorem dX4_laysAside_19 : decode cX4_laysAside 19 = .ok (.iaload, 1) := by decide +kernel
theorem dX4_laysAside_20 : decode cX4_laysAside 20 = .ok (.iastore, 1) := by decide +kernel
theorem dX4_laysAside_21 : decode cX4_laysAside 21 = .ok (.iinc 1 1, 3) := by decide +kernel
theorem dX4_laysAside_24 : decode cX4_laysAside 24 = .ok (.goto (-22), 3) := by decide +kernel
theorem dX4_laysAside_27 : decode cX4_laysAside 27 = .ok (.return_, 1) := by decide +kernel
theorem dX4_takesBack_0 : decode cX4_takesBack 0 = .ok (.iconst 0, 1) := by decide +kernel
theorem dX4_takesBack_1 : decode cX4_takesBack 1 = .ok (.istore_n 1, 1) := by decide +kernel
theorem dX4_takesBack_2 : decode cX4_takesBack 2 = .ok (.iload_n 1, 1) := by decide +kernel
theorem dX4_takesBack_3 : decode cX4_takesBack 3 = .ok (.sipush 1203, 3) := by decide +kernel
theorem dX4_takesBack_6 : decode cX4_takesBack 6 = .ok (.if_icmp .ge 21, 3) := by decide +kernel
theorem dX4_takesBack_9 : decode cX4_takesBack 9 = .ok (.aload_n 0, 1) := by decide +kernel
theorem dX4_takesBack_10 : decode cX4_takesBack 10 = .ok (.getfield 7, 3) := by decide +kernel
theorem dX4_takesBack_13 : decode cX4_takesBack 13 = .ok (.iload_n 1, 1) := by decide +kernel
theorem dX4_takesBack_14 : decode cX4_takesBack 14 = .ok (.aload_n 0, 1) := by decide +kernel
theorem dX4_takesBack_15 : decode cX4_takesBack 15 = .ok (.getfield 16, 3) := by decide +kernel
theorem dX4_takesBack_18 : decode cX4_takesBack 18 = .ok (.iload_n 1, 1) := by decide +kernel
theorem dX4_takesBack_19 : decode cX4_takesBack 19 = .ok (.iaload, 1) := by decide +kernel
theorem dX4_takesBack_20 : decode cX4_takesBack 20 = .ok (.iastore, 1) := by decide +kernel
theorem dX4_takesBack_21 : decode cX4_takesBack 21 = .ok (.iinc 1 1, 3) := by decide +kernel
theorem dX4_takesBack_24 : decode cX4_takesBack 24 = .ok (.goto (-22), 3) := by decide +kernel
theorem dX4_takesBack_27 : decode cX4_takesBack 27 = .ok (.return_, 1) := by decide +kernel
theorem dX4_drops_0 : decode cX4_drops 0 = .ok (.aload_n 0, 1) := by decide +kernel
theorem dX4_drops_1 : decode cX4_drops 1 = .ok (.getfield 7, 3) := by decide +kernel
theorem dX4_drops_4 : decode cX4_drops 4 = .ok (.iload_n 1, 1) := by decide +kernel
theorem dX4_drops_5 : decode cX4_drops 5 = .ok (.dup2, 1) := by decide +kernel
theorem dX4_drops_6 : decode cX4_drops 6 = .ok (.iaload, 1) := by decide +kernel
theorem dX4_drops_7 : decode cX4_drops 7 = .ok (.iconst 1, 1) := by decide +kernel
theorem dX4_drops_8 : decode cX4_drops 8 = .ok (.isub, 1) := by decide +kernel
theorem dX4_drops_9 : decode cX4_drops 9 = .ok (.iastore, 1) := by decide +kernel
theorem dX4_drops_10 : decode cX4_drops 10 = .ok (.iload_n 2, 1) := by decide +kernel
theorem dX4_drops_11 : decode cX4_drops 11 = .ok (.iload_n 3, 1) := by decide +kernel
theorem dX4_drops_12 : decode cX4_drops 12 = .ok (.iload 4, 2) := by decide +kernel
theorem dX4_drops_14 : decode cX4_drops 14 = .ok (.imul, 1) := by decide +kernel
theorem dX4_drops_15 : decode cX4_drops 15 = .ok (.iadd, 1) := by decide +kernel
theorem dX4_drops_16 : decode cX4_drops 16 = .ok (.istore 5, 2) := by decide +kernel
theorem dX4_drops_18 : decode cX4_drops 18 = .ok (.iload 5, 2) := by decide +kernel
theorem dX4_drops_20 : decode cX4_drops 20 = .ok (.iload_n 2, 1) := by decide +kernel
theorem dX4_drops_21 : decode cX4_drops 21 = .ok (.iload_n 3, 1) := by decide +kernel
theorem dX4_drops_22 : decode cX4_drops 22 = .ok (.aload_n 0, 1) := by decide +kernel
theorem dX4_drops_23 : decode cX4_drops 23 = .ok (.getfield 7, 3) := by decide +kernel
theorem dX4_drops_26 : decode cX4_drops 26 = .ok (.iload_n 1, 1) := by decide +kernel
theorem dX4_drops_27 : decode cX4_drops 27 = .ok (.iaload, 1) := by decide +kernel
theorem dX4_drops_28 : decode cX4_drops 28 = .ok (.imul, 1) := by decide +kernel
theorem dX4_drops_29 : decode cX4_drops 29 = .ok (.iadd, 1) := by decide +kernel
theorem dX4_drops_30 : decode cX4_drops 30 = .ok (.if_icmp .ge 25, 3) := by decide +kernel
theorem dX4_drops_33 : decode cX4_drops 33 = .ok (.aload_n 0, 1) := by decide +kernel
theorem dX4_drops_34 : decode cX4_drops 34 = .ok (.getfield 7, 3) := by decide +kernel
theorem dX4_drops_37 : decode cX4_drops 37 = .ok (.iload 5, 2) := by decide +kernel
theorem dX4_drops_39 : decode cX4_drops 39 = .ok (.aload_n 0, 1) := by decide +kernel
theorem dX4_drops_40 : decode cX4_drops 40 = .ok (.getfield 7, 3) := by decide +kernel
theorem dX4_drops_43 : decode cX4_drops 43 = .ok (.iload 5, 2) := by decide +kernel
theorem dX4_drops_45 : decode cX4_drops 45 = .ok (.iload_n 3, 1) := by decide +kernel
theorem dX4_drops_46 : decode cX4_drops 46 = .ok (.iadd, 1) := by decide +kernel
theorem dX4_drops_47 : decode cX4_drops 47 = .ok (.iaload, 1) := by decide +kernel
theorem dX4_drops_48 : decode cX4_drops 48 = .ok (.iastore, 1) := by decide +kernel
theorem dX4_drops_49 : decode cX4_drops 49 = .ok (.iinc 5 1, 3) := by decide +kernel
theorem dX4_drops_52 : decode cX4_drops 52 = .ok (.goto (-34), 3) := by decide +kernel
theorem dX4_drops_55 : decode cX4_drops 55 = .ok (.return_, 1) := by decide +kernel
theorem dX4_counts_0 : decode cX4_counts 0 = .ok (.aload_n 0, 1) := by decide +kernel
theorem dX4_counts_1 : decode cX4_counts 1 = .ok (.getfield 7, 3) := by decide +kernel
theorem dX4_counts_4 : decode cX4_counts 4 = .ok (.bipush 17, 2) := by decide +kernel
theorem dX4_counts_6 : decode cX4_counts 6 = .ok (.iload_n 1, 1) := by decide +kernel
theorem dX4_counts_7 : decode cX4_counts 7 = .ok (.iadd, 1) := by decide +kernel
theorem dX4_counts_8 : decode cX4_counts 8 = .ok (.dup2, 1) := by decide +kernel
theorem dX4_counts_9 : decode cX4_counts 9 = .ok (.iaload, 1) := by decide +kernel
theorem dX4_counts_10 : decode cX4_counts 10 = .ok (.iconst 1, 1) := by decide +kernel
theorem dX4_counts_11 : decode cX4_counts 11 = .ok (.iadd, 1) := by decide +kernel
theorem dX4_counts_12 : decode cX4_counts 12 = .ok (.iastore, 1) := by decide +kernel
theorem dX4_counts_13 : decode cX4_counts 13 = .ok (.return_, 1) := by decide +kernel
theorem dX4_thing_0 : decode cX4_thing 0 = .ok (.bipush 37, 2) := by decide +kernel
theorem dX4_thing_2 : decode cX4_thing 2 = .ok (.iconst 4, 1) := by decide +kernel
theorem dX4_thing_3 : decode cX4_thing 3 = .ok (.iload_n 0, 1) := by decide +kernel
theorem dX4_thing_4 : decode cX4_thing 4 = .ok (.imul, 1) := by decide +kernel
theorem dX4_thing_5 : decode cX4_thing 5 = .ok (.iadd, 1) := by decide +kernel
theorem dX4_thing_6 : decode cX4_thing 6 = .ok (.iload_n 1, 1) := by decide +kernel
theorem dX4_thing_7 : decode cX4_thing 7 = .ok (.iadd, 1) := by decide +kernel
theorem dX4_thing_8 : decode cX4_thing 8 = .ok (.ireturn, 1) := by decide +kernel
theorem dX4_entry_0 : decode cX4_entry 0 = .ok (.bipush 118, 2) := by decide +kernel
theorem dX4_entry_2 : decode cX4_entry 2 = .ok (.bipush 6, 2) := by decide +kernel
theorem dX4_entry_4 : decode cX4_entry 4 = .ok (.iload_n 0, 1) := by decide +kernel
theorem dX4_entry_5 : decode cX4_entry 5 = .ok (.imul, 1) := by decide +kernel
theorem dX4_entry_6 : decode cX4_entry 6 = .ok (.iadd, 1) := by decide +kernel
theorem dX4_entry_7 : decode cX4_entry 7 = .ok (.iload_n 1, 1) := by decide +kernel
theorem dX4_entry_8 : decode cX4_entry 8 = .ok (.iadd, 1) := by decide +kernel
theorem dX4_entry_9 : decode cX4_entry 9 = .ok (.ireturn, 1) := by decide +kernel
set_option maxRecDepth 20000 in
theorem ggX4_itemOf_X4_thing : GoodIn wsX4_itemOf wsX4_thing := goodIn_r _ [5] (by decide +kernel) (by decide +kernel)
set_option maxRecDepth 20000 in
theorem gX4_itemOf_X4_thing : GoodIn wsX4_itemOf (va_wsS RX4 33 yX4_thing wsX4_thing) := goodIn_app (goodIn_of _ (by decide +kernel)) ggX4_itemOf_X4_thing
theorem dX4_itemOf_0 : decode cX4_itemOf 0 = .ok (.iconst (-1), 1) := by decide +kernel
theorem dX4_itemOf_1 : decode cX4_itemOf 1 = .ok (.istore_n 2, 1) := by decide +kernel
theorem dX4_itemOf_2 : decode cX4_itemOf 2 = .ok (.iconst 0, 1) := by decide +kernel
theorem dX4_itemOf_3 : decode cX4_itemOf 3 = .ok (.istore_n 3, 1) := by decide +kernel
theorem dX4_itemOf_4 : decode cX4_itemOf 4 = .ok (.iload_n 3, 1) := by decide +kernel
theorem dX4_itemOf_5 : decode cX4_itemOf 5 = .ok (.aload_n 0, 1) := by decide +kernel
theorem dX4_itemOf_6 : decode cX4_itemOf 6 = .ok (.getfield 7, 3) := by decide +kernel
theorem dX4_itemOf_9 : decode cX4_itemOf 9 = .ok (.bipush 36, 2) := by decide +kernel
theorem dX4_itemOf_11 : decode cX4_itemOf 11 = .ok (.iaload, 1) := by decide +kernel
theorem dX4_itemOf_12 : decode cX4_itemOf 12 = .ok (.if_icmp .ge 29, 3) := by decide +kernel
theorem dX4_itemOf_15 : decode cX4_itemOf 15 = .ok (.aload_n 0, 1) := by decide +kernel
theorem dX4_itemOf_16 : decode cX4_itemOf 16 = .ok (.getfield 7, 3) := by decide +kernel
theorem dX4_itemOf_19 : decode cX4_itemOf 19 = .ok (.iload_n 3, 1) := by decide +kernel
theorem dX4_itemOf_20 : decode cX4_itemOf 20 = .ok (.iconst 0, 1) := by decide +kernel
theorem dX4_itemOf_21 : decode cX4_itemOf 21 = .ok (.invokestatic 33, 3) := by decide +kernel
theorem dX4_itemOf_24 : decode cX4_itemOf 24 = .ok (.iaload, 1) := by decide +kernel
theorem dX4_itemOf_25 : decode cX4_itemOf 25 = .ok (.iload_n 1, 1) := by decide +kernel
theorem dX4_itemOf_26 : decode cX4_itemOf 26 = .ok (.if_icmp .ne 7, 3) := by decide +kernel
theorem dX4_itemOf_29 : decode cX4_itemOf 29 = .ok (.iload_n 3, 1) := by decide +kernel
theorem dX4_itemOf_30 : decode cX4_itemOf 30 = .ok (.goto 4, 3) := by decide +kernel
theorem dX4_itemOf_33 : decode cX4_itemOf 33 = .ok (.iload_n 2, 1) := by decide +kernel
theorem dX4_itemOf_34 : decode cX4_itemOf 34 = .ok (.istore_n 2, 1) := by decide +kernel
theorem dX4_itemOf_35 : decode cX4_itemOf 35 = .ok (.iinc 3 1, 3) := by decide +kernel
theorem dX4_itemOf_38 : decode cX4_itemOf 38 = .ok (.goto (-34), 3) := by decide +kernel
theorem dX4_itemOf_41 : decode cX4_itemOf 41 = .ok (.iload_n 2, 1) := by decide +kernel
theorem dX4_itemOf_42 : decode cX4_itemOf 42 = .ok (.ireturn, 1) := by decide +kernel
set_option maxRecDepth 20000 in
theorem ggX4_recordOf_X4_entry : GoodIn wsX4_recordOf wsX4_entry := goodIn_r _ [5] (by decide +kernel) (by decide +kernel)
set_option maxRecDepth 20000 in
theorem gX4_recordOf_X4_entry : GoodIn wsX4_recordOf (va_wsS RX4 37 yX4_entry wsX4_entry) := goodIn_app (goodIn_of _ (by decide +kernel)) ggX4_recordOf_X4_entry
theorem dX4_recordOf_0 : decode cX4_recordOf 0 = .ok (.iconst (-1), 1) := by decide +kernel
theorem dX4_recordOf_1 : decode cX4_recordOf 1 = .ok (.istore_n 2, 1) := by decide +kernel
theorem dX4_recordOf_2 : decode cX4_recordOf 2 = .ok (.iconst 0, 1) := by decide +kernel
theorem dX4_recordOf_3 : decode cX4_recordOf 3 = .ok (.istore_n 3, 1) := by decide +kernel
theorem dX4_recordOf_4 : decode cX4_recordOf 4 = .ok (.iload_n 3, 1) := by decide +kernel
theorem dX4_recordOf_5 : decode cX4_recordOf 5 = .ok (.aload_n 0, 1) := by decide +kernel
theorem dX4_recordOf_6 : decode cX4_recordOf 6 = .ok (.getfield 7, 3) := by decide +kernel
theorem dX4_recordOf_9 : decode cX4_recordOf 9 = .ok (.bipush 117, 2) := by decide +kernel
theorem dX4_recordOf_11 : decode cX4_recordOf 11 = .ok (.iaload, 1) := by decide +kernel
theorem dX4_recordOf_12 : decode cX4_recordOf 12 = .ok (.if_icmp .ge 29, 3) := by decide +kernel
theorem dX4_recordOf_15 : decode cX4_recordOf 15 = .ok (.aload_n 0, 1) := by decide +kernel
theorem dX4_recordOf_16 : decode cX4_recordOf 16 = .ok (.getfield 7, 3) := by decide +kernel
theorem dX4_recordOf_19 : decode cX4_recordOf 19 = .ok (.iload_n 3, 1) := by decide +kernel
theorem dX4_recordOf_20 : decode cX4_recordOf 20 = .ok (.iconst 0, 1) := by decide +kernel
theorem dX4_recordOf_21 : decode cX4_recordOf 21 = .ok (.invokestatic 37, 3) := by decide +kernel
theorem dX4_recordOf_24 : decode cX4_recordOf 24 = .ok (.iaload, 1) := by decide +kernel
theorem dX4_recordOf_25 : decode cX4_recordOf 25 = .ok (.iload_n 1, 1) := by decide +kernel
theorem dX4_recordOf_26 : decode cX4_recordOf 26 = .ok (.if_icmp .ne 7, 3) := by decide +kernel
theorem dX4_recordOf_29 : decode cX4_recordOf 29 = .ok (.iload_n 3, 1) := by decide +kernel
theorem dX4_recordOf_30 : decode cX4_recordOf 30 = .ok (.goto 4, 3) := by decide +kernel
theorem dX4_recordOf_33 : decode cX4_recordOf 33 = .ok (.iload_n 2, 1) := by decide +kernel
theorem dX4_recordOf_34 : decode cX4_recordOf 34 = .ok (.istore_n 2, 1) := by decide +kernel
theorem dX4_recordOf_35 : decode cX4_recordOf 35 = .ok (.iinc 3 1, 3) := by decide +kernel
theorem dX4_recordOf_38 : decode cX4_recordOf 38 = .ok (.goto (-34), 3) := by decide +kernel
theorem dX4_recordOf_41 : decode cX4_recordOf 41 = .ok (.iload_n 2, 1) := by decide +kernel
theorem dX4_recordOf_42 : decode cX4_recordOf 42 = .ok (.ireturn, 1) := by decide +kernel
set_option maxRecDepth 20000 in
theorem ggX4_isSetting_X4_within : GoodIn wsX4_isSetting wsX4_within := goodIn_r _ [4] (by decide +kernel) (by decide +kernel)
set_option maxRecDepth 20000 in
theorem gX4_isSetting_X4_within : GoodIn wsX4_isSetting (va_wsS RX4 40 yX4_within wsX4_within) := goodIn_app (goodIn_of _ (by decide +kernel)) ggX4_isSetting_X4_within
theorem dX4_isSetting_0 : decode cX4_isSetting 0 = .ok (.iload_n 0, 1) := by decide +kernel
theorem dX4_isSetting_1 : decode cX4_isSetting 1 = .ok (.tableswitch 79 0 5 #[39, 47, 55, 47, 63, 71], 39) := by decide +kernel
theorem dX4_isSetting_40 : decode cX4_isSetting 40 = .ok (.iload_n 1, 1) := by decide +kernel
theorem dX4_isSetting_41 : decode cX4_isSetting 41 = .ok (.iconst 1, 1) := by decide +kernel
theorem dX4_isSetting_42 : decode cX4_isSetting 42 = .ok (.bipush 10, 2) := by decide +kernel
theorem dX4_isSetting_44 : decode cX4_isSetting 44 = .ok (.invokestatic 40, 3) := by decide +kernel
theorem dX4_isSetting_47 : decode cX4_isSetting 47 = .ok (.ireturn, 1) := by decide +kernel
theorem dX4_isSetting_48 : decode cX4_isSetting 48 = .ok (.iload_n 1, 1) := by decide +kernel
theorem dX4_isSetting_49 : decode cX4_isSetting 49 = .ok (.iconst 1, 1) := by decide +kernel
theorem dX4_isSetting_50 : decode cX4_isSetting 50 = .ok (.bipush 100, 2) := by decide +kernel
theorem dX4_isSetting_52 : decode cX4_isSetting 52 = .ok (.invokestatic 40, 3) := by decide +kernel
theorem dX4_isSetting_55 : decode cX4_isSetting 55 = .ok (.ireturn, 1) := by decide +kernel
theorem dX4_isSetting_56 : decode cX4_isSetting 56 = .ok (.iload_n 1, 1) := by decide +kernel
theorem dX4_isSetting_57 : decode cX4_isSetting 57 = .ok (.iconst 1, 1) := by decide +kernel
theorem dX4_isSetting_58 : decode cX4_isSetting 58 = .ok (.bipush 50, 2) := by decide +kernel
theorem dX4_isSetting_60 : decode cX4_isSetting 60 = .ok (.invokestatic 40, 3) := by decide +kernel
theorem dX4_isSetting_63 : decode cX4_isSetting 63 = .ok (.ireturn, 1) := by decide +kernel
theorem dX4_isSetting_64 : decode cX4_isSetting 64 = .ok (.iload_n 1, 1) := by decide +kernel
theorem dX4_isSetting_65 : decode cX4_isSetting 65 = .ok (.iconst 1, 1) := by decide +kernel
theorem dX4_isSetting_66 : decode cX4_isSetting 66 = .ok (.bipush 20, 2) := by decide +kernel
theorem dX4_isSetting_68 : decode cX4_isSetting 68 = .ok (.invokestatic 40, 3) := by decide +kernel
theorem dX4_isSetting_71 : decode cX4_isSetting 71 = .ok (.ireturn, 1) := by decide +kernel
theorem dX4_isSetting_72 : decode cX4_isSetting 72 = .ok (.iload_n 1, 1) := by decide +kernel
theorem dX4_isSetting_73 : decode cX4_isSetting 73 = .ok (.iconst 0, 1) := by decide +kernel
theorem dX4_isSetting_74 : decode cX4_isSetting 74 = .ok (.bipush 20, 2) := by decide +kernel
theorem dX4_isSetting_76 : decode cX4_isSetting 76 = .ok (.invokestatic 40, 3) := by decide +kernel
theorem dX4_isSetting_79 : decode cX4_isSetting 79 = .ok (.ireturn, 1) := by decide +kernel
theorem dX4_isSetting_80 : decode cX4_isSetting 80 = .ok (.iload_n 0, 1) := by decide +kernel
theorem dX4_isSetting_81 : decode cX4_isSetting 81 = .ok (.bipush 6, 2) := by decide +kernel
theorem dX4_isSetting_83 : decode cX4_isSetting 83 = .ok (.if_icmp .ne 18, 3) := by decide +kernel
theorem dX4_isSetting_86 : decode cX4_isSetting 86 = .ok (.iload_n 1, 1) := by decide +kernel
theorem dX4_isSetting_87 : decode cX4_isSetting 87 = .ok (.iconst 0, 1) := by decide +kernel
theorem dX4_isSetting_88 : decode cX4_isSetting 88 = .ok (.sipush 1000, 3) := by decide +kernel
theorem dX4_isSetting_91 : decode cX4_isSetting 91 = .ok (.invokestatic 40, 3) := by decide +kernel
theorem dX4_isSetting_94 : decode cX4_isSetting 94 = .ok (.ifCond .eq 7, 3) := by decide +kernel
theorem dX4_isSetting_97 : decode cX4_isSetting 97 = .ok (.iconst 1, 1) := by decide +kernel
theorem dX4_isSetting_98 : decode cX4_isSetting 98 = .ok (.goto 4, 3) := by decide +kernel
theorem dX4_isSetting_101 : decode cX4_isSetting 101 = .ok (.iconst 0, 1) := by decide +kernel
theorem dX4_isSetting_102 : decode cX4_isSetting 102 = .ok (.ireturn, 1) := by decide +kernel
set_option maxRecDepth 20000 in
theorem ggX4_setPlaces_X4_refused : GoodIn wsX4_setPlaces wsX4_refused := goodIn_r _ [6, 7, 14, 15, 16, 17, 18, 19, 20, 21] (by decide +kernel) (by decide +kernel)
set_option maxRecDepth 20000 in
theorem gX4_setPlaces_X4_refused : GoodIn wsX4_setPlaces (wsV RX4 29 RX4 yX4_refused wsX4_refused) := goodIn_app (goodIn_of _ (by decide +kernel)) ggX4_setPlaces_X4_refused
set_option maxRecDepth 20000 in
theorem ggX4_setPlaces_X4_saves : GoodIn wsX4_setPlaces wsX4_saves := goodIn_r _ [11, 12, 13, 1, 14, 15, 16, 17, 18, 19, 20, 21] (by decide +kernel) (by decide +kernel)
set_option maxRecDepth 20000 in
theorem gX4_setPlaces_X4_saves : GoodIn wsX4_setPlaces (wsV RX4 44 RX4 yX4_saves wsX4_saves) := goodIn_app (goodIn_of _ (by decide +kernel)) ggX4_setPlaces_X4_saves
theorem dX4_setPlaces_0 : decode cX4_setPlaces 0 = .ok (.iload_n 1, 1) := by decide +kernel
theorem dX4_setPlaces_1 : decode cX4_setPlaces 1 = .ok (.iconst 1, 1) := by decide +kernel
theorem dX4_setPlaces_2 : decode cX4_setPlaces 2 = .ok (.if_icmp .lt 38, 3) := by decide +kernel
theorem dX4_setPlaces_5 : decode cX4_setPlaces 5 = .ok (.iload_n 1, 1) := by decide +kernel
theorem dX4_setPlaces_6 : decode cX4_setPlaces 6 = .ok (.iload_n 2, 1) := by decide +kernel
theorem dX4_setPlaces_7 : decode cX4_setPlaces 7 = .ok (.if_icmp .ge 33, 3) := by decide +kernel
theorem dX4_setPlaces_10 : decode cX4_setPlaces 10 = .ok (.iload_n 2, 1) := by decide +kernel
theorem dX4_setPlaces_11 : decode cX4_setPlaces 11 = .ok (.iload_n 3, 1) := by decide +kernel
theorem dX4_setPlaces_12 : decode cX4_setPlaces 12 = .ok (.if_icmp .ge 28, 3) := by decide +kernel
theorem dX4_setPlaces_15 : decode cX4_setPlaces 15 = .ok (.iload_n 3, 1) := by decide +kernel
theorem dX4_setPlaces_16 : decode cX4_setPlaces 16 = .ok (.iload 4, 2) := by decide +kernel
theorem dX4_setPlaces_18 : decode cX4_setPlaces 18 = .ok (.if_icmp .ge 22, 3) := by decide +kernel
theorem dX4_setPlaces_21 : decode cX4_setPlaces 21 = .ok (.iload 4, 2) := by decide +kernel
theorem dX4_setPlaces_23 : decode cX4_setPlaces 23 = .ok (.iload 5, 2) := by decide +kernel
theorem dX4_setPlaces_25 : decode cX4_setPlaces 25 = .ok (.if_icmp .ge 15, 3) := by decide +kernel
theorem dX4_setPlaces_28 : decode cX4_setPlaces 28 = .ok (.iload 5, 2) := by decide +kernel
theorem dX4_setPlaces_30 : decode cX4_setPlaces 30 = .ok (.sipush 1000, 3) := by decide +kernel
theorem dX4_setPlaces_33 : decode cX4_setPlaces 33 = .ok (.if_icmp .gt 7, 3) := by decide +kernel
theorem dX4_setPlaces_36 : decode cX4_setPlaces 36 = .ok (.iconst 1, 1) := by decide +kernel
theorem dX4_setPlaces_37 : decode cX4_setPlaces 37 = .ok (.goto 4, 3) := by decide +kernel
theorem dX4_setPlaces_40 : decode cX4_setPlaces 40 = .ok (.iconst 0, 1) := by decide +kernel
theorem dX4_setPlaces_41 : decode cX4_setPlaces 41 = .ok (.istore 6, 2) := by decide +kernel
theorem dX4_setPlaces_43 : decode cX4_setPlaces 43 = .ok (.aload_n 0, 1) := by decide +kernel
theorem dX4_setPlaces_44 : decode cX4_setPlaces 44 = .ok (.iload 6, 2) := by decide +kernel
theorem dX4_setPlaces_46 : decode cX4_setPlaces 46 = .ok (.ifCond .ne 7, 3) := by decide +kernel
theorem dX4_setPlaces_49 : decode cX4_setPlaces 49 = .ok (.iconst 1, 1) := by decide +kernel
theorem dX4_setPlaces_50 : decode cX4_setPlaces 50 = .ok (.goto 28, 3) := by decide +kernel
theorem dX4_setPlaces_53 : decode cX4_setPlaces 53 = .ok (.aload_n 0, 1) := by decide +kernel
theorem dX4_setPlaces_54 : decode cX4_setPlaces 54 = .ok (.getfield 7, 3) := by decide +kernel
theorem dX4_setPlaces_57 : decode cX4_setPlaces 57 = .ok (.bipush 36, 2) := by decide +kernel
theorem dX4_setPlaces_59 : decode cX4_setPlaces 59 = .ok (.iaload, 1) := by decide +kernel
theorem dX4_setPlaces_60 : decode cX4_setPlaces 60 = .ok (.ifCond .gt 13, 3) := by decide +kernel
theorem dX4_setPlaces_63 : decode cX4_setPlaces 63 = .ok (.aload_n 0, 1) := by decide +kernel
theorem dX4_setPlaces_64 : decode cX4_setPlaces 64 = .ok (.getfield 7, 3) := by decide +kernel
theorem dX4_setPlaces_67 : decode cX4_setPlaces 67 = .ok (.bipush 117, 2) := by decide +kernel
theorem dX4_setPlaces_69 : decode cX4_setPlaces 69 = .ok (.iaload, 1) := by decide +kernel
theorem dX4_setPlaces_70 : decode cX4_setPlaces 70 = .ok (.ifCond .le 7, 3) := by decide +kernel
theorem dX4_setPlaces_73 : decode cX4_setPlaces 73 = .ok (.iconst 2, 1) := by decide +kernel
theorem dX4_setPlaces_74 : decode cX4_setPlaces 74 = .ok (.goto 4, 3) := by decide +kernel
theorem dX4_setPlaces_77 : decode cX4_setPlaces 77 = .ok (.iconst 0, 1) := by decide +kernel
theorem dX4_setPlaces_78 : decode cX4_setPlaces 78 = .ok (.invokevirtual 29, 3) := by decide +kernel
theorem dX4_setPlaces_81 : decode cX4_setPlaces 81 = .ok (.ifCond .eq 5, 3) := by decide +kernel
theorem dX4_setPlaces_84 : decode cX4_setPlaces 84 = .ok (.iconst 0, 1) := by decide +kernel
theorem dX4_setPlaces_85 : decode cX4_setPlaces 85 = .ok (.ireturn, 1) := by decide +kernel
theorem dX4_setPlaces_86 : decode cX4_setPlaces 86 = .ok (.aload_n 0, 1) := by decide +kernel
theorem dX4_setPlaces_87 : decode cX4_setPlaces 87 = .ok (.invokevirtual 44, 3) := by decide +kernel
theorem dX4_setPlaces_90 : decode cX4_setPlaces 90 = .ok (.aload_n 0, 1) := by decide +kernel
theorem dX4_setPlaces_91 : decode cX4_setPlaces 91 = .ok (.getfield 7, 3) := by decide +kernel
theorem dX4_setPlaces_94 : decode cX4_setPlaces 94 = .ok (.bipush 11, 2) := by decide +kernel
theorem dX4_setPlaces_96 : decode cX4_setPlaces 96 = .ok (.iaload, 1) := by decide +kernel
theorem dX4_setPlaces_97 : decode cX4_setPlaces 97 = .ok (.istore 7, 2) := by decide +kernel
theorem dX4_setPlaces_99 : decode cX4_setPlaces 99 = .ok (.aload_n 0, 1) := by decide +kernel
theorem dX4_setPlaces_100 : decode cX4_setPlaces 100 = .ok (.getfield 7, 3) := by decide +kernel
theorem dX4_setPlaces_103 : decode cX4_setPlaces 103 = .ok (.bipush 7, 2) := by decide +kernel
theorem dX4_setPlaces_105 : decode cX4_setPlaces 105 = .ok (.iload_n 1, 1) := by decide +kernel
theorem dX4_setPlaces_106 : decode cX4_setPlaces 106 = .ok (.iastore, 1) := by decide +kernel
theorem dX4_setPlaces_107 : decode cX4_setPlaces 107 = .ok (.aload_n 0, 1) := by decide +kernel
theorem dX4_setPlaces_108 : decode cX4_setPlaces 108 = .ok (.getfield 7, 3) := by decide +kernel
theorem dX4_setPlaces_111 : decode cX4_setPlaces 111 = .ok (.bipush 8, 2) := by decide +kernel
theorem dX4_setPlaces_113 : decode cX4_setPlaces 113 = .ok (.iload_n 2, 1) := by decide +kernel
theorem dX4_setPlaces_114 : decode cX4_setPlaces 114 = .ok (.iastore, 1) := by decide +kernel
theorem dX4_setPlaces_115 : decode cX4_setPlaces 115 = .ok (.aload_n 0, 1) := by decide +kernel
theorem dX4_setPlaces_116 : decode cX4_setPlaces 116 = .ok (.getfield 7, 3) := by decide +kernel
theorem dX4_setPlaces_119 : decode cX4_setPlaces 119 = .ok (.bipush 9, 2) := by decide +kernel
theorem dX4_setPlaces_121 : decode cX4_setPlaces 121 = .ok (.iload_n 3, 1) := by decide +kernel
theorem dX4_setPlaces_122 : decode cX4_setPlaces 122 = .ok (.iastore, 1) := by decide +kernel
theorem dX4_setPlaces_123 : decode cX4_setPlaces 123 = .ok (.aload_n 0, 1) := by decide +kernel
theorem dX4_setPlaces_124 : decode cX4_setPlaces 124 = .ok (.getfield 7, 3) := by decide +kernel
theorem dX4_setPlaces_127 : decode cX4_setPlaces 127 = .ok (.bipush 10, 2) := by decide +kernel
theorem dX4_setPlaces_129 : decode cX4_setPlaces 129 = .ok (.iload 4, 2) := by decide +kernel
theorem dX4_setPlaces_131 : decode cX4_setPlaces 131 = .ok (.iastore, 1) := by decide +kernel
theorem dX4_setPlaces_132 : decode cX4_setPlaces 132 = .ok (.aload_n 0, 1) := by decide +kernel
theorem dX4_setPlaces_133 : decode cX4_setPlaces 133 = .ok (.getfield 7, 3) := by decide +kernel
theorem dX4_setPlaces_136 : decode cX4_setPlaces 136 = .ok (.bipush 11, 2) := by decide +kernel
theorem dX4_setPlaces_138 : decode cX4_setPlaces 138 = .ok (.iload 5, 2) := by decide +kernel
theorem dX4_setPlaces_140 : decode cX4_setPlaces 140 = .ok (.iastore, 1) := by decide +kernel
theorem dX4_setPlaces_141 : decode cX4_setPlaces 141 = .ok (.iload 7, 2) := by decide +kernel
theorem dX4_setPlaces_143 : decode cX4_setPlaces 143 = .ok (.ireturn, 1) := by decide +kernel
set_option maxRecDepth 20000 in
theorem ggX4_set_X4_isSetting : GoodIn wsX4_set wsX4_isSetting := goodIn_r _ [5, 6, 7, 4, 8] (by decide +kernel) (by decide +kernel)
set_option maxRecDepth 20000 in
theorem gX4_set_X4_isSetting : GoodIn wsX4_set (va_wsS RX4 47 yX4_isSetting wsX4_isSetting) := goodIn_app (goodIn_of _ (by decide +kernel)) ggX4_set_X4_isSetting
set_option maxRecDepth 20000 in
theorem ggX4_set_X4_refused : GoodIn wsX4_set wsX4_refused := goodIn_r _ [12, 13, 20, 21, 22, 23, 24, 25, 26, 27] (by decide +kernel) (by decide +kernel)
set_option maxRecDepth 20000 in
theorem gX4_set_X4_refused : GoodIn wsX4_set (wsV RX4 29 RX4 yX4_refused wsX4_refused) := goodIn_app (goodIn_of _ (by decide +kernel)) ggX4_set_X4_refused
set_option maxRecDepth 20000 in
theorem ggX4_set_X4_saves : GoodIn wsX4_set wsX4_saves := goodIn_r _ [17, 18, 19, 1, 20, 21, 22, 23, 24, 25, 26, 27] (by decide +kernel) (by decide +kernel)
set_option maxRecDepth 20000 in
theorem gX4_set_X4_saves : GoodIn wsX4_set (wsV RX4 44 RX4 yX4_saves wsX4_saves) := goodIn_app (goodIn_of _ (by decide +kernel)) ggX4_set_X4_saves
theorem dX4_set_0 : decode cX4_set 0 = .ok (.aload_n 0, 1) := by decide +kernel
theorem dX4_set_1 : decode cX4_set 1 = .ok (.iload_n 1, 1) := by decide +kernel
theorem dX4_set_2 : decode cX4_set 2 = .ok (.iload_n 2, 1) := by decide +kernel
theorem dX4_set_3 : decode cX4_set 3 = .ok (.invokestatic 47, 3) := by decide +kernel
theorem dX4_set_6 : decode cX4_set 6 = .ok (.ifCond .eq 7, 3) := by decide +kernel
theorem dX4_set_9 : decode cX4_set 9 = .ok (.iconst 0, 1) := by decide +kernel
theorem dX4_set_10 : decode cX4_set 10 = .ok (.goto 4, 3) := by decide +kernel
theorem dX4_set_13 : decode cX4_set 13 = .ok (.iconst 1, 1) := by decide +kernel
theorem dX4_set_14 : decode cX4_set 14 = .ok (.invokevirtual 29, 3) := by decide +kernel
theorem dX4_set_17 : decode cX4_set 17 = .ok (.ifCond .eq 5, 3) := by decide +kernel
theorem dX4_set_20 : decode cX4_set 20 = .ok (.iconst 0, 1) := by decide +kernel
theorem dX4_set_21 : decode cX4_set 21 = .ok (.ireturn, 1) := by decide +kernel
theorem dX4_set_22 : decode cX4_set 22 = .ok (.aload_n 0, 1) := by decide +kernel
theorem dX4_set_23 : decode cX4_set 23 = .ok (.invokevirtual 44, 3) := by decide +kernel
theorem dX4_set_26 : decode cX4_set 26 = .ok (.aload_n 0, 1) := by decide +kernel
theorem dX4_set_27 : decode cX4_set 27 = .ok (.getfield 7, 3) := by decide +kernel
theorem dX4_set_30 : decode cX4_set 30 = .ok (.iload_n 1, 1) := by decide +kernel
theorem dX4_set_31 : decode cX4_set 31 = .ok (.iaload, 1) := by decide +kernel
theorem dX4_set_32 : decode cX4_set 32 = .ok (.istore_n 3, 1) := by decide +kernel
theorem dX4_set_33 : decode cX4_set 33 = .ok (.aload_n 0, 1) := by decide +kernel
theorem dX4_set_34 : decode cX4_set 34 = .ok (.getfield 7, 3) := by decide +kernel
theorem dX4_set_37 : decode cX4_set 37 = .ok (.iload_n 1, 1) := by decide +kernel
theorem dX4_set_38 : decode cX4_set 38 = .ok (.iload_n 2, 1) := by decide +kernel
theorem dX4_set_39 : decode cX4_set 39 = .ok (.iastore, 1) := by decide +kernel
theorem dX4_set_40 : decode cX4_set 40 = .ok (.iload_n 3, 1) := by decide +kernel
theorem dX4_set_41 : decode cX4_set 41 = .ok (.ireturn, 1) := by decide +kernel
set_option maxRecDepth 20000 in
theorem ggX4_value_X4_within : GoodIn wsX4_value wsX4_within := goodIn_r _ [5] (by decide +kernel) (by decide +kernel)
set_option maxRecDepth 20000 in
theorem gX4_value_X4_within : GoodIn wsX4_value (va_wsS RX4 40 yX4_within wsX4_within) := goodIn_app (goodIn_of _ (by decide +kernel)) ggX4_value_X4_within
set_option maxRecDepth 20000 in
theorem ggX4_value_X4_refused : GoodIn wsX4_value wsX4_refused := goodIn_r _ [9, 10, 11, 12, 13, 14, 15, 16, 17, 18] (by decide +kernel) (by decide +kernel)
set_option maxRecDepth 20000 in
theorem gX4_value_X4_refused : GoodIn wsX4_value (wsV RX4 29 RX4 yX4_refused wsX4_refused) := goodIn_app (goodIn_of _ (by decide +kernel)) ggX4_value_X4_refused
theorem dX4_value_0 : decode cX4_value 0 = .ok (.aload_n 0, 1) := by decide +kernel
theorem dX4_value_1 : decode cX4_value 1 = .ok (.iload_n 1, 1) := by decide +kernel
theorem dX4_value_2 : decode cX4_value 2 = .ok (.iconst 0, 1) := by decide +kernel
theorem dX4_value_3 : decode cX4_value 3 = .ok (.bipush 12, 2) := by decide +kernel
theorem dX4_value_5 : decode cX4_value 5 = .ok (.invokestatic 40, 3) := by decide +kernel
theorem dX4_value_8 : decode cX4_value 8 = .ok (.ifCond .eq 7, 3) := by decide +kernel
theorem dX4_value_11 : decode cX4_value 11 = .ok (.iconst 0, 1) := by decide +kernel
theorem dX4_value_12 : decode cX4_value 12 = .ok (.goto 4, 3) := by decide +kernel
theorem dX4_value_15 : decode cX4_value 15 = .ok (.iconst 1, 1) := by decide +kernel
theorem dX4_value_16 : decode cX4_value 16 = .ok (.invokevirtual 29, 3) := by decide +kernel
theorem dX4_value_19 : decode cX4_value 19 = .ok (.ifCond .eq 7, 3) := by decide +kernel
theorem dX4_value_22 : decode cX4_value 22 = .ok (.iconst 0, 1) := by decide +kernel
theorem dX4_value_23 : decode cX4_value 23 = .ok (.goto 9, 3) := by decide +kernel
theorem dX4_value_26 : decode cX4_value 26 = .ok (.aload_n 0, 1) := by decide +kernel
theorem dX4_value_27 : decode cX4_value 27 = .ok (.getfield 7, 3) := by decide +kernel
theorem dX4_value_30 : decode cX4_value 30 = .ok (.iload_n 1, 1) := by decide +kernel
theorem dX4_value_31 : decode cX4_value 31 = .ok (.iaload, 1) := by decide +kernel
theorem dX4_value_32 : decode cX4_value 32 = .ok (.ireturn, 1) := by decide +kernel
set_option maxRecDepth 20000 in
theorem ggX4_jam_X4_saves : GoodIn wsX4_jam wsX4_saves := goodIn_r _ [7, 8, 9, 2, 10, 11, 12, 13, 14, 15, 16, 17] (by decide +kernel) (by decide +kernel)
set_option maxRecDepth 20000 in
theorem gX4_jam_X4_saves : GoodIn wsX4_jam (wsV RX4 44 RX4 yX4_saves wsX4_saves) := goodIn_app (goodIn_of _ (by decide +kernel)) ggX4_jam_X4_saves
theorem dX4_jam_0 : decode cX4_jam 0 = .ok (.aload_n 0, 1) := by decide +kernel
theorem dX4_jam_1 : decode cX4_jam 1 = .ok (.iconst 0, 1) := by decide +kernel
theorem dX4_jam_2 : decode cX4_jam 2 = .ok (.putfield 22, 3) := by decide +kernel
theorem dX4_jam_5 : decode cX4_jam 5 = .ok (.aload_n 0, 1) := by decide +kernel
theorem dX4_jam_6 : decode cX4_jam 6 = .ok (.invokevirtual 44, 3) := by decide +kernel
theorem dX4_jam_9 : decode cX4_jam 9 = .ok (.aload_n 0, 1) := by decide +kernel
theorem dX4_jam_10 : decode cX4_jam 10 = .ok (.getfield 7, 3) := by decide +kernel
theorem dX4_jam_13 : decode cX4_jam 13 = .ok (.bipush 13, 2) := by decide +kernel
theorem dX4_jam_15 : decode cX4_jam 15 = .ok (.iaload, 1) := by decide +kernel
theorem dX4_jam_16 : decode cX4_jam 16 = .ok (.iconst 1, 1) := by decide +kernel
theorem dX4_jam_17 : decode cX4_jam 17 = .ok (.if_icmp .ne 7, 3) := by decide +kernel
theorem dX4_jam_20 : decode cX4_jam 20 = .ok (.iconst 1, 1) := by decide +kernel
theorem dX4_jam_21 : decode cX4_jam 21 = .ok (.goto 4, 3) := by decide +kernel
theorem dX4_jam_24 : decode cX4_jam 24 = .ok (.iconst 0, 1) := by decide +kernel
theorem dX4_jam_25 : decode cX4_jam 25 = .ok (.istore_n 2, 1) := by decide +kernel
theorem dX4_jam_26 : decode cX4_jam 26 = .ok (.aload_n 0, 1) := by decide +kernel
theorem dX4_jam_27 : decode cX4_jam 27 = .ok (.getfield 7, 3) := by decide +kernel
theorem dX4_jam_30 : decode cX4_jam 30 = .ok (.bipush 13, 2) := by decide +kernel
theorem dX4_jam_32 : decode cX4_jam 32 = .ok (.iload_n 1, 1) := by decide +kernel
theorem dX4_jam_33 : decode cX4_jam 33 = .ok (.ifCond .eq 7, 3) := by decide +kernel
theorem dX4_jam_36 : decode cX4_jam 36 = .ok (.iconst 1, 1) := by decide +kernel
theorem dX4_jam_37 : decode cX4_jam 37 = .ok (.goto 4, 3) := by decide +kernel
theorem dX4_jam_40 : decode cX4_jam 40 = .ok (.iconst 0, 1) := by decide +kernel
theorem dX4_jam_41 : decode cX4_jam 41 = .ok (.iastore, 1) := by decide +kernel
theorem dX4_jam_42 : decode cX4_jam 42 = .ok (.iload_n 2, 1) := by decide +kernel
theorem dX4_jam_43 : decode cX4_jam 43 = .ok (.ireturn, 1) := by decide +kernel
set_option maxRecDepth 20000 in
theorem ggX4_start_X4_refused : GoodIn wsX4_start wsX4_refused := goodIn_r _ [6, 7, 14, 15, 16, 17, 18, 19, 20, 21] (by decide +kernel) (by decide +kernel)
set_option maxRecDepth 20000 in
theorem gX4_start_X4_refused : GoodIn wsX4_start (wsV RX4 29 RX4 yX4_refused wsX4_refused) := goodIn_app (goodIn_of _ (by decide +kernel)) ggX4_start_X4_refused
set_option maxRecDepth 20000 in
theorem ggX4_start_X4_saves : GoodIn wsX4_start wsX4_saves := goodIn_r _ [11, 12, 13, 1, 14, 15, 16, 17, 18, 19, 20, 21] (by decide +kernel) (by decide +kernel)
set_option maxRecDepth 20000 in
theorem gX4_start_X4_saves : GoodIn wsX4_start (wsV RX4 44 RX4 yX4_saves wsX4_saves) := goodIn_app (goodIn_of _ (by decide +kernel)) ggX4_start_X4_saves
theorem dX4_start_0 : decode cX4_start 0 = .ok (.aload_n 0, 1) := by decide +kernel
theorem dX4_start_1 : decode cX4_start 1 = .ok (.aload_n 0, 1) := by decide +kernel
theorem dX4_start_2 : decode cX4_start 2 = .ok (.getfield 7, 3) := by decide +kernel
theorem dX4_start_5 : decode cX4_start 5 = .ok (.bipush 15, 2) := by decide +kernel
theorem dX4_start_7 : decode cX4_start 7 = .ok (.iaload, 1) := by decide +kernel
theorem dX4_start_8 : decode cX4_start 8 = .ok (.iconst 1, 1) := by decide +kernel
theorem dX4_start_9 : decode cX4_start 9 = .ok (.if_icmp .eq 13, 3) := by decide +kernel
theorem dX4_start_12 : decode cX4_start 12 = .ok (.aload_n 0, 1) := by decide +kernel
theorem dX4_start_13 : decode cX4_start 13 = .ok (.getfield 7, 3) := by decide +kernel
theorem dX4_start_16 : decode cX4_start 16 = .ok (.bipush 16, 2) := by decide +kernel
theorem dX4_start_18 : decode cX4_start 18 = .ok (.iaload, 1) := by decide +kernel
theorem dX4_start_19 : decode cX4_start 19 = .ok (.ifCond .eq 7, 3) := by decide +kernel
theorem dX4_start_22 : decode cX4_start 22 = .ok (.iconst 1, 1) := by decide +kernel
theorem dX4_start_23 : decode cX4_start 23 = .ok (.goto 4, 3) := by decide +kernel
theorem dX4_start_26 : decode cX4_start 26 = .ok (.iconst 0, 1) := by decide +kernel
theorem dX4_start_27 : decode cX4_start 27 = .ok (.invokevirtual 29, 3) := by decide +kernel
theorem dX4_start_30 : decode cX4_start 30 = .ok (.ifCond .eq 5, 3) := by decide +kernel
theorem dX4_start_33 : decode cX4_start 33 = .ok (.iconst 0, 1) := by decide +kernel
theorem dX4_start_34 : decode cX4_start 34 = .ok (.ireturn, 1) := by decide +kernel
theorem dX4_start_35 : decode cX4_start 35 = .ok (.aload_n 0, 1) := by decide +kernel
theorem dX4_start_36 : decode cX4_start 36 = .ok (.invokevirtual 44, 3) := by decide +kernel
theorem dX4_start_39 : decode cX4_start 39 = .ok (.aload_n 0, 1) := by decide +kernel
theorem dX4_start_40 : decode cX4_start 40 = .ok (.getfield 7, 3) := by decide +kernel
theorem dX4_start_43 : decode cX4_start 43 = .ok (.bipush 15, 2) := by decide +kernel
theorem dX4_start_45 : decode cX4_start 45 = .ok (.iconst 1, 1) := by decide +kernel
theorem dX4_start_46 : decode cX4_start 46 = .ok (.iastore, 1) := by decide +kernel
theorem dX4_start_47 : decode cX4_start 47 = .ok (.aload_n 0, 1) := by decide +kernel
theorem dX4_start_48 : decode cX4_start 48 = .ok (.getfield 7, 3) := by decide +kernel
theorem dX4_start_51 : decode cX4_start 51 = .ok (.bipush 36, 2) := by decide +kernel
theorem dX4_start_53 : decode cX4_start 53 = .ok (.iaload, 1) := by decide +kernel
theorem dX4_start_54 : decode cX4_start 54 = .ok (.ireturn, 1) := by decide +kernel
set_option maxRecDepth 20000 in
theorem ggX4_stop_X4_refused : GoodIn wsX4_stop wsX4_refused := goodIn_r _ [6, 7, 14, 15, 16, 17, 18, 19, 20, 21] (by decide +kernel) (by decide +kernel)
set_option maxRecDepth 20000 in
theorem gX4_stop_X4_refused : GoodIn wsX4_stop (wsV RX4 29 RX4 yX4_refused wsX4_refused) := goodIn_app (goodIn_of _ (by decide +kernel)) ggX4_stop_X4_refused
set_option maxRecDepth 20000 in
theorem ggX4_stop_X4_saves : GoodIn wsX4_stop wsX4_saves := goodIn_r _ [11, 12, 13, 1, 14, 15, 16, 17, 18, 19, 20, 21] (by decide +kernel) (by decide +kernel)
set_option maxRecDepth 20000 in
theorem gX4_stop_X4_saves : GoodIn wsX4_stop (wsV RX4 44 RX4 yX4_saves wsX4_saves) := goodIn_app (goodIn_of _ (by decide +kernel)) ggX4_stop_X4_saves
theorem dX4_stop_0 : decode cX4_stop 0 = .ok (.aload_n 0, 1) := by decide +kernel
theorem dX4_stop_1 : decode cX4_stop 1 = .ok (.aload_n 0, 1) := by decide +kernel
theorem dX4_stop_2 : decode cX4_stop 2 = .ok (.getfield 7, 3) := by decide +kernel
theorem dX4_stop_5 : decode cX4_stop 5 = .ok (.bipush 15, 2) := by decide +kernel
theorem dX4_stop_7 : decode cX4_stop 7 = .ok (.iaload, 1) := by decide +kernel
theorem dX4_stop_8 : decode cX4_stop 8 = .ok (.ifCond .ne 7, 3) := by decide +kernel
theorem dX4_stop_11 : decode cX4_stop 11 = .ok (.iconst 1, 1) := by decide +kernel
theorem dX4_stop_12 : decode cX4_stop 12 = .ok (.goto 4, 3) := by decide +kernel
theorem dX4_stop_15 : decode cX4_stop 15 = .ok (.iconst 0, 1) := by decide +kernel
theorem dX4_stop_16 : decode cX4_stop 16 = .ok (.invokevirtual 29, 3) := by decide +kernel
theorem dX4_stop_19 : decode cX4_stop 19 = .ok (.ifCond .eq 5, 3) := by decide +kernel
theorem dX4_stop_22 : decode cX4_stop 22 = .ok (.iconst 0, 1) := by decide +kernel
theorem dX4_stop_23 : decode cX4_stop 23 = .ok (.ireturn, 1) := by decide +kernel
theorem dX4_stop_24 : decode cX4_stop 24 = .ok (.aload_n 0, 1) := by decide +kernel
theorem dX4_stop_25 : decode cX4_stop 25 = .ok (.invokevirtual 44, 3) := by decide +kernel
theorem dX4_stop_28 : decode cX4_stop 28 = .ok (.aload_n 0, 1) := by decide +kernel
theorem dX4_stop_29 : decode cX4_stop 29 = .ok (.getfield 7, 3) := by decide +kernel
theorem dX4_stop_32 : decode cX4_stop 32 = .ok (.bipush 15, 2) := by decide +kernel
theorem dX4_stop_34 : decode cX4_stop 34 = .ok (.iconst 0, 1) := by decide +kernel
theorem dX4_stop_35 : decode cX4_stop 35 = .ok (.iastore, 1) := by decide +kernel
theorem dX4_stop_36 : decode cX4_stop 36 = .ok (.aload_n 0, 1) := by decide +kernel
theorem dX4_stop_37 : decode cX4_stop 37 = .ok (.getfield 7, 3) := by decide +kernel
theorem dX4_stop_40 : decode cX4_stop 40 = .ok (.bipush 36, 2) := by decide +kernel
theorem dX4_stop_42 : decode cX4_stop 42 = .ok (.iaload, 1) := by decide +kernel
theorem dX4_stop_43 : decode cX4_stop 43 = .ok (.ireturn, 1) := by decide +kernel
set_option maxRecDepth 20000 in
theorem ggX4_reset_X4_refused : GoodIn wsX4_reset wsX4_refused := goodIn_r _ [6, 7, 14, 15, 16, 17, 18, 19, 20, 21] (by decide +kernel) (by decide +kernel)
set_option maxRecDepth 20000 in
theorem gX4_reset_X4_refused : GoodIn wsX4_reset (wsV RX4 29 RX4 yX4_refused wsX4_refused) := goodIn_app (goodIn_of _ (by decide +kernel)) ggX4_reset_X4_refused
set_option maxRecDepth 20000 in
theorem ggX4_reset_X4_saves : GoodIn wsX4_reset wsX4_saves := goodIn_r _ [11, 12, 13, 1, 14, 15, 16, 17, 18, 19, 20, 21] (by decide +kernel) (by decide +kernel)
set_option maxRecDepth 20000 in
theorem gX4_reset_X4_saves : GoodIn wsX4_reset (wsV RX4 44 RX4 yX4_saves wsX4_saves) := goodIn_app (goodIn_of _ (by decide +kernel)) ggX4_reset_X4_saves
theorem dX4_reset_0 : decode cX4_reset 0 = .ok (.aload_n 0, 1) := by decide +kernel
theorem dX4_reset_1 : decode cX4_reset 1 = .ok (.aload_n 0, 1) := by decide +kernel
theorem dX4_reset_2 : decode cX4_reset 2 = .ok (.getfield 7, 3) := by decide +kernel
theorem dX4_reset_5 : decode cX4_reset 5 = .ok (.bipush 16, 2) := by decide +kernel
theorem dX4_reset_7 : decode cX4_reset 7 = .ok (.iaload, 1) := by decide +kernel
theorem dX4_reset_8 : decode cX4_reset 8 = .ok (.ifCond .ne 7, 3) := by decide +kernel
theorem dX4_reset_11 : decode cX4_reset 11 = .ok (.iconst 1, 1) := by decide +kernel
theorem dX4_reset_12 : decode cX4_reset 12 = .ok (.goto 4, 3) := by decide +kernel
theorem dX4_reset_15 : decode cX4_reset 15 = .ok (.iconst 0, 1) := by decide +kernel
theorem dX4_reset_16 : decode cX4_reset 16 = .ok (.invokevirtual 29, 3) := by decide +kernel
theorem dX4_reset_19 : decode cX4_reset 19 = .ok (.ifCond .eq 5, 3) := by decide +kernel
theorem dX4_reset_22 : decode cX4_reset 22 = .ok (.iconst 0, 1) := by decide +kernel
theorem dX4_reset_23 : decode cX4_reset 23 = .ok (.ireturn, 1) := by decide +kernel
theorem dX4_reset_24 : decode cX4_reset 24 = .ok (.aload_n 0, 1) := by decide +kernel
theorem dX4_reset_25 : decode cX4_reset 25 = .ok (.invokevirtual 44, 3) := by decide +kernel
theorem dX4_reset_28 : decode cX4_reset 28 = .ok (.aload_n 0, 1) := by decide +kernel
theorem dX4_reset_29 : decode cX4_reset 29 = .ok (.getfield 7, 3) := by decide +kernel
theorem dX4_reset_32 : decode cX4_reset 32 = .ok (.bipush 16, 2) := by decide +kernel
theorem dX4_reset_34 : decode cX4_reset 34 = .ok (.iaload, 1) := by decide +kernel
theorem dX4_reset_35 : decode cX4_reset 35 = .ok (.istore_n 1, 1) := by decide +kernel
theorem dX4_reset_36 : decode cX4_reset 36 = .ok (.aload_n 0, 1) := by decide +kernel
theorem dX4_reset_37 : decode cX4_reset 37 = .ok (.getfield 7, 3) := by decide +kernel
theorem dX4_reset_40 : decode cX4_reset 40 = .ok (.bipush 16, 2) := by decide +kernel
theorem dX4_reset_42 : decode cX4_reset 42 = .ok (.iconst 0, 1) := by decide +kernel
theorem dX4_reset_43 : decode cX4_reset 43 = .ok (.iastore, 1) := by decide +kernel
theorem dX4_reset_44 : decode cX4_reset 44 = .ok (.iload_n 1, 1) := by decide +kernel
theorem dX4_reset_45 : decode cX4_reset 45 = .ok (.ireturn, 1) := by decide +kernel
set_option maxRecDepth 20000 in
theorem ggX4_barFeed_X4_within : GoodIn wsX4_barFeed wsX4_within := goodIn_r _ [5] (by decide +kernel) (by decide +kernel)
set_option maxRecDepth 20000 in
theorem gX4_barFeed_X4_within : GoodIn wsX4_barFeed (va_wsS RX4 40 yX4_within wsX4_within) := goodIn_app (goodIn_of _ (by decide +kernel)) ggX4_barFeed_X4_within
set_option maxRecDepth 20000 in
theorem ggX4_barFeed_X4_thing : GoodIn wsX4_barFeed wsX4_thing := goodIn_r _ [8] (by decide +kernel) (by decide +kernel)
set_option maxRecDepth 20000 in
theorem gX4_barFeed_X4_thing : GoodIn wsX4_barFeed (va_wsS RX4 33 yX4_thing wsX4_thing) := goodIn_app (goodIn_of _ (by decide +kernel)) ggX4_barFeed_X4_thing
set_option maxRecDepth 20000 in
theorem ggX4_barFeed_X4_entry : GoodIn wsX4_barFeed wsX4_entry := goodIn_r _ [11] (by decide +kernel) (by decide +kernel)
set_option maxRecDepth 20000 in
theorem gX4_barFeed_X4_entry : GoodIn wsX4_barFeed (va_wsS RX4 37 yX4_entry wsX4_entry) := goodIn_app (goodIn_of _ (by decide +kernel)) ggX4_barFeed_X4_entry
theorem dX4_barFeed_0 : decode cX4_barFeed 0 = .ok (.iload_n 1, 1) := by decide +kernel
theorem dX4_barFeed_1 : decode cX4_barFeed 1 = .ok (.iconst 0, 1) := by decide +kernel
theorem dX4_barFeed_2 : decode cX4_barFeed 2 = .ok (.iconst 3, 1) := by decide +kernel
theorem dX4_barFeed_3 : decode cX4_barFeed 3 = .ok (.invokestatic 40, 3) := by decide +kernel
theorem dX4_barFeed_6 : decode cX4_barFeed 6 = .ok (.ifCond .ne 5, 3) := by decide +kernel
theorem dX4_barFeed_9 : decode cX4_barFeed 9 = .ok (.iconst 1, 1) := by decide +kernel
theorem dX4_barFeed_10 : decode cX4_barFeed 10 = .ok (.ireturn, 1) := by decide +kernel
theorem dX4_barFeed_11 : decode cX4_barFeed 11 = .ok (.aload_n 0, 1) := by decide +kernel
theorem dX4_barFeed_12 : decode cX4_barFeed 12 = .ok (.getfield 7, 3) := by decide +kernel
theorem dX4_barFeed_15 : decode cX4_barFeed 15 = .ok (.bipush 36, 2) := by decide +kernel
theorem dX4_barFeed_17 : decode cX4_barFeed 17 = .ok (.iaload, 1) := by decide +kernel
theorem dX4_barFeed_18 : decode cX4_barFeed 18 = .ok (.bipush 20, 2) := by decide +kernel
theorem dX4_barFeed_20 : decode cX4_barFeed 20 = .ok (.if_icmp .ge 7, 3) := by decide +kernel
theorem dX4_barFeed_23 : decode cX4_barFeed 23 = .ok (.iconst 1, 1) := by decide +kernel
theorem dX4_barFeed_24 : decode cX4_barFeed 24 = .ok (.goto 4, 3) := by decide +kernel
theorem dX4_barFeed_27 : decode cX4_barFeed 27 = .ok (.iconst 0, 1) := by decide +kernel
theorem dX4_barFeed_28 : decode cX4_barFeed 28 = .ok (.istore_n 2, 1) := by decide +kernel
theorem dX4_barFeed_29 : decode cX4_barFeed 29 = .ok (.iconst 0, 1) := by decide +kernel
theorem dX4_barFeed_30 : decode cX4_barFeed 30 = .ok (.istore_n 3, 1) := by decide +kernel
theorem dX4_barFeed_31 : decode cX4_barFeed 31 = .ok (.iload_n 3, 1) := by decide +kernel
theorem dX4_barFeed_32 : decode cX4_barFeed 32 = .ok (.aload_n 0, 1) := by decide +kernel
theorem dX4_barFeed_33 : decode cX4_barFeed 33 = .ok (.getfield 7, 3) := by decide +kernel
theorem dX4_barFeed_36 : decode cX4_barFeed 36 = .ok (.bipush 36, 2) := by decide +kernel
theorem dX4_barFeed_38 : decode cX4_barFeed 38 = .ok (.iaload, 1) := by decide +kernel
theorem dX4_barFeed_39 : decode cX4_barFeed 39 = .ok (.if_icmp .ge 34, 3) := by decide +kernel
theorem dX4_barFeed_42 : decode cX4_barFeed 42 = .ok (.iload_n 2, 1) := by decide +kernel
theorem dX4_barFeed_43 : decode cX4_barFeed 43 = .ok (.ifCond .eq 22, 3) := by decide +kernel
theorem dX4_barFeed_46 : decode cX4_barFeed 46 = .ok (.aload_n 0, 1) := by decide +kernel
theorem dX4_barFeed_47 : decode cX4_barFeed 47 = .ok (.getfield 7, 3) := by decide +kernel
theorem dX4_barFeed_50 : decode cX4_barFeed 50 = .ok (.iload_n 3, 1) := by decide +kernel
theorem dX4_barFeed_51 : decode cX4_barFeed 51 = .ok (.iconst 1, 1) := by decide +kernel
theorem dX4_barFeed_52 : decode cX4_barFeed 52 = .ok (.invokestatic 33, 3) := by decide +kernel
theorem dX4_barFeed_55 : decode cX4_barFeed 55 = .ok (.iaload, 1) := by decide +kernel
theorem dX4_barFeed_56 : decode cX4_barFeed 56 = .ok (.bipush 30, 2) := by decide +kernel
theorem dX4_barFeed_58 : decode cX4_barFeed 58 = .ok (.if_icmp .lt 7, 3) := by decide +kernel
theorem dX4_barFeed_61 : decode cX4_barFeed 61 = .ok (.iconst 1, 1) := by decide +kernel
theorem dX4_barFeed_62 : decode cX4_barFeed 62 = .ok (.goto 4, 3) := by decide +kernel
theorem dX4_barFeed_65 : decode cX4_barFeed 65 = .ok (.iconst 0, 1) := by decide +kernel
theorem dX4_barFeed_66 : decode cX4_barFeed 66 = .ok (.istore_n 2, 1) := by decide +kernel
theorem dX4_barFeed_67 : decode cX4_barFeed 67 = .ok (.iinc 3 1, 3) := by decide +kernel
theorem dX4_barFeed_70 : decode cX4_barFeed 70 = .ok (.goto (-39), 3) := by decide +kernel
theorem dX4_barFeed_73 : decode cX4_barFeed 73 = .ok (.iconst 0, 1) := by decide +kernel
theorem dX4_barFeed_74 : decode cX4_barFeed 74 = .ok (.istore_n 3, 1) := by decide +kernel
theorem dX4_barFeed_75 : decode cX4_barFeed 75 = .ok (.iload_n 3, 1) := by decide +kernel
theorem dX4_barFeed_76 : decode cX4_barFeed 76 = .ok (.aload_n 0, 1) := by decide +kernel
theorem dX4_barFeed_77 : decode cX4_barFeed 77 = .ok (.getfield 7, 3) := by decide +kernel
theorem dX4_barFeed_80 : decode cX4_barFeed 80 = .ok (.bipush 117, 2) := by decide +kernel
theorem dX4_barFeed_82 : decode cX4_barFeed 82 = .ok (.iaload, 1) := by decide +kernel
theorem dX4_barFeed_83 : decode cX4_barFeed 83 = .ok (.if_icmp .ge 34, 3) := by decide +kernel
theorem dX4_barFeed_86 : decode cX4_barFeed 86 = .ok (.iload_n 2, 1) := by decide +kernel
theorem dX4_barFeed_87 : decode cX4_barFeed 87 = .ok (.ifCond .eq 22, 3) := by decide +kernel
theorem dX4_barFeed_90 : decode cX4_barFeed 90 = .ok (.aload_n 0, 1) := by decide +kernel
theorem dX4_barFeed_91 : decode cX4_barFeed 91 = .ok (.getfield 7, 3) := by decide +kernel
theorem dX4_barFeed_94 : decode cX4_barFeed 94 = .ok (.iload_n 3, 1) := by decide +kernel
theorem dX4_barFeed_95 : decode cX4_barFeed 95 = .ok (.iconst 1, 1) := by decide +kernel
theorem dX4_barFeed_96 : decode cX4_barFeed 96 = .ok (.invokestatic 37, 3) := by decide +kernel
theorem dX4_barFeed_99 : decode cX4_barFeed 99 = .ok (.iaload, 1) := by decide +kernel
theorem dX4_barFeed_100 : decode cX4_barFeed 100 = .ok (.bipush 30, 2) := by decide +kernel
theorem dX4_barFeed_102 : decode cX4_barFeed 102 = .ok (.if_icmp .lt 7, 3) := by decide +kernel
theorem dX4_barFeed_105 : decode cX4_barFeed 105 = .ok (.iconst 1, 1) := by decide +kernel
theorem dX4_barFeed_106 : decode cX4_barFeed 106 = .ok (.goto 4, 3) := by decide +kernel
theorem dX4_barFeed_109 : decode cX4_barFeed 109 = .ok (.iconst 0, 1) := by decide +kernel
theorem dX4_barFeed_110 : decode cX4_barFeed 110 = .ok (.istore_n 2, 1) := by decide +kernel
theorem dX4_barFeed_111 : decode cX4_barFeed 111 = .ok (.iinc 3 1, 3) := by decide +kernel
theorem dX4_barFeed_114 : decode cX4_barFeed 114 = .ok (.goto (-39), 3) := by decide +kernel
theorem dX4_barFeed_117 : decode cX4_barFeed 117 = .ok (.iload_n 2, 1) := by decide +kernel
theorem dX4_barFeed_118 : decode cX4_barFeed 118 = .ok (.ifCond .eq 7, 3) := by decide +kernel
theorem dX4_barFeed_121 : decode cX4_barFeed 121 = .ok (.iconst 0, 1) := by decide +kernel
theorem dX4_barFeed_122 : decode cX4_barFeed 122 = .ok (.goto 4, 3) := by decide +kernel
theorem dX4_barFeed_125 : decode cX4_barFeed 125 = .ok (.iconst 2, 1) := by decide +kernel
theorem dX4_barFeed_126 : decode cX4_barFeed 126 = .ok (.ireturn, 1) := by decide +kernel
set_option maxRecDepth 20000 in
theorem ggX4_feeds_X4_counts : GoodIn wsX4_feeds wsX4_counts := goodIn_r _ [6, 1, 13, 14, 15, 16, 17, 18, 19, 20] (by decide +kernel) (by decide +kernel)
set_option maxRecDepth 20000 in
theorem gX4_feeds_X4_counts : GoodIn wsX4_feeds (wsV RX4 51 RX4 yX4_counts wsX4_counts) := goodIn_app (goodIn_of _ (by decide +kernel)) ggX4_feeds_X4_counts
set_option maxRecDepth 20000 in
theorem ggX4_feeds_X4_thing : GoodIn wsX4_feeds wsX4_thing := goodIn_r _ [9] (by decide +kernel) (by decide +kernel)
set_option maxRecDepth 20000 in
theorem gX4_feeds_X4_thing : GoodIn wsX4_feeds (va_wsS RX4 33 yX4_thing wsX4_thing) := goodIn_app (goodIn_of _ (by decide +kernel)) ggX4_feeds_X4_thing
set_option maxRecDepth 20000 in
theorem ggX4_feeds_X4_entry : GoodIn wsX4_feeds wsX4_entry := goodIn_r _ [12] (by decide +kernel) (by decide +kernel)
set_option maxRecDepth 20000 in
theorem gX4_feeds_X4_entry : GoodIn wsX4_feeds (va_wsS RX4 37 yX4_entry wsX4_entry) := goodIn_app (goodIn_of _ (by decide +kernel)) ggX4_feeds_X4_entry
theorem dX4_feeds_0 : decode cX4_feeds 0 = .ok (.aload_n 0, 1) := by decide +kernel
theorem dX4_feeds_1 : decode cX4_feeds 1 = .ok (.getfield 7, 3) := by decide +kernel
theorem dX4_feeds_4 : decode cX4_feeds 4 = .ok (.bipush 17, 2) := by decide +kernel
theorem dX4_feeds_6 : decode cX4_feeds 6 = .ok (.iaload, 1) := by decide +kernel
theorem dX4_feeds_7 : decode cX4_feeds 7 = .ok (.istore_n 2, 1) := by decide +kernel
theorem dX4_feeds_8 : decode cX4_feeds 8 = .ok (.aload_n 0, 1) := by decide +kernel
theorem dX4_feeds_9 : decode cX4_feeds 9 = .ok (.iconst 0, 1) := by decide +kernel
theorem dX4_feeds_10 : decode cX4_feeds 10 = .ok (.invokevirtual 51, 3) := by decide +kernel
theorem dX4_feeds_13 : decode cX4_feeds 13 = .ok (.aload_n 0, 1) := by decide +kernel
theorem dX4_feeds_14 : decode cX4_feeds 14 = .ok (.getfield 7, 3) := by decide +kernel
theorem dX4_feeds_17 : decode cX4_feeds 17 = .ok (.bipush 36, 2) := by decide +kernel
theorem dX4_feeds_19 : decode cX4_feeds 19 = .ok (.iaload, 1) := by decide +kernel
theorem dX4_feeds_20 : decode cX4_feeds 20 = .ok (.istore_n 3, 1) := by decide +kernel
theorem dX4_feeds_21 : decode cX4_feeds 21 = .ok (.aload_n 0, 1) := by decide +kernel
theorem dX4_feeds_22 : decode cX4_feeds 22 = .ok (.getfield 7, 3) := by decide +kernel
theorem dX4_feeds_25 : decode cX4_feeds 25 = .ok (.iload_n 3, 1) := by decide +kernel
theorem dX4_feeds_26 : decode cX4_feeds 26 = .ok (.iconst 0, 1) := by decide +kernel
theorem dX4_feeds_27 : decode cX4_feeds 27 = .ok (.invokestatic 33, 3) := by decide +kernel
theorem dX4_feeds_30 : decode cX4_feeds 30 = .ok (.iload_n 2, 1) := by decide +kernel
theorem dX4_feeds_31 : decode cX4_feeds 31 = .ok (.iastore, 1) := by decide +kernel
theorem dX4_feeds_32 : decode cX4_feeds 32 = .ok (.aload_n 0, 1) := by decide +kernel
theorem dX4_feeds_33 : decode cX4_feeds 33 = .ok (.getfield 7, 3) := by decide +kernel
theorem dX4_feeds_36 : decode cX4_feeds 36 = .ok (.iload_n 3, 1) := by decide +kernel
theorem dX4_feeds_37 : decode cX4_feeds 37 = .ok (.iconst 1, 1) := by decide +kernel
theorem dX4_feeds_38 : decode cX4_feeds 38 = .ok (.invokestatic 33, 3) := by decide +kernel
theorem dX4_feeds_41 : decode cX4_feeds 41 = .ok (.iconst 0, 1) := by decide +kernel
theorem dX4_feeds_42 : decode cX4_feeds 42 = .ok (.iastore, 1) := by decide +kernel
theorem dX4_feeds_43 : decode cX4_feeds 43 = .ok (.aload_n 0, 1) := by decide +kernel
theorem dX4_feeds_44 : decode cX4_feeds 44 = .ok (.getfield 7, 3) := by decide +kernel
theorem dX4_feeds_47 : decode cX4_feeds 47 = .ok (.iload_n 3, 1) := by decide +kernel
theorem dX4_feeds_48 : decode cX4_feeds 48 = .ok (.iconst 2, 1) := by decide +kernel
theorem dX4_feeds_49 : decode cX4_feeds 49 = .ok (.invokestatic 33, 3) := by decide +kernel
theorem dX4_feeds_52 : decode cX4_feeds 52 = .ok (.iload_n 1, 1) := by decide +kernel
theorem dX4_feeds_53 : decode cX4_feeds 53 = .ok (.iastore, 1) := by decide +kernel
theorem dX4_feeds_54 : decode cX4_feeds 54 = .ok (.aload_n 0, 1) := by decide +kernel
theorem dX4_feeds_55 : decode cX4_feeds 55 = .ok (.getfield 7, 3) := by decide +kernel
theorem dX4_feeds_58 : decode cX4_feeds 58 = .ok (.iload_n 3, 1) := by decide +kernel
theorem dX4_feeds_59 : decode cX4_feeds 59 = .ok (.iconst 3, 1) := by decide +kernel
theorem dX4_feeds_60 : decode cX4_feeds 60 = .ok (.invokestatic 33, 3) := by decide +kernel
theorem dX4_feeds_63 : decode cX4_feeds 63 = .ok (.iconst 0, 1) := by decide +kernel
theorem dX4_feeds_64 : decode cX4_feeds 64 = .ok (.iastore, 1) := by decide +kernel
theorem dX4_feeds_65 : decode cX4_feeds 65 = .ok (.aload_n 0, 1) := by decide +kernel
theorem dX4_feeds_66 : decode cX4_feeds 66 = .ok (.getfield 7, 3) := by decide +kernel
theorem dX4_feeds_69 : decode cX4_feeds 69 = .ok (.bipush 36, 2) := by decide +kernel
theorem dX4_feeds_71 : decode cX4_feeds 71 = .ok (.dup2, 1) := by decide +kernel
theorem dX4_feeds_72 : decode cX4_feeds 72 = .ok (.iaload, 1) := by decide +kernel
theorem dX4_feeds_73 : decode cX4_feeds 73 = .ok (.iconst 1, 1) := by decide +kernel
theorem dX4_feeds_74 : decode cX4_feeds 74 = .ok (.iadd, 1) := by decide +kernel
theorem dX4_feeds_75 : decode cX4_feeds 75 = .ok (.iastore, 1) := by decide +kernel
theorem dX4_feeds_76 : decode cX4_feeds 76 = .ok (.aload_n 0, 1) := by decide +kernel
theorem dX4_feeds_77 : decode cX4_feeds 77 = .ok (.getfield 7, 3) := by decide +kernel
theorem dX4_feeds_80 : decode cX4_feeds 80 = .ok (.bipush 117, 2) := by decide +kernel
theorem dX4_feeds_82 : decode cX4_feeds 82 = .ok (.iaload, 1) := by decide +kernel
theorem dX4_feeds_83 : decode cX4_feeds 83 = .ok (.istore 4, 2) := by decide +kernel
theorem dX4_feeds_85 : decode cX4_feeds 85 = .ok (.aload_n 0, 1) := by decide +kernel
theorem dX4_feeds_86 : decode cX4_feeds 86 = .ok (.getfield 7, 3) := by decide +kernel
theorem dX4_feeds_89 : decode cX4_feeds 89 = .ok (.iload 4, 2) := by decide +kernel
theorem dX4_feeds_91 : decode cX4_feeds 91 = .ok (.iconst 0, 1) := by decide +kernel
theorem dX4_feeds_92 : decode cX4_feeds 92 = .ok (.invokestatic 37, 3) := by decide +kernel
theorem dX4_feeds_95 : decode cX4_feeds 95 = .ok (.iload_n 2, 1) := by decide +kernel
theorem dX4_feeds_96 : decode cX4_feeds 96 = .ok (.iastore, 1) := by decide +kernel
theorem dX4_feeds_97 : decode cX4_feeds 97 = .ok (.iconst 1, 1) := by decide +kernel
theorem dX4_feeds_98 : decode cX4_feeds 98 = .ok (.istore 5, 2) := by decide +kernel
theorem dX4_feeds_100 : decode cX4_feeds 100 = .ok (.iload 5, 2) := by decide +kernel
theorem dX4_feeds_102 : decode cX4_feeds 102 = .ok (.bipush 6, 2) := by decide +kernel
theorem dX4_feeds_104 : decode cX4_feeds 104 = .ok (.if_icmp .ge 22, 3) := by decide +kernel
theorem dX4_feeds_107 : decode cX4_feeds 107 = .ok (.aload_n 0, 1) := by decide +kernel
theorem dX4_feeds_108 : decode cX4_feeds 108 = .ok (.getfield 7, 3) := by decide +kernel
theorem dX4_feeds_111 : decode cX4_feeds 111 = .ok (.iload 4, 2) := by decide +kernel
theorem dX4_feeds_113 : decode cX4_feeds 113 = .ok (.iload 5, 2) := by decide +kernel
theorem dX4_feeds_115 : decode cX4_feeds 115 = .ok (.invokestatic 37, 3) := by decide +kernel
theorem dX4_feeds_118 : decode cX4_feeds 118 = .ok (.iconst 0, 1) := by decide +kernel
theorem dX4_feeds_119 : decode cX4_feeds 119 = .ok (.iastore, 1) := by decide +kernel
theorem dX4_feeds_120 : decode cX4_feeds 120 = .ok (.iinc 5 1, 3) := by decide +kernel
theorem dX4_feeds_123 : decode cX4_feeds 123 = .ok (.goto (-23), 3) := by decide +kernel
theorem dX4_feeds_126 : decode cX4_feeds 126 = .ok (.aload_n 0, 1) := by decide +kernel
theorem dX4_feeds_127 : decode cX4_feeds 127 = .ok (.getfield 7, 3) := by decide +kernel
theorem dX4_feeds_130 : decode cX4_feeds 130 = .ok (.bipush 117, 2) := by decide +kernel
theorem dX4_feeds_132 : decode cX4_feeds 132 = .ok (.dup2, 1) := by decide +kernel
theorem dX4_feeds_133 : decode cX4_feeds 133 = .ok (.iaload, 1) := by decide +kernel
theorem dX4_feeds_134 : decode cX4_feeds 134 = .ok (.iconst 1, 1) := by decide +kernel
theorem dX4_feeds_135 : decode cX4_feeds 135 = .ok (.iadd, 1) := by decide +kernel
theorem dX4_feeds_136 : decode cX4_feeds 136 = .ok (.iastore, 1) := by decide +kernel
theorem dX4_feeds_137 : decode cX4_feeds 137 = .ok (.iload_n 2, 1) := by decide +kernel
theorem dX4_feeds_138 : decode cX4_feeds 138 = .ok (.ireturn, 1) := by decide +kernel
set_option maxRecDepth 20000 in
theorem ggX4_feed_X4_barFeed : GoodIn wsX4_feed wsX4_barFeed := goodIn_r _ [5, 6, 7, 8, 4, 9, 10, 11, 12, 13, 14, 15, 35, 36, 37, 38, 39, 40, 41, 42] (by decide +kernel) (by decide +kernel)
set_option maxRecDepth 20000 in
theorem gX4_feed_X4_barFeed : GoodIn wsX4_feed (wsV RX4 55 RX4 yX4_barFeed wsX4_barFeed) := goodIn_app (goodIn_of _ (by decide +kernel)) ggX4_feed_X4_barFeed
set_option maxRecDepth 20000 in
theorem ggX4_feed_X4_refused : GoodIn wsX4_feed wsX4_refused := goodIn_r _ [19, 20, 35, 36, 37, 38, 39, 40, 41, 42] (by decide +kernel) (by decide +kernel)
set_option maxRecDepth 20000 in
theorem gX4_feed_X4_refused : GoodIn wsX4_feed (wsV RX4 29 RX4 yX4_refused wsX4_refused) := goodIn_app (goodIn_of _ (by decide +kernel)) ggX4_feed_X4_refused
set_option maxRecDepth 20000 in
theorem ggX4_feed_X4_saves : GoodIn wsX4_feed wsX4_saves := goodIn_r _ [24, 25, 26, 6, 35, 36, 37, 38, 39, 40, 41, 42] (by decide +kernel) (by decide +kernel)
set_option maxRecDepth 20000 in
theorem gX4_feed_X4_saves : GoodIn wsX4_feed (wsV RX4 44 RX4 yX4_saves wsX4_saves) := goodIn_app (goodIn_of _ (by decide +kernel)) ggX4_feed_X4_saves
set_option maxRecDepth 20000 in
theorem ggX4_feed_X4_feeds : GoodIn wsX4_feed wsX4_feeds := goodIn_r _ [30, 6, 31, 32, 33, 4, 34, 10, 11, 12, 13, 14, 15, 35, 36, 37, 38, 39, 40, 41, 42] (by decide +kernel) (by decide +kernel)
set_option maxRecDepth 20000 in
theorem gX4_feed_X4_feeds : GoodIn wsX4_feed (wsV RX4 59 RX4 yX4_feeds wsX4_feeds) := goodIn_app (goodIn_of _ (by decide +kernel)) ggX4_feed_X4_feeds
theorem dX4_feed_0 : decode cX4_feed 0 = .ok (.aload_n 0, 1) := by decide +kernel
theorem dX4_feed_1 : decode cX4_feed 1 = .ok (.aload_n 0, 1) := by decide +kernel
theorem dX4_feed_2 : decode cX4_feed 2 = .ok (.iload_n 1, 1) := by decide +kernel
theorem dX4_feed_3 : decode cX4_feed 3 = .ok (.invokevirtual 55, 3) := by decide +kernel
theorem dX4_feed_6 : decode cX4_feed 6 = .ok (.invokevirtual 29, 3) := by decide +kernel
theorem dX4_feed_9 : decode cX4_feed 9 = .ok (.ifCond .eq 5, 3) := by decide +kernel
theorem dX4_feed_12 : decode cX4_feed 12 = .ok (.iconst 0, 1) := by decide +kernel
theorem dX4_feed_13 : decode cX4_feed 13 = .ok (.ireturn, 1) := by decide +kernel
theorem dX4_feed_14 : decode cX4_feed 14 = .ok (.aload_n 0, 1) := by decide +kernel
theorem dX4_feed_15 : decode cX4_feed 15 = .ok (.invokevirtual 44, 3) := by decide +kernel
theorem dX4_feed_18 : decode cX4_feed 18 = .ok (.aload_n 0, 1) := by decide +kernel
theorem dX4_feed_19 : decode cX4_feed 19 = .ok (.iload_n 1, 1) := by decide +kernel
theorem dX4_feed_20 : decode cX4_feed 20 = .ok (.invokevirtual 59, 3) := by decide +kernel
theorem dX4_feed_23 : decode cX4_feed 23 = .ok (.ireturn, 1) := by decide +kernel
set_option maxRecDepth 20000 in
theorem ggX4_slip_X4_itemOf : GoodIn wsX4_slip wsX4_itemOf := goodIn_r _ [6, 1, 7, 8, 5, 9, 24, 25, 26, 27, 28, 29, 30, 31] (by decide +kernel) (by decide +kernel)
set_option maxRecDepth 20000 in
theorem gX4_slip_X4_itemOf : GoodIn wsX4_slip (wsV RX4 62 RX4 yX4_itemOf wsX4_itemOf) := goodIn_app (goodIn_of _ (by decide +kernel)) ggX4_slip_X4_itemOf
set_option maxRecDepth 20000 in
theorem ggX4_slip_X4_within : GoodIn wsX4_slip wsX4_within := goodIn_r _ [12] (by decide +kernel) (by decide +kernel)
set_option maxRecDepth 20000 in
theorem gX4_slip_X4_within : GoodIn wsX4_slip (va_wsS RX4 40 yX4_within wsX4_within) := goodIn_app (goodIn_of _ (by decide +kernel)) ggX4_slip_X4_within
set_option maxRecDepth 20000 in
theorem ggX4_slip_X4_thing : GoodIn wsX4_slip wsX4_thing := goodIn_r _ [9] (by decide +kernel) (by decide +kernel)
set_option maxRecDepth 20000 in
theorem gX4_slip_X4_thing : GoodIn wsX4_slip (va_wsS RX4 33 yX4_thing wsX4_thing) := goodIn_app (goodIn_of _ (by decide +kernel)) ggX4_slip_X4_thing
set_option maxRecDepth 20000 in
theorem ggX4_slip_X4_refused : GoodIn wsX4_slip wsX4_refused := goodIn_r _ [16, 17, 24, 25, 26, 27, 28, 29, 30, 31] (by decide +kernel) (by decide +kernel)
set_option maxRecDepth 20000 in
theorem gX4_slip_X4_refused : GoodIn wsX4_slip (wsV RX4 29 RX4 yX4_refused wsX4_refused) := goodIn_app (goodIn_of _ (by decide +kernel)) ggX4_slip_X4_refused
set_option maxRecDepth 20000 in
theorem ggX4_slip_X4_saves : GoodIn wsX4_slip wsX4_saves := goodIn_r _ [21, 22, 23, 1, 24, 25, 26, 27, 28, 29, 30, 31] (by decide +kernel) (by decide +kernel)
set_option maxRecDepth 20000 in
theorem gX4_slip_X4_saves : GoodIn wsX4_slip (wsV RX4 44 RX4 yX4_saves wsX4_saves) := goodIn_app (goodIn_of _ (by decide +kernel)) ggX4_slip_X4_saves
theorem dX4_slip_0 : decode cX4_slip 0 = .ok (.aload_n 0, 1) := by decide +kernel
theorem dX4_slip_1 : decode cX4_slip 1 = .ok (.iload_n 1, 1) := by decide +kernel
theorem dX4_slip_2 : decode cX4_slip 2 = .ok (.invokevirtual 62, 3) := by decide +kernel
theorem dX4_slip_5 : decode cX4_slip 5 = .ok (.istore_n 3, 1) := by decide +kernel
theorem dX4_slip_6 : decode cX4_slip 6 = .ok (.iload_n 3, 1) := by decide +kernel
theorem dX4_slip_7 : decode cX4_slip 7 = .ok (.iconst (-1), 1) := by decide +kernel
theorem dX4_slip_8 : decode cX4_slip 8 = .ok (.if_icmp .eq 46, 3) := by decide +kernel
theorem dX4_slip_11 : decode cX4_slip 11 = .ok (.iload_n 2, 1) := by decide +kernel
theorem dX4_slip_12 : decode cX4_slip 12 = .ok (.bipush (-30), 2) := by decide +kernel
theorem dX4_slip_14 : decode cX4_slip 14 = .ok (.bipush 30, 2) := by decide +kernel
theorem dX4_slip_16 : decode cX4_slip 16 = .ok (.invokestatic 40, 3) := by decide +kernel
theorem dX4_slip_19 : decode cX4_slip 19 = .ok (.ifCond .eq 35, 3) := by decide +kernel
theorem dX4_slip_22 : decode cX4_slip 22 = .ok (.aload_n 0, 1) := by decide +kernel
theorem dX4_slip_23 : decode cX4_slip 23 = .ok (.getfield 7, 3) := by decide +kernel
theorem dX4_slip_26 : decode cX4_slip 26 = .ok (.iload_n 3, 1) := by decide +kernel
theorem dX4_slip_27 : decode cX4_slip 27 = .ok (.iconst 1, 1) := by decide +kernel
theorem dX4_slip_28 : decode cX4_slip 28 = .ok (.invokestatic 33, 3) := by decide +kernel
theorem dX4_slip_31 : decode cX4_slip 31 = .ok (.iaload, 1) := by decide +kernel
theorem dX4_slip_32 : decode cX4_slip 32 = .ok (.iload_n 2, 1) := by decide +kernel
theorem dX4_slip_33 : decode cX4_slip 33 = .ok (.iadd, 1) := by decide +kernel
theorem dX4_slip_34 : decode cX4_slip 34 = .ok (.iconst 0, 1) := by decide +kernel
theorem dX4_slip_35 : decode cX4_slip 35 = .ok (.aload_n 0, 1) := by decide +kernel
theorem dX4_slip_36 : decode cX4_slip 36 = .ok (.getfield 7, 3) := by decide +kernel
theorem dX4_slip_39 : decode cX4_slip 39 = .ok (.bipush 11, 2) := by decide +kernel
theorem dX4_slip_41 : decode cX4_slip 41 = .ok (.iaload, 1) := by decide +kernel
theorem dX4_slip_42 : decode cX4_slip 42 = .ok (.iconst 1, 1) := by decide +kernel
theorem dX4_slip_43 : decode cX4_slip 43 = .ok (.isub, 1) := by decide +kernel
theorem dX4_slip_44 : decode cX4_slip 44 = .ok (.invokestatic 40, 3) := by decide +kernel
theorem dX4_slip_47 : decode cX4_slip 47 = .ok (.ifCond .eq 7, 3) := by decide +kernel
theorem dX4_slip_50 : decode cX4_slip 50 = .ok (.iconst 1, 1) := by decide +kernel
theorem dX4_slip_51 : decode cX4_slip 51 = .ok (.goto 4, 3) := by decide +kernel
theorem dX4_slip_54 : decode cX4_slip 54 = .ok (.iconst 0, 1) := by decide +kernel
theorem dX4_slip_55 : decode cX4_slip 55 = .ok (.istore 4, 2) := by decide +kernel
theorem dX4_slip_57 : decode cX4_slip 57 = .ok (.aload_n 0, 1) := by decide +kernel
theorem dX4_slip_58 : decode cX4_slip 58 = .ok (.iload_n 3, 1) := by decide +kernel
theorem dX4_slip_59 : decode cX4_slip 59 = .ok (.iconst (-1), 1) := by decide +kernel
theorem dX4_slip_60 : decode cX4_slip 60 = .ok (.if_icmp .ne 7, 3) := by decide +kernel
theorem dX4_slip_63 : decode cX4_slip 63 = .ok (.iconst 1, 1) := by decide +kernel
theorem dX4_slip_64 : decode cX4_slip 64 = .ok (.goto 13, 3) := by decide +kernel
theorem dX4_slip_67 : decode cX4_slip 67 = .ok (.iload 4, 2) := by decide +kernel
theorem dX4_slip_69 : decode cX4_slip 69 = .ok (.ifCond .eq 7, 3) := by decide +kernel
theorem dX4_slip_72 : decode cX4_slip 72 = .ok (.iconst 0, 1) := by decide +kernel
theorem dX4_slip_73 : decode cX4_slip 73 = .ok (.goto 4, 3) := by decide +kernel
theorem dX4_slip_76 : decode cX4_slip 76 = .ok (.iconst 2, 1) := by decide +kernel
theorem dX4_slip_77 : decode cX4_slip 77 = .ok (.invokevirtual 29, 3) := by decide +kernel
theorem dX4_slip_80 : decode cX4_slip 80 = .ok (.ifCond .eq 5, 3) := by decide +kernel
theorem dX4_slip_83 : decode cX4_slip 83 = .ok (.iconst 0, 1) := by decide +kernel
theorem dX4_slip_84 : decode cX4_slip 84 = .ok (.ireturn, 1) := by decide +kernel
theorem dX4_slip_85 : decode cX4_slip 85 = .ok (.aload_n 0, 1) := by decide +kernel
theorem dX4_slip_86 : decode cX4_slip 86 = .ok (.invokevirtual 44, 3) := by decide +kernel
theorem dX4_slip_89 : decode cX4_slip 89 = .ok (.aload_n 0, 1) := by decide +kernel
theorem dX4_slip_90 : decode cX4_slip 90 = .ok (.getfield 7, 3) := by decide +kernel
theorem dX4_slip_93 : decode cX4_slip 93 = .ok (.iload_n 3, 1) := by decide +kernel
theorem dX4_slip_94 : decode cX4_slip 94 = .ok (.iconst 1, 1) := by decide +kernel
theorem dX4_slip_95 : decode cX4_slip 95 = .ok (.invokestatic 33, 3) := by decide +kernel
theorem dX4_slip_98 : decode cX4_slip 98 = .ok (.dup2, 1) := by decide +kernel
theorem dX4_slip_99 : decode cX4_slip 99 = .ok (.iaload, 1) := by decide +kernel
theorem dX4_slip_100 : decode cX4_slip 100 = .ok (.iload_n 2, 1) := by decide +kernel
theorem dX4_slip_101 : decode cX4_slip 101 = .ok (.iadd, 1) := by decide +kernel
theorem dX4_slip_102 : decode cX4_slip 102 = .ok (.iastore, 1) := by decide +kernel
theorem dX4_slip_103 : decode cX4_slip 103 = .ok (.aload_n 0, 1) := by decide +kernel
theorem dX4_slip_104 : decode cX4_slip 104 = .ok (.getfield 7, 3) := by decide +kernel
theorem dX4_slip_107 : decode cX4_slip 107 = .ok (.iload_n 3, 1) := by decide +kernel
theorem dX4_slip_108 : decode cX4_slip 108 = .ok (.iconst 1, 1) := by decide +kernel
theorem dX4_slip_109 : decode cX4_slip 109 = .ok (.invokestatic 33, 3) := by decide +kernel
theorem dX4_slip_112 : decode cX4_slip 112 = .ok (.iaload, 1) := by decide +kernel
theorem dX4_slip_113 : decode cX4_slip 113 = .ok (.ireturn, 1) := by decide +kernel
set_option maxRecDepth 20000 in
theorem ggX4_take_X4_itemOf : GoodIn wsX4_take wsX4_itemOf := goodIn_r _ [6, 1, 7, 8, 5, 9, 29, 30, 31, 32, 33, 34, 35, 36] (by decide +kernel) (by decide +kernel)
set_option maxRecDepth 20000 in
theorem gX4_take_X4_itemOf : GoodIn wsX4_take (wsV RX4 62 RX4 yX4_itemOf wsX4_itemOf) := goodIn_app (goodIn_of _ (by decide +kernel)) ggX4_take_X4_itemOf
set_option maxRecDepth 20000 in
theorem ggX4_take_X4_refused : GoodIn wsX4_take wsX4_refused := goodIn_r _ [13, 14, 29, 30, 31, 32, 33, 34, 35, 36] (by decide +kernel) (by decide +kernel)
set_option maxRecDepth 20000 in
theorem gX4_take_X4_refused : GoodIn wsX4_take (wsV RX4 29 RX4 yX4_refused wsX4_refused) := goodIn_app (goodIn_of _ (by decide +kernel)) ggX4_take_X4_refused
set_option maxRecDepth 20000 in
theorem ggX4_take_X4_saves : GoodIn wsX4_take wsX4_saves := goodIn_r _ [18, 19, 20, 1, 29, 30, 31, 32, 33, 34, 35, 36] (by decide +kernel) (by decide +kernel)
set_option maxRecDepth 20000 in
theorem gX4_take_X4_saves : GoodIn wsX4_take (wsV RX4 44 RX4 yX4_saves wsX4_saves) := goodIn_app (goodIn_of _ (by decide +kernel)) ggX4_take_X4_saves
set_option maxRecDepth 20000 in
theorem ggX4_take_X4_thing : GoodIn wsX4_take wsX4_thing := goodIn_r _ [9] (by decide +kernel) (by decide +kernel)
set_option maxRecDepth 20000 in
theorem gX4_take_X4_thing : GoodIn wsX4_take (va_wsS RX4 33 yX4_thing wsX4_thing) := goodIn_app (goodIn_of _ (by decide +kernel)) ggX4_take_X4_thing
set_option maxRecDepth 20000 in
theorem ggX4_take_X4_drops : GoodIn wsX4_take wsX4_drops := goodIn_r _ [24, 1, 29, 30, 31, 32, 33, 34, 35, 36] (by decide +kernel) (by decide +kernel)
set_option maxRecDepth 20000 in
theorem gX4_take_X4_drops : GoodIn wsX4_take (wsV RX4 65 RX4 yX4_drops wsX4_drops) := goodIn_app (goodIn_of _ (by decide +kernel)) ggX4_take_X4_drops
set_option maxRecDepth 20000 in
theorem ggX4_take_X4_counts : GoodIn wsX4_take wsX4_counts := goodIn_r _ [28, 1, 29, 30, 31, 32, 33, 34, 35, 36] (by decide +kernel) (by decide +kernel)
set_option maxRecDepth 20000 in
theorem gX4_take_X4_counts : GoodIn wsX4_take (wsV RX4 51 RX4 yX4_counts wsX4_counts) := goodIn_app (goodIn_of _ (by decide +kernel)) ggX4_take_X4_counts
theorem dX4_take_0 : decode cX4_take 0 = .ok (.aload_n 0, 1) := by decide +kernel
theorem dX4_take_1 : decode cX4_take 1 = .ok (.iload_n 1, 1) := by decide +kernel
theorem dX4_take_2 : decode cX4_take 2 = .ok (.invokevirtual 62, 3) := by decide +kernel
theorem dX4_take_5 : decode cX4_take 5 = .ok (.istore_n 2, 1) := by decide +kernel
theorem dX4_take_6 : decode cX4_take 6 = .ok (.aload_n 0, 1) := by decide +kernel
theorem dX4_take_7 : decode cX4_take 7 = .ok (.iload_n 2, 1) := by decide +kernel
theorem dX4_take_8 : decode cX4_take 8 = .ok (.iconst (-1), 1) := by decide +kernel
theorem dX4_take_9 : decode cX4_take 9 = .ok (.if_icmp .ne 7, 3) := by decide +kernel
theorem dX4_take_12 : decode cX4_take 12 = .ok (.iconst 1, 1) := by decide +kernel
theorem dX4_take_13 : decode cX4_take 13 = .ok (.goto 4, 3) := by decide +kernel
theorem dX4_take_16 : decode cX4_take 16 = .ok (.iconst 0, 1) := by decide +kernel
theorem dX4_take_17 : decode cX4_take 17 = .ok (.invokevirtual 29, 3) := by decide +kernel
theorem dX4_take_20 : decode cX4_take 20 = .ok (.ifCond .eq 5, 3) := by decide +kernel
theorem dX4_take_23 : decode cX4_take 23 = .ok (.iconst 0, 1) := by decide +kernel
theorem dX4_take_24 : decode cX4_take 24 = .ok (.ireturn, 1) := by decide +kernel
theorem dX4_take_25 : decode cX4_take 25 = .ok (.aload_n 0, 1) := by decide +kernel
theorem dX4_take_26 : decode cX4_take 26 = .ok (.invokevirtual 44, 3) := by decide +kernel
theorem dX4_take_29 : decode cX4_take 29 = .ok (.aload_n 0, 1) := by decide +kernel
theorem dX4_take_30 : decode cX4_take 30 = .ok (.getfield 7, 3) := by decide +kernel
theorem dX4_take_33 : decode cX4_take 33 = .ok (.iload_n 2, 1) := by decide +kernel
theorem dX4_take_34 : decode cX4_take 34 = .ok (.iconst 1, 1) := by decide +kernel
theorem dX4_take_35 : decode cX4_take 35 = .ok (.invokestatic 33, 3) := by decide +kernel
theorem dX4_take_38 : decode cX4_take 38 = .ok (.iaload, 1) := by decide +kernel
theorem dX4_take_39 : decode cX4_take 39 = .ok (.istore_n 3, 1) := by decide +kernel
theorem dX4_take_40 : decode cX4_take 40 = .ok (.aload_n 0, 1) := by decide +kernel
theorem dX4_take_41 : decode cX4_take 41 = .ok (.bipush 36, 2) := by decide +kernel
theorem dX4_take_43 : decode cX4_take 43 = .ok (.bipush 37, 2) := by decide +kernel
theorem dX4_take_45 : decode cX4_take 45 = .ok (.iconst 4, 1) := by decide +kernel
theorem dX4_take_46 : decode cX4_take 46 = .ok (.iload_n 2, 1) := by decide +kernel
theorem dX4_take_47 : decode cX4_take 47 = .ok (.invokevirtual 65, 3) := by decide +kernel
theorem dX4_take_50 : decode cX4_take 50 = .ok (.aload_n 0, 1) := by decide +kernel
theorem dX4_take_51 : decode cX4_take 51 = .ok (.bipush 7, 2) := by decide +kernel
theorem dX4_take_53 : decode cX4_take 53 = .ok (.invokevirtual 51, 3) := by decide +kernel
theorem dX4_take_56 : decode cX4_take 56 = .ok (.iload_n 3, 1) := by decide +kernel
theorem dX4_take_57 : decode cX4_take 57 = .ok (.ireturn, 1) := by decide +kernel
set_option maxRecDepth 20000 in
theorem ggX4_alarms_X4_counts : GoodIn wsX4_alarms wsX4_counts := goodIn_r _ [6, 1, 7, 8, 9, 10, 11, 12, 13, 14] (by decide +kernel) (by decide +kernel)
set_option maxRecDepth 20000 in
theorem gX4_alarms_X4_counts : GoodIn wsX4_alarms (wsV RX4 51 RX4 yX4_counts wsX4_counts) := goodIn_app (goodIn_of _ (by decide +kernel)) ggX4_alarms_X4_counts
theorem dX4_alarms_0 : decode cX4_alarms 0 = .ok (.aload_n 0, 1) := by decide +kernel
theorem dX4_alarms_1 : decode cX4_alarms 1 = .ok (.bipush 13, 2) := by decide +kernel
theorem dX4_alarms_3 : decode cX4_alarms 3 = .ok (.iload_n 1, 1) := by decide +kernel
theorem dX4_alarms_4 : decode cX4_alarms 4 = .ok (.iadd, 1) := by decide +kernel
theorem dX4_alarms_5 : decode cX4_alarms 5 = .ok (.invokevirtual 51, 3) := by decide +kernel
theorem dX4_alarms_8 : decode cX4_alarms 8 = .ok (.aload_n 0, 1) := by decide +kernel
theorem dX4_alarms_9 : decode cX4_alarms 9 = .ok (.getfield 7, 3) := by decide +kernel
theorem dX4_alarms_12 : decode cX4_alarms 12 = .ok (.bipush 16, 2) := by decide +kernel
theorem dX4_alarms_14 : decode cX4_alarms 14 = .ok (.aload_n 0, 1) := by decide +kernel
theorem dX4_alarms_15 : decode cX4_alarms 15 = .ok (.getfield 7, 3) := by decide +kernel
theorem dX4_alarms_18 : decode cX4_alarms 18 = .ok (.bipush 16, 2) := by decide +kernel
theorem dX4_alarms_20 : decode cX4_alarms 20 = .ok (.iaload, 1) := by decide +kernel
theorem dX4_alarms_21 : decode cX4_alarms 21 = .ok (.ifCond .ne 7, 3) := by decide +kernel
theorem dX4_alarms_24 : decode cX4_alarms 24 = .ok (.iload_n 1, 1) := by decide +kernel
theorem dX4_alarms_25 : decode cX4_alarms 25 = .ok (.goto 10, 3) := by decide +kernel
theorem dX4_alarms_28 : decode cX4_alarms 28 = .ok (.aload_n 0, 1) := by decide +kernel
theorem dX4_alarms_29 : decode cX4_alarms 29 = .ok (.getfield 7, 3) := by decide +kernel
theorem dX4_alarms_32 : decode cX4_alarms 32 = .ok (.bipush 16, 2) := by decide +kernel
theorem dX4_alarms_34 : decode cX4_alarms 34 = .ok (.iaload, 1) := by decide +kernel
theorem dX4_alarms_35 : decode cX4_alarms 35 = .ok (.iastore, 1) := by decide +kernel
theorem dX4_alarms_36 : decode cX4_alarms 36 = .ok (.aload_n 0, 1) := by decide +kernel
theorem dX4_alarms_37 : decode cX4_alarms 37 = .ok (.getfield 7, 3) := by decide +kernel
theorem dX4_alarms_40 : decode cX4_alarms 40 = .ok (.bipush 15, 2) := by decide +kernel
theorem dX4_alarms_42 : decode cX4_alarms 42 = .ok (.iconst 0, 1) := by decide +kernel
theorem dX4_alarms_43 : decode cX4_alarms 43 = .ok (.iastore, 1) := by decide +kernel
theorem dX4_alarms_44 : decode cX4_alarms 44 = .ok (.return_, 1) := by decide +kernel
set_option maxRecDepth 20000 in
theorem ggX4_delivers_X4_tells : GoodIn wsX4_delivers wsX4_tells := goodIn_r _ [6, 1, 7, 8, 9, 5, 10, 11, 12, 13, 14, 15, 16, 17, 22, 23, 24, 25, 26, 27, 28, 29] (by decide +kernel) (by decide +kernel)
set_option maxRecDepth 20000 in
theorem gX4_delivers_X4_tells : GoodIn wsX4_delivers (wsV RX4 69 RX4 yX4_tells wsX4_tells) := goodIn_app (goodIn_of _ (by decide +kernel)) ggX4_delivers_X4_tells
set_option maxRecDepth 20000 in
theorem ggX4_delivers_X4_drops : GoodIn wsX4_delivers wsX4_drops := goodIn_r _ [21, 1, 22, 23, 24, 25, 26, 27, 28, 29] (by decide +kernel) (by decide +kernel)
set_option maxRecDepth 20000 in
theorem gX4_delivers_X4_drops : GoodIn wsX4_delivers (wsV RX4 65 RX4 yX4_drops wsX4_drops) := goodIn_app (goodIn_of _ (by decide +kernel)) ggX4_delivers_X4_drops
theorem dX4_delivers_0 : decode cX4_delivers 0 = .ok (.iconst 0, 1) := by decide +kernel
theorem dX4_delivers_1 : decode cX4_delivers 1 = .ok (.istore_n 1, 1) := by decide +kernel
theorem dX4_delivers_2 : decode cX4_delivers 2 = .ok (.iload_n 1, 1) := by decide +kernel
theorem dX4_delivers_3 : decode cX4_delivers 3 = .ok (.aload_n 0, 1) := by decide +kernel
theorem dX4_delivers_4 : decode cX4_delivers 4 = .ok (.getfield 7, 3) := by decide +kernel
theorem dX4_delivers_7 : decode cX4_delivers 7 = .ok (.sipush 478, 3) := by decide +kernel
theorem dX4_delivers_10 : decode cX4_delivers 10 = .ok (.iaload, 1) := by decide +kernel
theorem dX4_delivers_11 : decode cX4_delivers 11 = .ok (.if_icmp .ge 76, 3) := by decide +kernel
theorem dX4_delivers_14 : decode cX4_delivers 14 = .ok (.sipush 479, 3) := by decide +kernel
theorem dX4_delivers_17 : decode cX4_delivers 17 = .ok (.iconst 4, 1) := by decide +kernel
theorem dX4_delivers_18 : decode cX4_delivers 18 = .ok (.iload_n 1, 1) := by decide +kernel
theorem dX4_delivers_19 : decode cX4_delivers 19 = .ok (.imul, 1) := by decide +kernel
theorem dX4_delivers_20 : decode cX4_delivers 20 = .ok (.iadd, 1) := by decide +kernel
theorem dX4_delivers_21 : decode cX4_delivers 21 = .ok (.istore_n 2, 1) := by decide +kernel
theorem dX4_delivers_22 : decode cX4_delivers 22 = .ok (.aload_n 0, 1) := by decide +kernel
theorem dX4_delivers_23 : decode cX4_delivers 23 = .ok (.getfield 7, 3) := by decide +kernel
theorem dX4_delivers_26 : decode cX4_delivers 26 = .ok (.iload_n 2, 1) := by decide +kernel
theorem dX4_delivers_27 : decode cX4_delivers 27 = .ok (.iconst 3, 1) := by decide +kernel
theorem dX4_delivers_28 : decode cX4_delivers 28 = .ok (.iadd, 1) := by decide +kernel
theorem dX4_delivers_29 : decode cX4_delivers 29 = .ok (.iaload, 1) := by decide +kernel
theorem dX4_delivers_30 : decode cX4_delivers 30 = .ok (.aload_n 0, 1) := by decide +kernel
theorem dX4_delivers_31 : decode cX4_delivers 31 = .ok (.getfield 7, 3) := by decide +kernel
theorem dX4_delivers_34 : decode cX4_delivers 34 = .ok (.bipush 14, 2) := by decide +kernel
theorem dX4_delivers_36 : decode cX4_delivers 36 = .ok (.iaload, 1) := by decide +kernel
theorem dX4_delivers_37 : decode cX4_delivers 37 = .ok (.if_icmp .ne 44, 3) := by decide +kernel
theorem dX4_delivers_40 : decode cX4_delivers 40 = .ok (.aload_n 0, 1) := by decide +kernel
theorem dX4_delivers_41 : decode cX4_delivers 41 = .ok (.aload_n 0, 1) := by decide +kernel
theorem dX4_delivers_42 : decode cX4_delivers 42 = .ok (.getfield 7, 3) := by decide +kernel
theorem dX4_delivers_45 : decode cX4_delivers 45 = .ok (.iload_n 2, 1) := by decide +kernel
theorem dX4_delivers_46 : decode cX4_delivers 46 = .ok (.iaload, 1) := by decide +kernel
theorem dX4_delivers_47 : decode cX4_delivers 47 = .ok (.aload_n 0, 1) := by decide +kernel
theorem dX4_delivers_48 : decode cX4_delivers 48 = .ok (.getfield 7, 3) := by decide +kernel
theorem dX4_delivers_51 : decode cX4_delivers 51 = .ok (.iload_n 2, 1) := by decide +kernel
theorem dX4_delivers_52 : decode cX4_delivers 52 = .ok (.iconst 1, 1) := by decide +kernel
theorem dX4_delivers_53 : decode cX4_delivers 53 = .ok (.iadd, 1) := by decide +kernel
theorem dX4_delivers_54 : decode cX4_delivers 54 = .ok (.iaload, 1) := by decide +kernel
theorem dX4_delivers_55 : decode cX4_delivers 55 = .ok (.aload_n 0, 1) := by decide +kernel
theorem dX4_delivers_56 : decode cX4_delivers 56 = .ok (.getfield 7, 3) := by decide +kernel
theorem dX4_delivers_59 : decode cX4_delivers 59 = .ok (.iload_n 2, 1) := by decide +kernel
theorem dX4_delivers_60 : decode cX4_delivers 60 = .ok (.iconst 2, 1) := by decide +kernel
theorem dX4_delivers_61 : decode cX4_delivers 61 = .ok (.iadd, 1) := by decide +kernel
theorem dX4_delivers_62 : decode cX4_delivers 62 = .ok (.iaload, 1) := by decide +kernel
theorem dX4_delivers_63 : decode cX4_delivers 63 = .ok (.invokevirtual 69, 3) := by decide +kernel
theorem dX4_delivers_66 : decode cX4_delivers 66 = .ok (.aload_n 0, 1) := by decide +kernel
theorem dX4_delivers_67 : decode cX4_delivers 67 = .ok (.sipush 478, 3) := by decide +kernel
theorem dX4_delivers_70 : decode cX4_delivers 70 = .ok (.sipush 479, 3) := by decide +kernel
theorem dX4_delivers_73 : decode cX4_delivers 73 = .ok (.iconst 4, 1) := by decide +kernel
theorem dX4_delivers_74 : decode cX4_delivers 74 = .ok (.iload_n 1, 1) := by decide +kernel
theorem dX4_delivers_75 : decode cX4_delivers 75 = .ok (.invokevirtual 65, 3) := by decide +kernel
theorem dX4_delivers_78 : decode cX4_delivers 78 = .ok (.goto 6, 3) := by decide +kernel
theorem dX4_delivers_81 : decode cX4_delivers 81 = .ok (.iinc 1 1, 3) := by decide +kernel
theorem dX4_delivers_84 : decode cX4_delivers 84 = .ok (.goto (-82), 3) := by decide +kernel
theorem dX4_delivers_87 : decode cX4_delivers 87 = .ok (.return_, 1) := by decide +kernel
set_option maxRecDepth 20000 in
theorem ggX4_tells_X4_recordOf : GoodIn wsX4_tells wsX4_recordOf := goodIn_r _ [6, 1, 7, 8, 5, 9, 14, 15, 16, 17, 18, 19, 20, 21] (by decide +kernel) (by decide +kernel)
set_option maxRecDepth 20000 in
theorem gX4_tells_X4_recordOf : GoodIn wsX4_tells (wsV RX4 73 RX4 yX4_recordOf wsX4_recordOf) := goodIn_app (goodIn_of _ (by decide +kernel)) ggX4_tells_X4_recordOf
