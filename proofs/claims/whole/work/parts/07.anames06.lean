set_option maxRecDepth 20000 in
theorem ggX4_tells_X4_entry : GoodIn wsX4_tells wsX4_entry := goodIn_r _ [9] (by decide +kernel) (by decide +kernel)
set_option maxRecDepth 20000 in
theorem gX4_tells_X4_entry : GoodIn wsX4_tells (va_wsS RX4 37 yX4_entry wsX4_entry) := goodIn_app (goodIn_of _ (by decide +kernel)) ggX4_tells_X4_entry
set_option maxRecDepth 20000 in
theorem ggX4_tells_X4_counts : GoodIn wsX4_tells wsX4_counts := goodIn_r _ [13, 1, 14, 15, 16, 17, 18, 19, 20, 21] (by decide +kernel) (by decide +kernel)
set_option maxRecDepth 20000 in
theorem gX4_tells_X4_counts : GoodIn wsX4_tells (wsV RX4 51 RX4 yX4_counts wsX4_counts) := goodIn_app (goodIn_of _ (by decide +kernel)) ggX4_tells_X4_counts
theorem dX4_tells_0 : decode cX4_tells 0 = .ok (.aload_n 0, 1) := by decide +kernel
theorem dX4_tells_1 : decode cX4_tells 1 = .ok (.iload_n 1, 1) := by decide +kernel
theorem dX4_tells_2 : decode cX4_tells 2 = .ok (.invokevirtual 73, 3) := by decide +kernel
theorem dX4_tells_5 : decode cX4_tells 5 = .ok (.istore 4, 2) := by decide +kernel
theorem dX4_tells_7 : decode cX4_tells 7 = .ok (.iload 4, 2) := by decide +kernel
theorem dX4_tells_9 : decode cX4_tells 9 = .ok (.iconst (-1), 1) := by decide +kernel
theorem dX4_tells_10 : decode cX4_tells 10 = .ok (.if_icmp .eq 18, 3) := by decide +kernel
theorem dX4_tells_13 : decode cX4_tells 13 = .ok (.aload_n 0, 1) := by decide +kernel
theorem dX4_tells_14 : decode cX4_tells 14 = .ok (.getfield 7, 3) := by decide +kernel
theorem dX4_tells_17 : decode cX4_tells 17 = .ok (.iload 4, 2) := by decide +kernel
theorem dX4_tells_19 : decode cX4_tells 19 = .ok (.iconst 4, 1) := by decide +kernel
theorem dX4_tells_20 : decode cX4_tells 20 = .ok (.invokestatic 37, 3) := by decide +kernel
theorem dX4_tells_23 : decode cX4_tells 23 = .ok (.iaload, 1) := by decide +kernel
theorem dX4_tells_24 : decode cX4_tells 24 = .ok (.iconst 1, 1) := by decide +kernel
theorem dX4_tells_25 : decode cX4_tells 25 = .ok (.if_icmp .ne 9, 3) := by decide +kernel
theorem dX4_tells_28 : decode cX4_tells 28 = .ok (.aload_n 0, 1) := by decide +kernel
theorem dX4_tells_29 : decode cX4_tells 29 = .ok (.iconst 4, 1) := by decide +kernel
theorem dX4_tells_30 : decode cX4_tells 30 = .ok (.invokevirtual 51, 3) := by decide +kernel
theorem dX4_tells_33 : decode cX4_tells 33 = .ok (.return_, 1) := by decide +kernel
theorem dX4_tells_34 : decode cX4_tells 34 = .ok (.aload_n 0, 1) := by decide +kernel
theorem dX4_tells_35 : decode cX4_tells 35 = .ok (.getfield 7, 3) := by decide +kernel
theorem dX4_tells_38 : decode cX4_tells 38 = .ok (.iload 4, 2) := by decide +kernel
theorem dX4_tells_40 : decode cX4_tells 40 = .ok (.iconst 2, 1) := by decide +kernel
theorem dX4_tells_41 : decode cX4_tells 41 = .ok (.invokestatic 37, 3) := by decide +kernel
theorem dX4_tells_44 : decode cX4_tells 44 = .ok (.iaload, 1) := by decide +kernel
theorem dX4_tells_45 : decode cX4_tells 45 = .ok (.istore 5, 2) := by decide +kernel
theorem dX4_tells_47 : decode cX4_tells 47 = .ok (.iload_n 2, 1) := by decide +kernel
theorem dX4_tells_48 : decode cX4_tells 48 = .ok (.ifCond .ne 28, 3) := by decide +kernel
theorem dX4_tells_51 : decode cX4_tells 51 = .ok (.aload_n 0, 1) := by decide +kernel
theorem dX4_tells_52 : decode cX4_tells 52 = .ok (.getfield 7, 3) := by decide +kernel
theorem dX4_tells_55 : decode cX4_tells 55 = .ok (.iload 4, 2) := by decide +kernel
theorem dX4_tells_57 : decode cX4_tells 57 = .ok (.iconst 2, 1) := by decide +kernel
theorem dX4_tells_58 : decode cX4_tells 58 = .ok (.invokestatic 37, 3) := by decide +kernel
theorem dX4_tells_61 : decode cX4_tells 61 = .ok (.iload 5, 2) := by decide +kernel
theorem dX4_tells_63 : decode cX4_tells 63 = .ok (.ifCond .ne 7, 3) := by decide +kernel
theorem dX4_tells_66 : decode cX4_tells 66 = .ok (.iload_n 3, 1) := by decide +kernel
theorem dX4_tells_67 : decode cX4_tells 67 = .ok (.goto 5, 3) := by decide +kernel
theorem dX4_tells_70 : decode cX4_tells 70 = .ok (.iload 5, 2) := by decide +kernel
theorem dX4_tells_72 : decode cX4_tells 72 = .ok (.iastore, 1) := by decide +kernel
theorem dX4_tells_73 : decode cX4_tells 73 = .ok (.goto 41, 3) := by decide +kernel
theorem dX4_tells_76 : decode cX4_tells 76 = .ok (.aload_n 0, 1) := by decide +kernel
theorem dX4_tells_77 : decode cX4_tells 77 = .ok (.getfield 7, 3) := by decide +kernel
theorem dX4_tells_80 : decode cX4_tells 80 = .ok (.iload 4, 2) := by decide +kernel
theorem dX4_tells_82 : decode cX4_tells 82 = .ok (.iconst 2, 1) := by decide +kernel
theorem dX4_tells_83 : decode cX4_tells 83 = .ok (.invokestatic 37, 3) := by decide +kernel
theorem dX4_tells_86 : decode cX4_tells 86 = .ok (.iload 5, 2) := by decide +kernel
theorem dX4_tells_88 : decode cX4_tells 88 = .ok (.iconst 1, 1) := by decide +kernel
theorem dX4_tells_89 : decode cX4_tells 89 = .ok (.if_icmp .eq 9, 3) := by decide +kernel
theorem dX4_tells_92 : decode cX4_tells 92 = .ok (.iload 5, 2) := by decide +kernel
theorem dX4_tells_94 : decode cX4_tells 94 = .ok (.iconst 2, 1) := by decide +kernel
theorem dX4_tells_95 : decode cX4_tells 95 = .ok (.if_icmp .ne 8, 3) := by decide +kernel
theorem dX4_tells_98 : decode cX4_tells 98 = .ok (.iload 5, 2) := by decide +kernel
theorem dX4_tells_100 : decode cX4_tells 100 = .ok (.goto 13, 3) := by decide +kernel
theorem dX4_tells_103 : decode cX4_tells 103 = .ok (.iload_n 3, 1) := by decide +kernel
theorem dX4_tells_104 : decode cX4_tells 104 = .ok (.iconst 1, 1) := by decide +kernel
theorem dX4_tells_105 : decode cX4_tells 105 = .ok (.if_icmp .ne 7, 3) := by decide +kernel
theorem dX4_tells_108 : decode cX4_tells 108 = .ok (.iconst 1, 1) := by decide +kernel
theorem dX4_tells_109 : decode cX4_tells 109 = .ok (.goto 4, 3) := by decide +kernel
theorem dX4_tells_112 : decode cX4_tells 112 = .ok (.iconst 2, 1) := by decide +kernel
theorem dX4_tells_113 : decode cX4_tells 113 = .ok (.iastore, 1) := by decide +kernel
theorem dX4_tells_114 : decode cX4_tells 114 = .ok (.return_, 1) := by decide +kernel
set_option maxRecDepth 20000 in
theorem ggX4_arrives_X4_drops : GoodIn wsX4_arrives wsX4_drops := goodIn_r _ [6, 1, 15, 16, 17, 18, 19, 20, 21, 22] (by decide +kernel) (by decide +kernel)
set_option maxRecDepth 20000 in
theorem gX4_arrives_X4_drops : GoodIn wsX4_arrives (wsV RX4 65 RX4 yX4_drops wsX4_drops) := goodIn_app (goodIn_of _ (by decide +kernel)) ggX4_arrives_X4_drops
set_option maxRecDepth 20000 in
theorem ggX4_arrives_X4_counts : GoodIn wsX4_arrives wsX4_counts := goodIn_r _ [10, 1, 15, 16, 17, 18, 19, 20, 21, 22] (by decide +kernel) (by decide +kernel)
set_option maxRecDepth 20000 in
theorem gX4_arrives_X4_counts : GoodIn wsX4_arrives (wsV RX4 51 RX4 yX4_counts wsX4_counts) := goodIn_app (goodIn_of _ (by decide +kernel)) ggX4_arrives_X4_counts
set_option maxRecDepth 20000 in
theorem ggX4_arrives_X4_alarms : GoodIn wsX4_arrives wsX4_alarms := goodIn_r _ [14, 1, 7, 8, 9, 5, 10, 15, 16, 17, 18, 19, 20, 21, 22] (by decide +kernel) (by decide +kernel)
set_option maxRecDepth 20000 in
theorem gX4_arrives_X4_alarms : GoodIn wsX4_arrives (wsV RX4 76 RX4 yX4_alarms wsX4_alarms) := goodIn_app (goodIn_of _ (by decide +kernel)) ggX4_arrives_X4_alarms
theorem dX4_arrives_0 : decode cX4_arrives 0 = .ok (.iconst 0, 1) := by decide +kernel
theorem dX4_arrives_1 : decode cX4_arrives 1 = .ok (.istore_n 1, 1) := by decide +kernel
theorem dX4_arrives_2 : decode cX4_arrives 2 = .ok (.iload_n 1, 1) := by decide +kernel
theorem dX4_arrives_3 : decode cX4_arrives 3 = .ok (.aload_n 0, 1) := by decide +kernel
theorem dX4_arrives_4 : decode cX4_arrives 4 = .ok (.getfield 7, 3) := by decide +kernel
theorem dX4_arrives_7 : decode cX4_arrives 7 = .ok (.sipush 959, 3) := by decide +kernel
theorem dX4_arrives_10 : decode cX4_arrives 10 = .ok (.iaload, 1) := by decide +kernel
theorem dX4_arrives_11 : decode cX4_arrives 11 = .ok (.if_icmp .ge 81, 3) := by decide +kernel
theorem dX4_arrives_14 : decode cX4_arrives 14 = .ok (.aload_n 0, 1) := by decide +kernel
theorem dX4_arrives_15 : decode cX4_arrives 15 = .ok (.getfield 7, 3) := by decide +kernel
theorem dX4_arrives_18 : decode cX4_arrives 18 = .ok (.sipush 960, 3) := by decide +kernel
theorem dX4_arrives_21 : decode cX4_arrives 21 = .ok (.iload_n 1, 1) := by decide +kernel
theorem dX4_arrives_22 : decode cX4_arrives 22 = .ok (.iadd, 1) := by decide +kernel
theorem dX4_arrives_23 : decode cX4_arrives 23 = .ok (.iaload, 1) := by decide +kernel
theorem dX4_arrives_24 : decode cX4_arrives 24 = .ok (.aload_n 0, 1) := by decide +kernel
theorem dX4_arrives_25 : decode cX4_arrives 25 = .ok (.getfield 7, 3) := by decide +kernel
theorem dX4_arrives_28 : decode cX4_arrives 28 = .ok (.bipush 14, 2) := by decide +kernel
theorem dX4_arrives_30 : decode cX4_arrives 30 = .ok (.iaload, 1) := by decide +kernel
theorem dX4_arrives_31 : decode cX4_arrives 31 = .ok (.if_icmp .ne 55, 3) := by decide +kernel
theorem dX4_arrives_34 : decode cX4_arrives 34 = .ok (.aload_n 0, 1) := by decide +kernel
theorem dX4_arrives_35 : decode cX4_arrives 35 = .ok (.sipush 959, 3) := by decide +kernel
theorem dX4_arrives_38 : decode cX4_arrives 38 = .ok (.sipush 960, 3) := by decide +kernel
theorem dX4_arrives_41 : decode cX4_arrives 41 = .ok (.iconst 1, 1) := by decide +kernel
theorem dX4_arrives_42 : decode cX4_arrives 42 = .ok (.iload_n 1, 1) := by decide +kernel
theorem dX4_arrives_43 : decode cX4_arrives 43 = .ok (.invokevirtual 65, 3) := by decide +kernel
theorem dX4_arrives_46 : decode cX4_arrives 46 = .ok (.aload_n 0, 1) := by decide +kernel
theorem dX4_arrives_47 : decode cX4_arrives 47 = .ok (.getfield 7, 3) := by decide +kernel
theorem dX4_arrives_50 : decode cX4_arrives 50 = .ok (.sipush 1040, 3) := by decide +kernel
theorem dX4_arrives_53 : decode cX4_arrives 53 = .ok (.iaload, 1) := by decide +kernel
theorem dX4_arrives_54 : decode cX4_arrives 54 = .ok (.ifCond .le 24, 3) := by decide +kernel
theorem dX4_arrives_57 : decode cX4_arrives 57 = .ok (.aload_n 0, 1) := by decide +kernel
theorem dX4_arrives_58 : decode cX4_arrives 58 = .ok (.sipush 1040, 3) := by decide +kernel
theorem dX4_arrives_61 : decode cX4_arrives 61 = .ok (.sipush 1041, 3) := by decide +kernel
theorem dX4_arrives_64 : decode cX4_arrives 64 = .ok (.iconst 1, 1) := by decide +kernel
theorem dX4_arrives_65 : decode cX4_arrives 65 = .ok (.iconst 0, 1) := by decide +kernel
theorem dX4_arrives_66 : decode cX4_arrives 66 = .ok (.invokevirtual 65, 3) := by decide +kernel
theorem dX4_arrives_69 : decode cX4_arrives 69 = .ok (.aload_n 0, 1) := by decide +kernel
theorem dX4_arrives_70 : decode cX4_arrives 70 = .ok (.bipush 6, 2) := by decide +kernel
theorem dX4_arrives_72 : decode cX4_arrives 72 = .ok (.invokevirtual 51, 3) := by decide +kernel
theorem dX4_arrives_75 : decode cX4_arrives 75 = .ok (.goto (-73), 3) := by decide +kernel
theorem dX4_arrives_78 : decode cX4_arrives 78 = .ok (.aload_n 0, 1) := by decide +kernel
theorem dX4_arrives_79 : decode cX4_arrives 79 = .ok (.iconst 3, 1) := by decide +kernel
theorem dX4_arrives_80 : decode cX4_arrives 80 = .ok (.invokevirtual 76, 3) := by decide +kernel
theorem dX4_arrives_83 : decode cX4_arrives 83 = .ok (.goto (-81), 3) := by decide +kernel
theorem dX4_arrives_86 : decode cX4_arrives 86 = .ok (.iinc 1 1, 3) := by decide +kernel
theorem dX4_arrives_89 : decode cX4_arrives 89 = .ok (.goto (-87), 3) := by decide +kernel
theorem dX4_arrives_92 : decode cX4_arrives 92 = .ok (.iconst 0, 1) := by decide +kernel
theorem dX4_arrives_93 : decode cX4_arrives 93 = .ok (.istore_n 2, 1) := by decide +kernel
theorem dX4_arrives_94 : decode cX4_arrives 94 = .ok (.iload_n 2, 1) := by decide +kernel
theorem dX4_arrives_95 : decode cX4_arrives 95 = .ok (.aload_n 0, 1) := by decide +kernel
theorem dX4_arrives_96 : decode cX4_arrives 96 = .ok (.getfield 7, 3) := by decide +kernel
theorem dX4_arrives_99 : decode cX4_arrives 99 = .ok (.sipush 1040, 3) := by decide +kernel
theorem dX4_arrives_102 : decode cX4_arrives 102 = .ok (.iaload, 1) := by decide +kernel
theorem dX4_arrives_103 : decode cX4_arrives 103 = .ok (.if_icmp .ge 49, 3) := by decide +kernel
theorem dX4_arrives_106 : decode cX4_arrives 106 = .ok (.aload_n 0, 1) := by decide +kernel
theorem dX4_arrives_107 : decode cX4_arrives 107 = .ok (.getfield 7, 3) := by decide +kernel
theorem dX4_arrives_110 : decode cX4_arrives 110 = .ok (.sipush 1041, 3) := by decide +kernel
theorem dX4_arrives_113 : decode cX4_arrives 113 = .ok (.iload_n 2, 1) := by decide +kernel
theorem dX4_arrives_114 : decode cX4_arrives 114 = .ok (.iadd, 1) := by decide +kernel
theorem dX4_arrives_115 : decode cX4_arrives 115 = .ok (.iaload, 1) := by decide +kernel
theorem dX4_arrives_116 : decode cX4_arrives 116 = .ok (.aload_n 0, 1) := by decide +kernel
theorem dX4_arrives_117 : decode cX4_arrives 117 = .ok (.getfield 7, 3) := by decide +kernel
theorem dX4_arrives_120 : decode cX4_arrives 120 = .ok (.bipush 14, 2) := by decide +kernel
theorem dX4_arrives_122 : decode cX4_arrives 122 = .ok (.iaload, 1) := by decide +kernel
theorem dX4_arrives_123 : decode cX4_arrives 123 = .ok (.if_icmp .ge 23, 3) := by decide +kernel
theorem dX4_arrives_126 : decode cX4_arrives 126 = .ok (.aload_n 0, 1) := by decide +kernel
theorem dX4_arrives_127 : decode cX4_arrives 127 = .ok (.sipush 1040, 3) := by decide +kernel
theorem dX4_arrives_130 : decode cX4_arrives 130 = .ok (.sipush 1041, 3) := by decide +kernel
theorem dX4_arrives_133 : decode cX4_arrives 133 = .ok (.iconst 1, 1) := by decide +kernel
theorem dX4_arrives_134 : decode cX4_arrives 134 = .ok (.iload_n 2, 1) := by decide +kernel
theorem dX4_arrives_135 : decode cX4_arrives 135 = .ok (.invokevirtual 65, 3) := by decide +kernel
theorem dX4_arrives_138 : decode cX4_arrives 138 = .ok (.aload_n 0, 1) := by decide +kernel
theorem dX4_arrives_139 : decode cX4_arrives 139 = .ok (.iconst 2, 1) := by decide +kernel
theorem dX4_arrives_140 : decode cX4_arrives 140 = .ok (.invokevirtual 76, 3) := by decide +kernel
theorem dX4_arrives_143 : decode cX4_arrives 143 = .ok (.goto (-49), 3) := by decide +kernel
theorem dX4_arrives_146 : decode cX4_arrives 146 = .ok (.iinc 2 1, 3) := by decide +kernel
theorem dX4_arrives_149 : decode cX4_arrives 149 = .ok (.goto (-55), 3) := by decide +kernel
theorem dX4_arrives_152 : decode cX4_arrives 152 = .ok (.return_, 1) := by decide +kernel
set_option maxRecDepth 20000 in
theorem ggX4_itemAt_X4_thing : GoodIn wsX4_itemAt wsX4_thing := goodIn_r _ [5] (by decide +kernel) (by decide +kernel)
set_option maxRecDepth 20000 in
theorem gX4_itemAt_X4_thing : GoodIn wsX4_itemAt (va_wsS RX4 33 yX4_thing wsX4_thing) := goodIn_app (goodIn_of _ (by decide +kernel)) ggX4_itemAt_X4_thing
theorem dX4_itemAt_0 : decode cX4_itemAt 0 = .ok (.iconst (-1), 1) := by decide +kernel
theorem dX4_itemAt_1 : decode cX4_itemAt 1 = .ok (.istore_n 2, 1) := by decide +kernel
theorem dX4_itemAt_2 : decode cX4_itemAt 2 = .ok (.aload_n 0, 1) := by decide +kernel
theorem dX4_itemAt_3 : decode cX4_itemAt 3 = .ok (.getfield 7, 3) := by decide +kernel
theorem dX4_itemAt_6 : decode cX4_itemAt 6 = .ok (.iconst 5, 1) := by decide +kernel
theorem dX4_itemAt_7 : decode cX4_itemAt 7 = .ok (.iaload, 1) := by decide +kernel
theorem dX4_itemAt_8 : decode cX4_itemAt 8 = .ok (.iconst 1, 1) := by decide +kernel
theorem dX4_itemAt_9 : decode cX4_itemAt 9 = .ok (.iadd, 1) := by decide +kernel
theorem dX4_itemAt_10 : decode cX4_itemAt 10 = .ok (.istore_n 3, 1) := by decide +kernel
theorem dX4_itemAt_11 : decode cX4_itemAt 11 = .ok (.iconst 0, 1) := by decide +kernel
theorem dX4_itemAt_12 : decode cX4_itemAt 12 = .ok (.istore 4, 2) := by decide +kernel
theorem dX4_itemAt_14 : decode cX4_itemAt 14 = .ok (.iload 4, 2) := by decide +kernel
theorem dX4_itemAt_16 : decode cX4_itemAt 16 = .ok (.aload_n 0, 1) := by decide +kernel
theorem dX4_itemAt_17 : decode cX4_itemAt 17 = .ok (.getfield 7, 3) := by decide +kernel
theorem dX4_itemAt_20 : decode cX4_itemAt 20 = .ok (.bipush 36, 2) := by decide +kernel
theorem dX4_itemAt_22 : decode cX4_itemAt 22 = .ok (.iaload, 1) := by decide +kernel
theorem dX4_itemAt_23 : decode cX4_itemAt 23 = .ok (.if_icmp .ge 51, 3) := by decide +kernel
theorem dX4_itemAt_26 : decode cX4_itemAt 26 = .ok (.aload_n 0, 1) := by decide +kernel
theorem dX4_itemAt_27 : decode cX4_itemAt 27 = .ok (.getfield 7, 3) := by decide +kernel
theorem dX4_itemAt_30 : decode cX4_itemAt 30 = .ok (.iload 4, 2) := by decide +kernel
theorem dX4_itemAt_32 : decode cX4_itemAt 32 = .ok (.iconst 1, 1) := by decide +kernel
theorem dX4_itemAt_33 : decode cX4_itemAt 33 = .ok (.invokestatic 33, 3) := by decide +kernel
theorem dX4_itemAt_36 : decode cX4_itemAt 36 = .ok (.iaload, 1) := by decide +kernel
theorem dX4_itemAt_37 : decode cX4_itemAt 37 = .ok (.iload_n 1, 1) := by decide +kernel
theorem dX4_itemAt_38 : decode cX4_itemAt 38 = .ok (.isub, 1) := by decide +kernel
theorem dX4_itemAt_39 : decode cX4_itemAt 39 = .ok (.istore 5, 2) := by decide +kernel
theorem dX4_itemAt_41 : decode cX4_itemAt 41 = .ok (.iload 5, 2) := by decide +kernel
theorem dX4_itemAt_43 : decode cX4_itemAt 43 = .ok (.ifCond .ge 9, 3) := by decide +kernel
theorem dX4_itemAt_46 : decode cX4_itemAt 46 = .ok (.iload 5, 2) := by decide +kernel
theorem dX4_itemAt_48 : decode cX4_itemAt 48 = .ok (.ineg, 1) := by decide +kernel
theorem dX4_itemAt_49 : decode cX4_itemAt 49 = .ok (.goto 5, 3) := by decide +kernel
theorem dX4_itemAt_52 : decode cX4_itemAt 52 = .ok (.iload 5, 2) := by decide +kernel
theorem dX4_itemAt_54 : decode cX4_itemAt 54 = .ok (.istore 5, 2) := by decide +kernel
theorem dX4_itemAt_56 : decode cX4_itemAt 56 = .ok (.iload 5, 2) := by decide +kernel
theorem dX4_itemAt_58 : decode cX4_itemAt 58 = .ok (.iload_n 3, 1) := by decide +kernel
theorem dX4_itemAt_59 : decode cX4_itemAt 59 = .ok (.if_icmp .ge 9, 3) := by decide +kernel
theorem dX4_itemAt_62 : decode cX4_itemAt 62 = .ok (.iload 5, 2) := by decide +kernel
theorem dX4_itemAt_64 : decode cX4_itemAt 64 = .ok (.istore_n 3, 1) := by decide +kernel
theorem dX4_itemAt_65 : decode cX4_itemAt 65 = .ok (.iload 4, 2) := by decide +kernel
theorem dX4_itemAt_67 : decode cX4_itemAt 67 = .ok (.istore_n 2, 1) := by decide +kernel
theorem dX4_itemAt_68 : decode cX4_itemAt 68 = .ok (.iinc 4 1, 3) := by decide +kernel
theorem dX4_itemAt_71 : decode cX4_itemAt 71 = .ok (.goto (-57), 3) := by decide +kernel
theorem dX4_itemAt_74 : decode cX4_itemAt 74 = .ok (.iload_n 2, 1) := by decide +kernel
theorem dX4_itemAt_75 : decode cX4_itemAt 75 = .ok (.ireturn, 1) := by decide +kernel
set_option maxRecDepth 20000 in
theorem ggX4_labels_X4_entry : GoodIn wsX4_labels wsX4_entry := goodIn_r _ [5] (by decide +kernel) (by decide +kernel)
set_option maxRecDepth 20000 in
theorem gX4_labels_X4_entry : GoodIn wsX4_labels (va_wsS RX4 37 yX4_entry wsX4_entry) := goodIn_app (goodIn_of _ (by decide +kernel)) ggX4_labels_X4_entry
set_option maxRecDepth 20000 in
theorem ggX4_labels_X4_itemAt : GoodIn wsX4_labels wsX4_itemAt := goodIn_r _ [9, 1, 10, 11, 4, 12, 17, 18, 19, 20, 21, 22, 23, 24] (by decide +kernel) (by decide +kernel)
set_option maxRecDepth 20000 in
theorem gX4_labels_X4_itemAt : GoodIn wsX4_labels (wsV RX4 79 RX4 yX4_itemAt wsX4_itemAt) := goodIn_app (goodIn_of _ (by decide +kernel)) ggX4_labels_X4_itemAt
set_option maxRecDepth 20000 in
theorem ggX4_labels_X4_counts : GoodIn wsX4_labels wsX4_counts := goodIn_r _ [16, 1, 17, 18, 19, 20, 21, 22, 23, 24] (by decide +kernel) (by decide +kernel)
set_option maxRecDepth 20000 in
theorem gX4_labels_X4_counts : GoodIn wsX4_labels (wsV RX4 51 RX4 yX4_counts wsX4_counts) := goodIn_app (goodIn_of _ (by decide +kernel)) ggX4_labels_X4_counts
set_option maxRecDepth 20000 in
theorem ggX4_labels_X4_thing : GoodIn wsX4_labels wsX4_thing := goodIn_r _ [12] (by decide +kernel) (by decide +kernel)
set_option maxRecDepth 20000 in
theorem gX4_labels_X4_thing : GoodIn wsX4_labels (va_wsS RX4 33 yX4_thing wsX4_thing) := goodIn_app (goodIn_of _ (by decide +kernel)) ggX4_labels_X4_thing
theorem dX4_labels_0 : decode cX4_labels 0 = .ok (.aload_n 0, 1) := by decide +kernel
theorem dX4_labels_1 : decode cX4_labels 1 = .ok (.getfield 7, 3) := by decide +kernel
theorem dX4_labels_4 : decode cX4_labels 4 = .ok (.bipush 6, 2) := by decide +kernel
theorem dX4_labels_6 : decode cX4_labels 6 = .ok (.iaload, 1) := by decide +kernel
theorem dX4_labels_7 : decode cX4_labels 7 = .ok (.ifCond .eq 14, 3) := by decide +kernel
theorem dX4_labels_10 : decode cX4_labels 10 = .ok (.aload_n 0, 1) := by decide +kernel
theorem dX4_labels_11 : decode cX4_labels 11 = .ok (.getfield 7, 3) := by decide +kernel
theorem dX4_labels_14 : decode cX4_labels 14 = .ok (.bipush 13, 2) := by decide +kernel
theorem dX4_labels_16 : decode cX4_labels 16 = .ok (.iaload, 1) := by decide +kernel
theorem dX4_labels_17 : decode cX4_labels 17 = .ok (.iconst 1, 1) := by decide +kernel
theorem dX4_labels_18 : decode cX4_labels 18 = .ok (.if_icmp .ne 15, 3) := by decide +kernel
theorem dX4_labels_21 : decode cX4_labels 21 = .ok (.aload_n 0, 1) := by decide +kernel
theorem dX4_labels_22 : decode cX4_labels 22 = .ok (.getfield 7, 3) := by decide +kernel
theorem dX4_labels_25 : decode cX4_labels 25 = .ok (.iload_n 1, 1) := by decide +kernel
theorem dX4_labels_26 : decode cX4_labels 26 = .ok (.iconst 3, 1) := by decide +kernel
theorem dX4_labels_27 : decode cX4_labels 27 = .ok (.invokestatic 37, 3) := by decide +kernel
theorem dX4_labels_30 : decode cX4_labels 30 = .ok (.iconst 1, 1) := by decide +kernel
theorem dX4_labels_31 : decode cX4_labels 31 = .ok (.iastore, 1) := by decide +kernel
theorem dX4_labels_32 : decode cX4_labels 32 = .ok (.return_, 1) := by decide +kernel
theorem dX4_labels_33 : decode cX4_labels 33 = .ok (.aload_n 0, 1) := by decide +kernel
theorem dX4_labels_34 : decode cX4_labels 34 = .ok (.getfield 7, 3) := by decide +kernel
theorem dX4_labels_37 : decode cX4_labels 37 = .ok (.bipush 6, 2) := by decide +kernel
theorem dX4_labels_39 : decode cX4_labels 39 = .ok (.dup2, 1) := by decide +kernel
theorem dX4_labels_40 : decode cX4_labels 40 = .ok (.iaload, 1) := by decide +kernel
theorem dX4_labels_41 : decode cX4_labels 41 = .ok (.iconst 1, 1) := by decide +kernel
theorem dX4_labels_42 : decode cX4_labels 42 = .ok (.isub, 1) := by decide +kernel
theorem dX4_labels_43 : decode cX4_labels 43 = .ok (.iastore, 1) := by decide +kernel
theorem dX4_labels_44 : decode cX4_labels 44 = .ok (.aload_n 0, 1) := by decide +kernel
theorem dX4_labels_45 : decode cX4_labels 45 = .ok (.aload_n 0, 1) := by decide +kernel
theorem dX4_labels_46 : decode cX4_labels 46 = .ok (.getfield 7, 3) := by decide +kernel
theorem dX4_labels_49 : decode cX4_labels 49 = .ok (.bipush 7, 2) := by decide +kernel
theorem dX4_labels_51 : decode cX4_labels 51 = .ok (.iaload, 1) := by decide +kernel
theorem dX4_labels_52 : decode cX4_labels 52 = .ok (.invokevirtual 79, 3) := by decide +kernel
theorem dX4_labels_55 : decode cX4_labels 55 = .ok (.istore_n 2, 1) := by decide +kernel
theorem dX4_labels_56 : decode cX4_labels 56 = .ok (.iload_n 2, 1) := by decide +kernel
theorem dX4_labels_57 : decode cX4_labels 57 = .ok (.iconst (-1), 1) := by decide +kernel
theorem dX4_labels_58 : decode cX4_labels 58 = .ok (.if_icmp .ne 11, 3) := by decide +kernel
theorem dX4_labels_61 : decode cX4_labels 61 = .ok (.aload_n 0, 1) := by decide +kernel
theorem dX4_labels_62 : decode cX4_labels 62 = .ok (.iconst 5, 1) := by decide +kernel
theorem dX4_labels_63 : decode cX4_labels 63 = .ok (.invokevirtual 51, 3) := by decide +kernel
theorem dX4_labels_66 : decode cX4_labels 66 = .ok (.goto 14, 3) := by decide +kernel
theorem dX4_labels_69 : decode cX4_labels 69 = .ok (.aload_n 0, 1) := by decide +kernel
theorem dX4_labels_70 : decode cX4_labels 70 = .ok (.getfield 7, 3) := by decide +kernel
theorem dX4_labels_73 : decode cX4_labels 73 = .ok (.iload_n 2, 1) := by decide +kernel
theorem dX4_labels_74 : decode cX4_labels 74 = .ok (.iconst 3, 1) := by decide +kernel
theorem dX4_labels_75 : decode cX4_labels 75 = .ok (.invokestatic 33, 3) := by decide +kernel
theorem dX4_labels_78 : decode cX4_labels 78 = .ok (.iconst 1, 1) := by decide +kernel
theorem dX4_labels_79 : decode cX4_labels 79 = .ok (.iastore, 1) := by decide +kernel
theorem dX4_labels_80 : decode cX4_labels 80 = .ok (.return_, 1) := by decide +kernel
set_option maxRecDepth 20000 in
theorem ggX4_looks_X4_entry : GoodIn wsX4_looks wsX4_entry := goodIn_r _ [5] (by decide +kernel) (by decide +kernel)
set_option maxRecDepth 20000 in
theorem gX4_looks_X4_entry : GoodIn wsX4_looks (va_wsS RX4 37 yX4_entry wsX4_entry) := goodIn_app (goodIn_of _ (by decide +kernel)) ggX4_looks_X4_entry
set_option maxRecDepth 20000 in
theorem ggX4_looks_X4_itemAt : GoodIn wsX4_looks wsX4_itemAt := goodIn_r _ [9, 1, 10, 11, 4, 12, 13, 14, 15, 16, 17, 18, 19, 20] (by decide +kernel) (by decide +kernel)
set_option maxRecDepth 20000 in
theorem gX4_looks_X4_itemAt : GoodIn wsX4_looks (wsV RX4 79 RX4 yX4_itemAt wsX4_itemAt) := goodIn_app (goodIn_of _ (by decide +kernel)) ggX4_looks_X4_itemAt
set_option maxRecDepth 20000 in
theorem ggX4_looks_X4_thing : GoodIn wsX4_looks wsX4_thing := goodIn_r _ [12] (by decide +kernel) (by decide +kernel)
set_option maxRecDepth 20000 in
theorem gX4_looks_X4_thing : GoodIn wsX4_looks (va_wsS RX4 33 yX4_thing wsX4_thing) := goodIn_app (goodIn_of _ (by decide +kernel)) ggX4_looks_X4_thing
theorem dX4_looks_0 : decode cX4_looks 0 = .ok (.iload_n 2, 1) := by decide +kernel
theorem dX4_looks_1 : decode cX4_looks 1 = .ok (.iconst 1, 1) := by decide +kernel
theorem dX4_looks_2 : decode cX4_looks 2 = .ok (.if_icmp .ne 18, 3) := by decide +kernel
theorem dX4_looks_5 : decode cX4_looks 5 = .ok (.aload_n 0, 1) := by decide +kernel
theorem dX4_looks_6 : decode cX4_looks 6 = .ok (.getfield 7, 3) := by decide +kernel
theorem dX4_looks_9 : decode cX4_looks 9 = .ok (.iload_n 1, 1) := by decide +kernel
theorem dX4_looks_10 : decode cX4_looks 10 = .ok (.iconst 2, 1) := by decide +kernel
theorem dX4_looks_11 : decode cX4_looks 11 = .ok (.invokestatic 37, 3) := by decide +kernel
theorem dX4_looks_14 : decode cX4_looks 14 = .ok (.iaload, 1) := by decide +kernel
theorem dX4_looks_15 : decode cX4_looks 15 = .ok (.iconst 3, 1) := by decide +kernel
theorem dX4_looks_16 : decode cX4_looks 16 = .ok (.if_icmp .eq 4, 3) := by decide +kernel
theorem dX4_looks_19 : decode cX4_looks 19 = .ok (.return_, 1) := by decide +kernel
theorem dX4_looks_20 : decode cX4_looks 20 = .ok (.aload_n 0, 1) := by decide +kernel
theorem dX4_looks_21 : decode cX4_looks 21 = .ok (.aload_n 0, 1) := by decide +kernel
theorem dX4_looks_22 : decode cX4_looks 22 = .ok (.getfield 7, 3) := by decide +kernel
theorem dX4_looks_25 : decode cX4_looks 25 = .ok (.bipush 8, 2) := by decide +kernel
theorem dX4_looks_27 : decode cX4_looks 27 = .ok (.iload_n 2, 1) := by decide +kernel
theorem dX4_looks_28 : decode cX4_looks 28 = .ok (.iadd, 1) := by decide +kernel
theorem dX4_looks_29 : decode cX4_looks 29 = .ok (.iaload, 1) := by decide +kernel
theorem dX4_looks_30 : decode cX4_looks 30 = .ok (.invokevirtual 79, 3) := by decide +kernel
theorem dX4_looks_33 : decode cX4_looks 33 = .ok (.istore_n 3, 1) := by decide +kernel
theorem dX4_looks_34 : decode cX4_looks 34 = .ok (.iconst 2, 1) := by decide +kernel
theorem dX4_looks_35 : decode cX4_looks 35 = .ok (.istore 4, 2) := by decide +kernel
theorem dX4_looks_37 : decode cX4_looks 37 = .ok (.iload_n 3, 1) := by decide +kernel
theorem dX4_looks_38 : decode cX4_looks 38 = .ok (.iconst (-1), 1) := by decide +kernel
theorem dX4_looks_39 : decode cX4_looks 39 = .ok (.if_icmp .eq 66, 3) := by decide +kernel
theorem dX4_looks_42 : decode cX4_looks 42 = .ok (.aload_n 0, 1) := by decide +kernel
theorem dX4_looks_43 : decode cX4_looks 43 = .ok (.getfield 7, 3) := by decide +kernel
theorem dX4_looks_46 : decode cX4_looks 46 = .ok (.iload_n 3, 1) := by decide +kernel
theorem dX4_looks_47 : decode cX4_looks 47 = .ok (.iconst 3, 1) := by decide +kernel
theorem dX4_looks_48 : decode cX4_looks 48 = .ok (.invokestatic 33, 3) := by decide +kernel
theorem dX4_looks_51 : decode cX4_looks 51 = .ok (.iaload, 1) := by decide +kernel
theorem dX4_looks_52 : decode cX4_looks 52 = .ok (.iconst 1, 1) := by decide +kernel
theorem dX4_looks_53 : decode cX4_looks 53 = .ok (.if_icmp .ne 52, 3) := by decide +kernel
theorem dX4_looks_56 : decode cX4_looks 56 = .ok (.aload_n 0, 1) := by decide +kernel
theorem dX4_looks_57 : decode cX4_looks 57 = .ok (.getfield 7, 3) := by decide +kernel
theorem dX4_looks_60 : decode cX4_looks 60 = .ok (.iload_n 3, 1) := by decide +kernel
theorem dX4_looks_61 : decode cX4_looks 61 = .ok (.iconst 2, 1) := by decide +kernel
theorem dX4_looks_62 : decode cX4_looks 62 = .ok (.invokestatic 33, 3) := by decide +kernel
theorem dX4_looks_65 : decode cX4_looks 65 = .ok (.iaload, 1) := by decide +kernel
theorem dX4_looks_66 : decode cX4_looks 66 = .ok (.istore 5, 2) := by decide +kernel
theorem dX4_looks_68 : decode cX4_looks 68 = .ok (.iload 5, 2) := by decide +kernel
theorem dX4_looks_70 : decode cX4_looks 70 = .ok (.ifCond .ne 7, 3) := by decide +kernel
theorem dX4_looks_73 : decode cX4_looks 73 = .ok (.iconst 1, 1) := by decide +kernel
theorem dX4_looks_74 : decode cX4_looks 74 = .ok (.goto 29, 3) := by decide +kernel
theorem dX4_looks_77 : decode cX4_looks 77 = .ok (.iload 5, 2) := by decide +kernel
theorem dX4_looks_79 : decode cX4_looks 79 = .ok (.iconst 1, 1) := by decide +kernel
theorem dX4_looks_80 : decode cX4_looks 80 = .ok (.if_icmp .ne 7, 3) := by decide +kernel
theorem dX4_looks_83 : decode cX4_looks 83 = .ok (.iconst 2, 1) := by decide +kernel
theorem dX4_looks_84 : decode cX4_looks 84 = .ok (.goto 19, 3) := by decide +kernel
theorem dX4_looks_87 : decode cX4_looks 87 = .ok (.iload 5, 2) := by decide +kernel
theorem dX4_looks_89 : decode cX4_looks 89 = .ok (.iconst 2, 1) := by decide +kernel
theorem dX4_looks_90 : decode cX4_looks 90 = .ok (.if_icmp .ne 12, 3) := by decide +kernel
theorem dX4_looks_93 : decode cX4_looks 93 = .ok (.iload_n 2, 1) := by decide +kernel
theorem dX4_looks_94 : decode cX4_looks 94 = .ok (.iconst 1, 1) := by decide +kernel
theorem dX4_looks_95 : decode cX4_looks 95 = .ok (.if_icmp .ne 7, 3) := by decide +kernel
theorem dX4_looks_98 : decode cX4_looks 98 = .ok (.iconst 1, 1) := by decide +kernel
theorem dX4_looks_99 : decode cX4_looks 99 = .ok (.goto 4, 3) := by decide +kernel
theorem dX4_looks_102 : decode cX4_looks 102 = .ok (.iconst 3, 1) := by decide +kernel
theorem dX4_looks_103 : decode cX4_looks 103 = .ok (.istore 4, 2) := by decide +kernel
theorem dX4_looks_105 : decode cX4_looks 105 = .ok (.sipush 479, 3) := by decide +kernel
theorem dX4_looks_108 : decode cX4_looks 108 = .ok (.iconst 4, 1) := by decide +kernel
theorem dX4_looks_109 : decode cX4_looks 109 = .ok (.aload_n 0, 1) := by decide +kernel
theorem dX4_looks_110 : decode cX4_looks 110 = .ok (.getfield 7, 3) := by decide +kernel
theorem dX4_looks_113 : decode cX4_looks 113 = .ok (.sipush 478, 3) := by decide +kernel
theorem dX4_looks_116 : decode cX4_looks 116 = .ok (.iaload, 1) := by decide +kernel
theorem dX4_looks_117 : decode cX4_looks 117 = .ok (.imul, 1) := by decide +kernel
theorem dX4_looks_118 : decode cX4_looks 118 = .ok (.iadd, 1) := by decide +kernel
theorem dX4_looks_119 : decode cX4_looks 119 = .ok (.istore 5, 2) := by decide +kernel
theorem dX4_looks_121 : decode cX4_looks 121 = .ok (.aload_n 0, 1) := by decide +kernel
theorem dX4_looks_122 : decode cX4_looks 122 = .ok (.getfield 7, 3) := by decide +kernel
theorem dX4_looks_125 : decode cX4_looks 125 = .ok (.iload 5, 2) := by decide +kernel
theorem dX4_looks_127 : decode cX4_looks 127 = .ok (.aload_n 0, 1) := by decide +kernel
theorem dX4_looks_128 : decode cX4_looks 128 = .ok (.getfield 7, 3) := by decide +kernel
theorem dX4_looks_131 : decode cX4_looks 131 = .ok (.iload_n 1, 1) := by decide +kernel
theorem dX4_looks_132 : decode cX4_looks 132 = .ok (.iconst 0, 1) := by decide +kernel
theorem dX4_looks_133 : decode cX4_looks 133 = .ok (.invokestatic 37, 3) := by decide +kernel
theorem dX4_looks_136 : decode cX4_looks 136 = .ok (.iaload, 1) := by decide +kernel
theorem dX4_looks_137 : decode cX4_looks 137 = .ok (.iastore, 1) := by decide +kernel
theorem dX4_looks_138 : decode cX4_looks 138 = .ok (.aload_n 0, 1) := by decide +kernel
theorem dX4_looks_139 : decode cX4_looks 139 = .ok (.getfield 7, 3) := by decide +kernel
theorem dX4_looks_142 : decode cX4_looks 142 = .ok (.iload 5, 2) := by decide +kernel
theorem dX4_looks_144 : decode cX4_looks 144 = .ok (.iconst 1, 1) := by decide +kernel
theorem dX4_looks_145 : decode cX4_looks 145 = .ok (.iadd, 1) := by decide +kernel
theorem dX4_looks_146 : decode cX4_looks 146 = .ok (.iload_n 2, 1) := by decide +kernel
theorem dX4_looks_147 : decode cX4_looks 147 = .ok (.iastore, 1) := by decide +kernel
theorem dX4_looks_148 : decode cX4_looks 148 = .ok (.aload_n 0, 1) := by decide +kernel
theorem dX4_looks_149 : decode cX4_looks 149 = .ok (.getfield 7, 3) := by decide +kernel
theorem dX4_looks_152 : decode cX4_looks 152 = .ok (.iload 5, 2) := by decide +kernel
theorem dX4_looks_154 : decode cX4_looks 154 = .ok (.iconst 2, 1) := by decide +kernel
theorem dX4_looks_155 : decode cX4_looks 155 = .ok (.iadd, 1) := by decide +kernel
theorem dX4_looks_156 : decode cX4_looks 156 = .ok (.iload 4, 2) := by decide +kernel
theorem dX4_looks_158 : decode cX4_looks 158 = .ok (.iastore, 1) := by decide +kernel
theorem dX4_looks_159 : decode cX4_looks 159 = .ok (.aload_n 0, 1) := by decide +kernel
theorem dX4_looks_160 : decode cX4_looks 160 = .ok (.getfield 7, 3) := by decide +kernel
theorem dX4_looks_163 : decode cX4_looks 163 = .ok (.iload 5, 2) := by decide +kernel
theorem dX4_looks_165 : decode cX4_looks 165 = .ok (.iconst 3, 1) := by decide +kernel
theorem dX4_looks_166 : decode cX4_looks 166 = .ok (.iadd, 1) := by decide +kernel
theorem dX4_looks_167 : decode cX4_looks 167 = .ok (.aload_n 0, 1) := by decide +kernel
theorem dX4_looks_168 : decode cX4_looks 168 = .ok (.getfield 7, 3) := by decide +kernel
theorem dX4_looks_171 : decode cX4_looks 171 = .ok (.bipush 14, 2) := by decide +kernel
theorem dX4_looks_173 : decode cX4_looks 173 = .ok (.iaload, 1) := by decide +kernel
theorem dX4_looks_174 : decode cX4_looks 174 = .ok (.aload_n 0, 1) := by decide +kernel
theorem dX4_looks_175 : decode cX4_looks 175 = .ok (.getfield 7, 3) := by decide +kernel
theorem dX4_looks_178 : decode cX4_looks 178 = .ok (.iconst 1, 1) := by decide +kernel
theorem dX4_looks_179 : decode cX4_looks 179 = .ok (.iaload, 1) := by decide +kernel
theorem dX4_looks_180 : decode cX4_looks 180 = .ok (.iadd, 1) := by decide +kernel
theorem dX4_looks_181 : decode cX4_looks 181 = .ok (.iastore, 1) := by decide +kernel
theorem dX4_looks_182 : decode cX4_looks 182 = .ok (.aload_n 0, 1) := by decide +kernel
theorem dX4_looks_183 : decode cX4_looks 183 = .ok (.getfield 7, 3) := by decide +kernel
theorem dX4_looks_186 : decode cX4_looks 186 = .ok (.sipush 478, 3) := by decide +kernel
theorem dX4_looks_189 : decode cX4_looks 189 = .ok (.dup2, 1) := by decide +kernel
theorem dX4_looks_190 : decode cX4_looks 190 = .ok (.iaload, 1) := by decide +kernel
theorem dX4_looks_191 : decode cX4_looks 191 = .ok (.iconst 1, 1) := by decide +kernel
theorem dX4_looks_192 : decode cX4_looks 192 = .ok (.iadd, 1) := by decide +kernel
theorem dX4_looks_193 : decode cX4_looks 193 = .ok (.iastore, 1) := by decide +kernel
theorem dX4_looks_194 : decode cX4_looks 194 = .ok (.return_, 1) := by decide +kernel
set_option maxRecDepth 20000 in
theorem ggX4_leaves_X4_entry : GoodIn wsX4_leaves wsX4_entry := goodIn_r _ [5] (by decide +kernel) (by decide +kernel)
set_option maxRecDepth 20000 in
theorem gX4_leaves_X4_entry : GoodIn wsX4_leaves (va_wsS RX4 37 yX4_entry wsX4_entry) := goodIn_app (goodIn_of _ (by decide +kernel)) ggX4_leaves_X4_entry
set_option maxRecDepth 20000 in
theorem ggX4_leaves_X4_counts : GoodIn wsX4_leaves wsX4_counts := goodIn_r _ [9, 1, 14, 15, 16, 17, 18, 19, 20, 21] (by decide +kernel) (by decide +kernel)
set_option maxRecDepth 20000 in
theorem gX4_leaves_X4_counts : GoodIn wsX4_leaves (wsV RX4 51 RX4 yX4_counts wsX4_counts) := goodIn_app (goodIn_of _ (by decide +kernel)) ggX4_leaves_X4_counts
set_option maxRecDepth 20000 in
theorem ggX4_leaves_X4_drops : GoodIn wsX4_leaves wsX4_drops := goodIn_r _ [13, 1, 14, 15, 16, 17, 18, 19, 20, 21] (by decide +kernel) (by decide +kernel)
set_option maxRecDepth 20000 in
theorem gX4_leaves_X4_drops : GoodIn wsX4_leaves (wsV RX4 65 RX4 yX4_drops wsX4_drops) := goodIn_app (goodIn_of _ (by decide +kernel)) ggX4_leaves_X4_drops
theorem dX4_leaves_0 : decode cX4_leaves 0 = .ok (.aload_n 0, 1) := by decide +kernel
theorem dX4_leaves_1 : decode cX4_leaves 1 = .ok (.getfield 7, 3) := by decide +kernel
theorem dX4_leaves_4 : decode cX4_leaves 4 = .ok (.iload_n 1, 1) := by decide +kernel
theorem dX4_leaves_5 : decode cX4_leaves 5 = .ok (.iconst 0, 1) := by decide +kernel
theorem dX4_leaves_6 : decode cX4_leaves 6 = .ok (.invokestatic 37, 3) := by decide +kernel
theorem dX4_leaves_9 : decode cX4_leaves 9 = .ok (.iaload, 1) := by decide +kernel
theorem dX4_leaves_10 : decode cX4_leaves 10 = .ok (.aload_n 0, 1) := by decide +kernel
theorem dX4_leaves_11 : decode cX4_leaves 11 = .ok (.getfield 7, 3) := by decide +kernel
theorem dX4_leaves_14 : decode cX4_leaves 14 = .ok (.sipush 1202, 3) := by decide +kernel
theorem dX4_leaves_17 : decode cX4_leaves 17 = .ok (.iaload, 1) := by decide +kernel
theorem dX4_leaves_18 : decode cX4_leaves 18 = .ok (.if_icmp .ne 12, 3) := by decide +kernel
theorem dX4_leaves_21 : decode cX4_leaves 21 = .ok (.aload_n 0, 1) := by decide +kernel
theorem dX4_leaves_22 : decode cX4_leaves 22 = .ok (.getfield 7, 3) := by decide +kernel
theorem dX4_leaves_25 : decode cX4_leaves 25 = .ok (.sipush 1201, 3) := by decide +kernel
theorem dX4_leaves_28 : decode cX4_leaves 28 = .ok (.iload_n 2, 1) := by decide +kernel
theorem dX4_leaves_29 : decode cX4_leaves 29 = .ok (.iastore, 1) := by decide +kernel
theorem dX4_leaves_30 : decode cX4_leaves 30 = .ok (.aload_n 0, 1) := by decide +kernel
theorem dX4_leaves_31 : decode cX4_leaves 31 = .ok (.iload_n 2, 1) := by decide +kernel
theorem dX4_leaves_32 : decode cX4_leaves 32 = .ok (.invokevirtual 51, 3) := by decide +kernel
theorem dX4_leaves_35 : decode cX4_leaves 35 = .ok (.aload_n 0, 1) := by decide +kernel
theorem dX4_leaves_36 : decode cX4_leaves 36 = .ok (.bipush 117, 2) := by decide +kernel
theorem dX4_leaves_38 : decode cX4_leaves 38 = .ok (.bipush 118, 2) := by decide +kernel
theorem dX4_leaves_40 : decode cX4_leaves 40 = .ok (.bipush 6, 2) := by decide +kernel
theorem dX4_leaves_42 : decode cX4_leaves 42 = .ok (.iload_n 1, 1) := by decide +kernel
theorem dX4_leaves_43 : decode cX4_leaves 43 = .ok (.invokevirtual 65, 3) := by decide +kernel
theorem dX4_leaves_46 : decode cX4_leaves 46 = .ok (.return_, 1) := by decide +kernel
set_option maxRecDepth 20000 in
theorem ggX4_gates_X4_entry : GoodIn wsX4_gates wsX4_entry := goodIn_r _ [5] (by decide +kernel) (by decide +kernel)
set_option maxRecDepth 20000 in
theorem gX4_gates_X4_entry : GoodIn wsX4_gates (va_wsS RX4 37 yX4_entry wsX4_entry) := goodIn_app (goodIn_of _ (by decide +kernel)) ggX4_gates_X4_entry
set_option maxRecDepth 20000 in
theorem ggX4_gates_X4_counts : GoodIn wsX4_gates wsX4_counts := goodIn_r _ [9, 1, 29, 30, 31, 32, 33, 34, 35, 36] (by decide +kernel) (by decide +kernel)
set_option maxRecDepth 20000 in
theorem gX4_gates_X4_counts : GoodIn wsX4_gates (wsV RX4 51 RX4 yX4_counts wsX4_counts) := goodIn_app (goodIn_of _ (by decide +kernel)) ggX4_gates_X4_counts
set_option maxRecDepth 20000 in
theorem ggX4_gates_X4_leaves : GoodIn wsX4_gates wsX4_leaves := goodIn_r _ [13, 1, 2, 3, 4, 5, 6, 7, 8, 9, 14, 15, 16, 17, 29, 30, 31, 32, 33, 34, 35, 36] (by decide +kernel) (by decide +kernel)
set_option maxRecDepth 20000 in
theorem gX4_gates_X4_leaves : GoodIn wsX4_gates (wsV RX4 82 RX4 yX4_leaves wsX4_leaves) := goodIn_app (goodIn_of _ (by decide +kernel)) ggX4_gates_X4_leaves
set_option maxRecDepth 20000 in
theorem ggX4_gates_X4_itemAt : GoodIn wsX4_gates wsX4_itemAt := goodIn_r _ [21, 1, 22, 23, 4, 24, 29, 30, 31, 32, 33, 34, 35, 36] (by decide +kernel) (by decide +kernel)
set_option maxRecDepth 20000 in
theorem gX4_gates_X4_itemAt : GoodIn wsX4_gates (wsV RX4 79 RX4 yX4_itemAt wsX4_itemAt) := goodIn_app (goodIn_of _ (by decide +kernel)) ggX4_gates_X4_itemAt
set_option maxRecDepth 20000 in
theorem ggX4_gates_X4_drops : GoodIn wsX4_gates wsX4_drops := goodIn_r _ [17, 1, 29, 30, 31, 32, 33, 34, 35, 36] (by decide +kernel) (by decide +kernel)
set_option maxRecDepth 20000 in
theorem gX4_gates_X4_drops : GoodIn wsX4_gates (wsV RX4 65 RX4 yX4_drops wsX4_drops) := goodIn_app (goodIn_of _ (by decide +kernel)) ggX4_gates_X4_drops
set_option maxRecDepth 20000 in
theorem ggX4_gates_X4_alarms : GoodIn wsX4_gates wsX4_alarms := goodIn_r _ [28, 1, 6, 7, 8, 4, 9, 29, 30, 31, 32, 33, 34, 35, 36] (by decide +kernel) (by decide +kernel)
set_option maxRecDepth 20000 in
theorem gX4_gates_X4_alarms : GoodIn wsX4_gates (wsV RX4 76 RX4 yX4_alarms wsX4_alarms) := goodIn_app (goodIn_of _ (by decide +kernel)) ggX4_gates_X4_alarms
theorem dX4_gates_0 : decode cX4_gates 0 = .ok (.aload_n 0, 1) := by decide +kernel
theorem dX4_gates_1 : decode cX4_gates 1 = .ok (.getfield 7, 3) := by decide +kernel
theorem dX4_gates_4 : decode cX4_gates 4 = .ok (.iload_n 1, 1) := by decide +kernel
theorem dX4_gates_5 : decode cX4_gates 5 = .ok (.iconst 2, 1) := by decide +kernel
theorem dX4_gates_6 : decode cX4_gates 6 = .ok (.invokestatic 37, 3) := by decide +kernel
theorem dX4_gates_9 : decode cX4_gates 9 = .ok (.iaload, 1) := by decide +kernel
theorem dX4_gates_10 : decode cX4_gates 10 = .ok (.istore_n 2, 1) := by decide +kernel
theorem dX4_gates_11 : decode cX4_gates 11 = .ok (.aload_n 0, 1) := by decide +kernel
theorem dX4_gates_12 : decode cX4_gates 12 = .ok (.getfield 7, 3) := by decide +kernel
theorem dX4_gates_15 : decode cX4_gates 15 = .ok (.iload_n 1, 1) := by decide +kernel
theorem dX4_gates_16 : decode cX4_gates 16 = .ok (.iconst 3, 1) := by decide +kernel
theorem dX4_gates_17 : decode cX4_gates 17 = .ok (.invokestatic 37, 3) := by decide +kernel
theorem dX4_gates_20 : decode cX4_gates 20 = .ok (.iaload, 1) := by decide +kernel
theorem dX4_gates_21 : decode cX4_gates 21 = .ok (.iconst 1, 1) := by decide +kernel
theorem dX4_gates_22 : decode cX4_gates 22 = .ok (.if_icmp .ne 7, 3) := by decide +kernel
theorem dX4_gates_25 : decode cX4_gates 25 = .ok (.iconst 1, 1) := by decide +kernel
theorem dX4_gates_26 : decode cX4_gates 26 = .ok (.goto 4, 3) := by decide +kernel
theorem dX4_gates_29 : decode cX4_gates 29 = .ok (.iconst 0, 1) := by decide +kernel
theorem dX4_gates_30 : decode cX4_gates 30 = .ok (.istore_n 3, 1) := by decide +kernel
theorem dX4_gates_31 : decode cX4_gates 31 = .ok (.iload_n 2, 1) := by decide +kernel
theorem dX4_gates_32 : decode cX4_gates 32 = .ok (.iconst 1, 1) := by decide +kernel
theorem dX4_gates_33 : decode cX4_gates 33 = .ok (.if_icmp .ne 28, 3) := by decide +kernel
theorem dX4_gates_36 : decode cX4_gates 36 = .ok (.iload_n 3, 1) := by decide +kernel
theorem dX4_gates_37 : decode cX4_gates 37 = .ok (.ifCond .ne 24, 3) := by decide +kernel
theorem dX4_gates_40 : decode cX4_gates 40 = .ok (.aload_n 0, 1) := by decide +kernel
theorem dX4_gates_41 : decode cX4_gates 41 = .ok (.getfield 7, 3) := by decide +kernel
theorem dX4_gates_44 : decode cX4_gates 44 = .ok (.iload_n 1, 1) := by decide +kernel
theorem dX4_gates_45 : decode cX4_gates 45 = .ok (.iconst 4, 1) := by decide +kernel
theorem dX4_gates_46 : decode cX4_gates 46 = .ok (.invokestatic 37, 3) := by decide +kernel
theorem dX4_gates_49 : decode cX4_gates 49 = .ok (.iconst 1, 1) := by decide +kernel
theorem dX4_gates_50 : decode cX4_gates 50 = .ok (.iastore, 1) := by decide +kernel
theorem dX4_gates_51 : decode cX4_gates 51 = .ok (.aload_n 0, 1) := by decide +kernel
theorem dX4_gates_52 : decode cX4_gates 52 = .ok (.getfield 7, 3) := by decide +kernel
theorem dX4_gates_55 : decode cX4_gates 55 = .ok (.bipush 12, 2) := by decide +kernel
theorem dX4_gates_57 : decode cX4_gates 57 = .ok (.iconst 0, 1) := by decide +kernel
theorem dX4_gates_58 : decode cX4_gates 58 = .ok (.iastore, 1) := by decide +kernel
theorem dX4_gates_59 : decode cX4_gates 59 = .ok (.iconst 1, 1) := by decide +kernel
theorem dX4_gates_60 : decode cX4_gates 60 = .ok (.ireturn, 1) := by decide +kernel
theorem dX4_gates_61 : decode cX4_gates 61 = .ok (.aload_n 0, 1) := by decide +kernel
theorem dX4_gates_62 : decode cX4_gates 62 = .ok (.iload_n 3, 1) := by decide +kernel
theorem dX4_gates_63 : decode cX4_gates 63 = .ok (.ifCond .eq 8, 3) := by decide +kernel
theorem dX4_gates_66 : decode cX4_gates 66 = .ok (.bipush 10, 2) := by decide +kernel
theorem dX4_gates_68 : decode cX4_gates 68 = .ok (.goto 25, 3) := by decide +kernel
theorem dX4_gates_71 : decode cX4_gates 71 = .ok (.iload_n 2, 1) := by decide +kernel
theorem dX4_gates_72 : decode cX4_gates 72 = .ok (.iconst 2, 1) := by decide +kernel
theorem dX4_gates_73 : decode cX4_gates 73 = .ok (.if_icmp .ne 8, 3) := by decide +kernel
theorem dX4_gates_76 : decode cX4_gates 76 = .ok (.bipush 11, 2) := by decide +kernel
theorem dX4_gates_78 : decode cX4_gates 78 = .ok (.goto 15, 3) := by decide +kernel
theorem dX4_gates_81 : decode cX4_gates 81 = .ok (.iload_n 2, 1) := by decide +kernel
theorem dX4_gates_82 : decode cX4_gates 82 = .ok (.iconst 3, 1) := by decide +kernel
theorem dX4_gates_83 : decode cX4_gates 83 = .ok (.if_icmp .ne 8, 3) := by decide +kernel
theorem dX4_gates_86 : decode cX4_gates 86 = .ok (.bipush 12, 2) := by decide +kernel
theorem dX4_gates_88 : decode cX4_gates 88 = .ok (.goto 5, 3) := by decide +kernel
theorem dX4_gates_91 : decode cX4_gates 91 = .ok (.bipush 13, 2) := by decide +kernel
theorem dX4_gates_93 : decode cX4_gates 93 = .ok (.invokevirtual 51, 3) := by decide +kernel
theorem dX4_gates_96 : decode cX4_gates 96 = .ok (.aload_n 0, 1) := by decide +kernel
theorem dX4_gates_97 : decode cX4_gates 97 = .ok (.iload_n 1, 1) := by decide +kernel
theorem dX4_gates_98 : decode cX4_gates 98 = .ok (.iconst 2, 1) := by decide +kernel
theorem dX4_gates_99 : decode cX4_gates 99 = .ok (.invokevirtual 82, 3) := by decide +kernel
theorem dX4_gates_102 : decode cX4_gates 102 = .ok (.aload_n 0, 1) := by decide +kernel
theorem dX4_gates_103 : decode cX4_gates 103 = .ok (.aload_n 0, 1) := by decide +kernel
theorem dX4_gates_104 : decode cX4_gates 104 = .ok (.getfield 7, 3) := by decide +kernel
theorem dX4_gates_107 : decode cX4_gates 107 = .ok (.bipush 10, 2) := by decide +kernel
theorem dX4_gates_109 : decode cX4_gates 109 = .ok (.iaload, 1) := by decide +kernel
theorem dX4_gates_110 : decode cX4_gates 110 = .ok (.invokevirtual 79, 3) := by decide +kernel
theorem dX4_gates_113 : decode cX4_gates 113 = .ok (.istore 4, 2) := by decide +kernel
theorem dX4_gates_115 : decode cX4_gates 115 = .ok (.iload 4, 2) := by decide +kernel
theorem dX4_gates_117 : decode cX4_gates 117 = .ok (.iconst (-1), 1) := by decide +kernel
theorem dX4_gates_118 : decode cX4_gates 118 = .ok (.if_icmp .eq 68, 3) := by decide +kernel
theorem dX4_gates_121 : decode cX4_gates 121 = .ok (.aload_n 0, 1) := by decide +kernel
theorem dX4_gates_122 : decode cX4_gates 122 = .ok (.bipush 36, 2) := by decide +kernel
theorem dX4_gates_124 : decode cX4_gates 124 = .ok (.bipush 37, 2) := by decide +kernel
theorem dX4_gates_126 : decode cX4_gates 126 = .ok (.iconst 4, 1) := by decide +kernel
theorem dX4_gates_127 : decode cX4_gates 127 = .ok (.iload 4, 2) := by decide +kernel
theorem dX4_gates_129 : decode cX4_gates 129 = .ok (.invokevirtual 65, 3) := by decide +kernel
theorem dX4_gates_132 : decode cX4_gates 132 = .ok (.aload_n 0, 1) := by decide +kernel
theorem dX4_gates_133 : decode cX4_gates 133 = .ok (.getfield 7, 3) := by decide +kernel
theorem dX4_gates_136 : decode cX4_gates 136 = .ok (.bipush 35, 2) := by decide +kernel
theorem dX4_gates_138 : decode cX4_gates 138 = .ok (.dup2, 1) := by decide +kernel
theorem dX4_gates_139 : decode cX4_gates 139 = .ok (.iaload, 1) := by decide +kernel
theorem dX4_gates_140 : decode cX4_gates 140 = .ok (.iconst 1, 1) := by decide +kernel
theorem dX4_gates_141 : decode cX4_gates 141 = .ok (.iadd, 1) := by decide +kernel
theorem dX4_gates_142 : decode cX4_gates 142 = .ok (.iastore, 1) := by decide +kernel
theorem dX4_gates_143 : decode cX4_gates 143 = .ok (.aload_n 0, 1) := by decide +kernel
theorem dX4_gates_144 : decode cX4_gates 144 = .ok (.getfield 7, 3) := by decide +kernel
theorem dX4_gates_147 : decode cX4_gates 147 = .ok (.sipush 960, 3) := by decide +kernel
theorem dX4_gates_150 : decode cX4_gates 150 = .ok (.aload_n 0, 1) := by decide +kernel
theorem dX4_gates_151 : decode cX4_gates 151 = .ok (.getfield 7, 3) := by decide +kernel
theorem dX4_gates_154 : decode cX4_gates 154 = .ok (.sipush 959, 3) := by decide +kernel
theorem dX4_gates_157 : decode cX4_gates 157 = .ok (.iaload, 1) := by decide +kernel
theorem dX4_gates_158 : decode cX4_gates 158 = .ok (.iadd, 1) := by decide +kernel
theorem dX4_gates_159 : decode cX4_gates 159 = .ok (.aload_n 0, 1) := by decide +kernel
theorem dX4_gates_160 : decode cX4_gates 160 = .ok (.getfield 7, 3) := by decide +kernel
theorem dX4_gates_163 : decode cX4_gates 163 = .ok (.bipush 14, 2) := by decide +kernel
theorem dX4_gates_165 : decode cX4_gates 165 = .ok (.iaload, 1) := by decide +kernel
theorem dX4_gates_166 : decode cX4_gates 166 = .ok (.aload_n 0, 1) := by decide +kernel
theorem dX4_gates_167 : decode cX4_gates 167 = .ok (.getfield 7, 3) := by decide +kernel
theorem dX4_gates_170 : decode cX4_gates 170 = .ok (.iconst 2, 1) := by decide +kernel
theorem dX4_gates_171 : decode cX4_gates 171 = .ok (.iaload, 1) := by decide +kernel
theorem dX4_gates_172 : decode cX4_gates 172 = .ok (.iadd, 1) := by decide +kernel
theorem dX4_gates_173 : decode cX4_gates 173 = .ok (.iastore, 1) := by decide +kernel
theorem dX4_gates_174 : decode cX4_gates 174 = .ok (.aload_n 0, 1) := by decide +kernel
theorem dX4_gates_175 : decode cX4_gates 175 = .ok (.getfield 7, 3) := by decide +kernel
theorem dX4_gates_178 : decode cX4_gates 178 = .ok (.sipush 959, 3) := by decide +kernel
theorem dX4_gates_181 : decode cX4_gates 181 = .ok (.dup2, 1) := by decide +kernel
theorem dX4_gates_182 : decode cX4_gates 182 = .ok (.iaload, 1) := by decide +kernel
theorem dX4_gates_183 : decode cX4_gates 183 = .ok (.iconst 1, 1) := by decide +kernel
theorem dX4_gates_184 : decode cX4_gates 184 = .ok (.iadd, 1) := by decide +kernel
theorem dX4_gates_185 : decode cX4_gates 185 = .ok (.iastore, 1) := by decide +kernel
theorem dX4_gates_186 : decode cX4_gates 186 = .ok (.aload_n 0, 1) := by decide +kernel
theorem dX4_gates_187 : decode cX4_gates 187 = .ok (.getfield 7, 3) := by decide +kernel
theorem dX4_gates_190 : decode cX4_gates 190 = .ok (.sipush 1041, 3) := by decide +kernel
theorem dX4_gates_193 : decode cX4_gates 193 = .ok (.aload_n 0, 1) := by decide +kernel
theorem dX4_gates_194 : decode cX4_gates 194 = .ok (.getfield 7, 3) := by decide +kernel
theorem dX4_gates_197 : decode cX4_gates 197 = .ok (.sipush 1040, 3) := by decide +kernel
theorem dX4_gates_200 : decode cX4_gates 200 = .ok (.iaload, 1) := by decide +kernel
theorem dX4_gates_201 : decode cX4_gates 201 = .ok (.iadd, 1) := by decide +kernel
theorem dX4_gates_202 : decode cX4_gates 202 = .ok (.aload_n 0, 1) := by decide +kernel
theorem dX4_gates_203 : decode cX4_gates 203 = .ok (.getfield 7, 3) := by decide +kernel
theorem dX4_gates_206 : decode cX4_gates 206 = .ok (.bipush 14, 2) := by decide +kernel
theorem dX4_gates_208 : decode cX4_gates 208 = .ok (.iaload, 1) := by decide +kernel
theorem dX4_gates_209 : decode cX4_gates 209 = .ok (.aload_n 0, 1) := by decide +kernel
theorem dX4_gates_210 : decode cX4_gates 210 = .ok (.getfield 7, 3) := by decide +kernel
theorem dX4_gates_213 : decode cX4_gates 213 = .ok (.iconst 3, 1) := by decide +kernel
theorem dX4_gates_214 : decode cX4_gates 214 = .ok (.iaload, 1) := by decide +kernel
theorem dX4_gates_215 : decode cX4_gates 215 = .ok (.iadd, 1) := by decide +kernel
theorem dX4_gates_216 : decode cX4_gates 216 = .ok (.iastore, 1) := by decide +kernel
theorem dX4_gates_217 : decode cX4_gates 217 = .ok (.aload_n 0, 1) := by decide +kernel
theorem dX4_gates_218 : decode cX4_gates 218 = .ok (.getfield 7, 3) := by decide +kernel
theorem dX4_gates_221 : decode cX4_gates 221 = .ok (.sipush 1040, 3) := by decide +kernel
theorem dX4_gates_224 : decode cX4_gates 224 = .ok (.dup2, 1) := by decide +kernel
theorem dX4_gates_225 : decode cX4_gates 225 = .ok (.iaload, 1) := by decide +kernel
theorem dX4_gates_226 : decode cX4_gates 226 = .ok (.iconst 1, 1) := by decide +kernel
theorem dX4_gates_227 : decode cX4_gates 227 = .ok (.iadd, 1) := by decide +kernel
theorem dX4_gates_228 : decode cX4_gates 228 = .ok (.iastore, 1) := by decide +kernel
theorem dX4_gates_229 : decode cX4_gates 229 = .ok (.aload_n 0, 1) := by decide +kernel
theorem dX4_gates_230 : decode cX4_gates 230 = .ok (.getfield 7, 3) := by decide +kernel
theorem dX4_gates_233 : decode cX4_gates 233 = .ok (.bipush 12, 2) := by decide +kernel
theorem dX4_gates_235 : decode cX4_gates 235 = .ok (.dup2, 1) := by decide +kernel
theorem dX4_gates_236 : decode cX4_gates 236 = .ok (.iaload, 1) := by decide +kernel
theorem dX4_gates_237 : decode cX4_gates 237 = .ok (.iconst 1, 1) := by decide +kernel
theorem dX4_gates_238 : decode cX4_gates 238 = .ok (.iadd, 1) := by decide +kernel
theorem dX4_gates_239 : decode cX4_gates 239 = .ok (.iastore, 1) := by decide +kernel
theorem dX4_gates_240 : decode cX4_gates 240 = .ok (.aload_n 0, 1) := by decide +kernel
theorem dX4_gates_241 : decode cX4_gates 241 = .ok (.getfield 7, 3) := by decide +kernel
theorem dX4_gates_244 : decode cX4_gates 244 = .ok (.bipush 12, 2) := by decide +kernel
theorem dX4_gates_246 : decode cX4_gates 246 = .ok (.iaload, 1) := by decide +kernel
theorem dX4_gates_247 : decode cX4_gates 247 = .ok (.aload_n 0, 1) := by decide +kernel
theorem dX4_gates_248 : decode cX4_gates 248 = .ok (.getfield 7, 3) := by decide +kernel
theorem dX4_gates_251 : decode cX4_gates 251 = .ok (.iconst 4, 1) := by decide +kernel
theorem dX4_gates_252 : decode cX4_gates 252 = .ok (.iaload, 1) := by decide +kernel
theorem dX4_gates_253 : decode cX4_gates 253 = .ok (.if_icmp .lt 16, 3) := by decide +kernel
theorem dX4_gates_256 : decode cX4_gates 256 = .ok (.aload_n 0, 1) := by decide +kernel
theorem dX4_gates_257 : decode cX4_gates 257 = .ok (.getfield 7, 3) := by decide +kernel
theorem dX4_gates_260 : decode cX4_gates 260 = .ok (.bipush 12, 2) := by decide +kernel
theorem dX4_gates_262 : decode cX4_gates 262 = .ok (.iconst 0, 1) := by decide +kernel
theorem dX4_gates_263 : decode cX4_gates 263 = .ok (.iastore, 1) := by decide +kernel
theorem dX4_gates_264 : decode cX4_gates 264 = .ok (.aload_n 0, 1) := by decide +kernel
theorem dX4_gates_265 : decode cX4_gates 265 = .ok (.iconst 1, 1) := by decide +kernel
theorem dX4_gates_266 : decode cX4_gates 266 = .ok (.invokevirtual 76, 3) := by decide +kernel
theorem dX4_gates_269 : decode cX4_gates 269 = .ok (.iconst 0, 1) := by decide +kernel
theorem dX4_gates_270 : decode cX4_gates 270 = .ok (.ireturn, 1) := by decide +kernel
set_option maxRecDepth 20000 in
theorem ggX4_acts_X4_entry : GoodIn wsX4_acts wsX4_entry := goodIn_r _ [5] (by decide +kernel) (by decide +kernel)
set_option maxRecDepth 20000 in
theorem gX4_acts_X4_entry : GoodIn wsX4_acts (va_wsS RX4 37 yX4_entry wsX4_entry) := goodIn_app (goodIn_of _ (by decide +kernel)) ggX4_acts_X4_entry
set_option maxRecDepth 20000 in
theorem ggX4_acts_X4_labels : GoodIn wsX4_acts wsX4_labels := goodIn_r _ [9, 1, 2, 3, 4, 5, 10, 11, 12, 13, 14, 15, 16, 17, 18, 19, 20, 41, 42, 43, 44, 45, 46, 47, 48] (by decide +kernel) (by decide +kernel)
set_option maxRecDepth 20000 in
theorem gX4_acts_X4_labels : GoodIn wsX4_acts (wsV RX4 86 RX4 yX4_labels wsX4_labels) := goodIn_app (goodIn_of _ (by decide +kernel)) ggX4_acts_X4_labels
set_option maxRecDepth 20000 in
theorem ggX4_acts_X4_looks : GoodIn wsX4_acts wsX4_looks := goodIn_r _ [24, 1, 2, 3, 4, 5, 10, 11, 12, 13, 14, 15, 16, 41, 42, 43, 44, 45, 46, 47, 48] (by decide +kernel) (by decide +kernel)
set_option maxRecDepth 20000 in
theorem gX4_acts_X4_looks : GoodIn wsX4_acts (wsV RX4 89 RX4 yX4_looks wsX4_looks) := goodIn_app (goodIn_of _ (by decide +kernel)) ggX4_acts_X4_looks
set_option maxRecDepth 20000 in
theorem ggX4_acts_X4_gates : GoodIn wsX4_acts wsX4_gates := goodIn_r _ [28, 1, 2, 3, 4, 5, 17, 18, 19, 20, 29, 30, 31, 32, 33, 34, 35, 36, 10, 11, 12, 13, 14, 15, 16, 37, 38, 39, 40, 41, 42, 43, 44, 45, 46, 47, 48] (by decide +kernel) (by decide +kernel)
set_option maxRecDepth 20000 in
theorem gX4_acts_X4_gates : GoodIn wsX4_acts (wsV RX4 92 RX4 yX4_gates wsX4_gates) := goodIn_app (goodIn_of _ (by decide +kernel)) ggX4_acts_X4_gates
set_option maxRecDepth 20000 in
theorem ggX4_acts_X4_leaves : GoodIn wsX4_acts wsX4_leaves := goodIn_r _ [32, 1, 2, 3, 4, 5, 17, 18, 19, 20, 33, 34, 35, 36, 41, 42, 43, 44, 45, 46, 47, 48] (by decide +kernel) (by decide +kernel)
set_option maxRecDepth 20000 in
theorem gX4_acts_X4_leaves : GoodIn wsX4_acts (wsV RX4 82 RX4 yX4_leaves wsX4_leaves) := goodIn_app (goodIn_of _ (by decide +kernel)) ggX4_acts_X4_leaves
theorem dX4_acts_0 : decode cX4_acts 0 = .ok (.aload_n 0, 1) := by decide +kernel
theorem dX4_acts_1 : decode cX4_acts 1 = .ok (.getfield 7, 3) := by decide +kernel
theorem dX4_acts_4 : decode cX4_acts 4 = .ok (.iload_n 1, 1) := by decide +kernel
theorem dX4_acts_5 : decode cX4_acts 5 = .ok (.iconst 1, 1) := by decide +kernel
theorem dX4_acts_6 : decode cX4_acts 6 = .ok (.invokestatic 37, 3) := by decide +kernel
theorem dX4_acts_9 : decode cX4_acts 9 = .ok (.iaload, 1) := by decide +kernel
theorem dX4_acts_10 : decode cX4_acts 10 = .ok (.istore_n 2, 1) := by decide +kernel
theorem dX4_acts_11 : decode cX4_acts 11 = .ok (.iload_n 2, 1) := by decide +kernel
theorem dX4_acts_12 : decode cX4_acts 12 = .ok (.aload_n 0, 1) := by decide +kernel
theorem dX4_acts_13 : decode cX4_acts 13 = .ok (.getfield 7, 3) := by decide +kernel
theorem dX4_acts_16 : decode cX4_acts 16 = .ok (.bipush 7, 2) := by decide +kernel
theorem dX4_acts_18 : decode cX4_acts 18 = .ok (.iaload, 1) := by decide +kernel
theorem dX4_acts_19 : decode cX4_acts 19 = .ok (.if_icmp .ne 11, 3) := by decide +kernel
theorem dX4_acts_22 : decode cX4_acts 22 = .ok (.aload_n 0, 1) := by decide +kernel
theorem dX4_acts_23 : decode cX4_acts 23 = .ok (.iload_n 1, 1) := by decide +kernel
theorem dX4_acts_24 : decode cX4_acts 24 = .ok (.invokevirtual 86, 3) := by decide +kernel
theorem dX4_acts_27 : decode cX4_acts 27 = .ok (.goto 104, 3) := by decide +kernel
theorem dX4_acts_30 : decode cX4_acts 30 = .ok (.iload_n 2, 1) := by decide +kernel
theorem dX4_acts_31 : decode cX4_acts 31 = .ok (.aload_n 0, 1) := by decide +kernel
theorem dX4_acts_32 : decode cX4_acts 32 = .ok (.getfield 7, 3) := by decide +kernel
theorem dX4_acts_35 : decode cX4_acts 35 = .ok (.bipush 8, 2) := by decide +kernel
theorem dX4_acts_37 : decode cX4_acts 37 = .ok (.iaload, 1) := by decide +kernel
theorem dX4_acts_38 : decode cX4_acts 38 = .ok (.if_icmp .ne 12, 3) := by decide +kernel
theorem dX4_acts_41 : decode cX4_acts 41 = .ok (.aload_n 0, 1) := by decide +kernel
theorem dX4_acts_42 : decode cX4_acts 42 = .ok (.iload_n 1, 1) := by decide +kernel
theorem dX4_acts_43 : decode cX4_acts 43 = .ok (.iconst 0, 1) := by decide +kernel
theorem dX4_acts_44 : decode cX4_acts 44 = .ok (.invokevirtual 89, 3) := by decide +kernel
theorem dX4_acts_47 : decode cX4_acts 47 = .ok (.goto 84, 3) := by decide +kernel
theorem dX4_acts_50 : decode cX4_acts 50 = .ok (.iload_n 2, 1) := by decide +kernel
theorem dX4_acts_51 : decode cX4_acts 51 = .ok (.aload_n 0, 1) := by decide +kernel
theorem dX4_acts_52 : decode cX4_acts 52 = .ok (.getfield 7, 3) := by decide +kernel
theorem dX4_acts_55 : decode cX4_acts 55 = .ok (.bipush 9, 2) := by decide +kernel
theorem dX4_acts_57 : decode cX4_acts 57 = .ok (.iaload, 1) := by decide +kernel
theorem dX4_acts_58 : decode cX4_acts 58 = .ok (.if_icmp .ne 12, 3) := by decide +kernel
theorem dX4_acts_61 : decode cX4_acts 61 = .ok (.aload_n 0, 1) := by decide +kernel
theorem dX4_acts_62 : decode cX4_acts 62 = .ok (.iload_n 1, 1) := by decide +kernel
theorem dX4_acts_63 : decode cX4_acts 63 = .ok (.iconst 1, 1) := by decide +kernel
theorem dX4_acts_64 : decode cX4_acts 64 = .ok (.invokevirtual 89, 3) := by decide +kernel
theorem dX4_acts_67 : decode cX4_acts 67 = .ok (.goto 64, 3) := by decide +kernel
theorem dX4_acts_70 : decode cX4_acts 70 = .ok (.iload_n 2, 1) := by decide +kernel
theorem dX4_acts_71 : decode cX4_acts 71 = .ok (.aload_n 0, 1) := by decide +kernel
theorem dX4_acts_72 : decode cX4_acts 72 = .ok (.getfield 7, 3) := by decide +kernel
theorem dX4_acts_75 : decode cX4_acts 75 = .ok (.bipush 10, 2) := by decide +kernel
theorem dX4_acts_77 : decode cX4_acts 77 = .ok (.iaload, 1) := by decide +kernel
theorem dX4_acts_78 : decode cX4_acts 78 = .ok (.if_icmp .ne 9, 3) := by decide +kernel
theorem dX4_acts_81 : decode cX4_acts 81 = .ok (.aload_n 0, 1) := by decide +kernel
theorem dX4_acts_82 : decode cX4_acts 82 = .ok (.iload_n 1, 1) := by decide +kernel
theorem dX4_acts_83 : decode cX4_acts 83 = .ok (.invokevirtual 92, 3) := by decide +kernel
theorem dX4_acts_86 : decode cX4_acts 86 = .ok (.ireturn, 1) := by decide +kernel
theorem dX4_acts_87 : decode cX4_acts 87 = .ok (.iload_n 2, 1) := by decide +kernel
theorem dX4_acts_88 : decode cX4_acts 88 = .ok (.aload_n 0, 1) := by decide +kernel
theorem dX4_acts_89 : decode cX4_acts 89 = .ok (.getfield 7, 3) := by decide +kernel
theorem dX4_acts_92 : decode cX4_acts 92 = .ok (.bipush 11, 2) := by decide +kernel
theorem dX4_acts_94 : decode cX4_acts 94 = .ok (.iaload, 1) := by decide +kernel
theorem dX4_acts_95 : decode cX4_acts 95 = .ok (.aload_n 0, 1) := by decide +kernel
theorem dX4_acts_96 : decode cX4_acts 96 = .ok (.getfield 7, 3) := by decide +kernel
theorem dX4_acts_99 : decode cX4_acts 99 = .ok (.iconst 5, 1) := by decide +kernel
theorem dX4_acts_100 : decode cX4_acts 100 = .ok (.iaload, 1) := by decide +kernel
theorem dX4_acts_101 : decode cX4_acts 101 = .ok (.iadd, 1) := by decide +kernel
theorem dX4_acts_102 : decode cX4_acts 102 = .ok (.if_icmp .le 29, 3) := by decide +kernel
theorem dX4_acts_105 : decode cX4_acts 105 = .ok (.aload_n 0, 1) := by decide +kernel
theorem dX4_acts_106 : decode cX4_acts 106 = .ok (.iload_n 1, 1) := by decide +kernel
theorem dX4_acts_107 : decode cX4_acts 107 = .ok (.aload_n 0, 1) := by decide +kernel
theorem dX4_acts_108 : decode cX4_acts 108 = .ok (.getfield 7, 3) := by decide +kernel
theorem dX4_acts_111 : decode cX4_acts 111 = .ok (.iload_n 1, 1) := by decide +kernel
theorem dX4_acts_112 : decode cX4_acts 112 = .ok (.iconst 5, 1) := by decide +kernel
theorem dX4_acts_113 : decode cX4_acts 113 = .ok (.invokestatic 37, 3) := by decide +kernel
theorem dX4_acts_116 : decode cX4_acts 116 = .ok (.iaload, 1) := by decide +kernel
theorem dX4_acts_117 : decode cX4_acts 117 = .ok (.iconst 1, 1) := by decide +kernel
theorem dX4_acts_118 : decode cX4_acts 118 = .ok (.if_icmp .ne 7, 3) := by decide +kernel
theorem dX4_acts_121 : decode cX4_acts 121 = .ok (.iconst 1, 1) := by decide +kernel
theorem dX4_acts_122 : decode cX4_acts 122 = .ok (.goto 4, 3) := by decide +kernel
theorem dX4_acts_125 : decode cX4_acts 125 = .ok (.iconst 3, 1) := by decide +kernel
theorem dX4_acts_126 : decode cX4_acts 126 = .ok (.invokevirtual 82, 3) := by decide +kernel
theorem dX4_acts_129 : decode cX4_acts 129 = .ok (.iconst 0, 1) := by decide +kernel
theorem dX4_acts_130 : decode cX4_acts 130 = .ok (.ireturn, 1) := by decide +kernel
theorem dX4_acts_131 : decode cX4_acts 131 = .ok (.iconst 1, 1) := by decide +kernel
theorem dX4_acts_132 : decode cX4_acts 132 = .ok (.ireturn, 1) := by decide +kernel
set_option maxRecDepth 20000 in
theorem ggX4_exits_X4_counts : GoodIn wsX4_exits wsX4_counts := goodIn_r _ [6, 1, 14, 15, 16, 17, 18, 19, 20, 21] (by decide +kernel) (by decide +kernel)
set_option maxRecDepth 20000 in
theorem gX4_exits_X4_counts : GoodIn wsX4_exits (wsV RX4 51 RX4 yX4_counts wsX4_counts) := goodIn_app (goodIn_of _ (by decide +kernel)) ggX4_exits_X4_counts
set_option maxRecDepth 20000 in
theorem ggX4_exits_X4_entry : GoodIn wsX4_exits wsX4_entry := goodIn_r _ [9] (by decide +kernel) (by decide +kernel)
set_option maxRecDepth 20000 in
theorem gX4_exits_X4_entry : GoodIn wsX4_exits (va_wsS RX4 37 yX4_entry wsX4_entry) := goodIn_app (goodIn_of _ (by decide +kernel)) ggX4_exits_X4_entry
set_option maxRecDepth 20000 in
theorem ggX4_exits_X4_alarms : GoodIn wsX4_exits wsX4_alarms := goodIn_r _ [13, 1, 2, 3, 4, 5, 6, 14, 15, 16, 17, 18, 19, 20, 21] (by decide +kernel) (by decide +kernel)
set_option maxRecDepth 20000 in
theorem gX4_exits_X4_alarms : GoodIn wsX4_exits (wsV RX4 76 RX4 yX4_alarms wsX4_alarms) := goodIn_app (goodIn_of _ (by decide +kernel)) ggX4_exits_X4_alarms
theorem dX4_exits_0 : decode cX4_exits 0 = .ok (.aload_n 0, 1) := by decide +kernel
theorem dX4_exits_1 : decode cX4_exits 1 = .ok (.bipush 8, 2) := by decide +kernel
theorem dX4_exits_3 : decode cX4_exits 3 = .ok (.invokevirtual 51, 3) := by decide +kernel
theorem dX4_exits_6 : decode cX4_exits 6 = .ok (.iconst (-1), 1) := by decide +kernel
theorem dX4_exits_7 : decode cX4_exits 7 = .ok (.istore_n 1, 1) := by decide +kernel
theorem dX4_exits_8 : decode cX4_exits 8 = .ok (.aload_n 0, 1) := by decide +kernel
theorem dX4_exits_9 : decode cX4_exits 9 = .ok (.getfield 7, 3) := by decide +kernel
theorem dX4_exits_12 : decode cX4_exits 12 = .ok (.iconst 5, 1) := by decide +kernel
theorem dX4_exits_13 : decode cX4_exits 13 = .ok (.iaload, 1) := by decide +kernel
theorem dX4_exits_14 : decode cX4_exits 14 = .ok (.iconst 1, 1) := by decide +kernel
theorem dX4_exits_15 : decode cX4_exits 15 = .ok (.iadd, 1) := by decide +kernel
theorem dX4_exits_16 : decode cX4_exits 16 = .ok (.istore_n 2, 1) := by decide +kernel
theorem dX4_exits_17 : decode cX4_exits 17 = .ok (.iconst 0, 1) := by decide +kernel
theorem dX4_exits_18 : decode cX4_exits 18 = .ok (.istore_n 3, 1) := by decide +kernel
theorem dX4_exits_19 : decode cX4_exits 19 = .ok (.iload_n 3, 1) := by decide +kernel
theorem dX4_exits_20 : decode cX4_exits 20 = .ok (.aload_n 0, 1) := by decide +kernel
theorem dX4_exits_21 : decode cX4_exits 21 = .ok (.getfield 7, 3) := by decide +kernel
theorem dX4_exits_24 : decode cX4_exits 24 = .ok (.bipush 117, 2) := by decide +kernel
theorem dX4_exits_26 : decode cX4_exits 26 = .ok (.iaload, 1) := by decide +kernel
theorem dX4_exits_27 : decode cX4_exits 27 = .ok (.if_icmp .ge 82, 3) := by decide +kernel
theorem dX4_exits_30 : decode cX4_exits 30 = .ok (.aload_n 0, 1) := by decide +kernel
theorem dX4_exits_31 : decode cX4_exits 31 = .ok (.getfield 7, 3) := by decide +kernel
theorem dX4_exits_34 : decode cX4_exits 34 = .ok (.iload_n 3, 1) := by decide +kernel
theorem dX4_exits_35 : decode cX4_exits 35 = .ok (.iconst 1, 1) := by decide +kernel
theorem dX4_exits_36 : decode cX4_exits 36 = .ok (.invokestatic 37, 3) := by decide +kernel
theorem dX4_exits_39 : decode cX4_exits 39 = .ok (.iaload, 1) := by decide +kernel
theorem dX4_exits_40 : decode cX4_exits 40 = .ok (.aload_n 0, 1) := by decide +kernel
theorem dX4_exits_41 : decode cX4_exits 41 = .ok (.getfield 7, 3) := by decide +kernel
theorem dX4_exits_44 : decode cX4_exits 44 = .ok (.bipush 11, 2) := by decide +kernel
theorem dX4_exits_46 : decode cX4_exits 46 = .ok (.iaload, 1) := by decide +kernel
theorem dX4_exits_47 : decode cX4_exits 47 = .ok (.isub, 1) := by decide +kernel
theorem dX4_exits_48 : decode cX4_exits 48 = .ok (.istore 4, 2) := by decide +kernel
theorem dX4_exits_50 : decode cX4_exits 50 = .ok (.iload 4, 2) := by decide +kernel
theorem dX4_exits_52 : decode cX4_exits 52 = .ok (.ifCond .ge 9, 3) := by decide +kernel
theorem dX4_exits_55 : decode cX4_exits 55 = .ok (.iload 4, 2) := by decide +kernel
theorem dX4_exits_57 : decode cX4_exits 57 = .ok (.ineg, 1) := by decide +kernel
theorem dX4_exits_58 : decode cX4_exits 58 = .ok (.goto 5, 3) := by decide +kernel
theorem dX4_exits_61 : decode cX4_exits 61 = .ok (.iload 4, 2) := by decide +kernel
theorem dX4_exits_63 : decode cX4_exits 63 = .ok (.istore 4, 2) := by decide +kernel
theorem dX4_exits_65 : decode cX4_exits 65 = .ok (.aload_n 0, 1) := by decide +kernel
theorem dX4_exits_66 : decode cX4_exits 66 = .ok (.getfield 7, 3) := by decide +kernel
theorem dX4_exits_69 : decode cX4_exits 69 = .ok (.iload_n 3, 1) := by decide +kernel
theorem dX4_exits_70 : decode cX4_exits 70 = .ok (.iconst 4, 1) := by decide +kernel
theorem dX4_exits_71 : decode cX4_exits 71 = .ok (.invokestatic 37, 3) := by decide +kernel
theorem dX4_exits_74 : decode cX4_exits 74 = .ok (.iaload, 1) := by decide +kernel
theorem dX4_exits_75 : decode cX4_exits 75 = .ok (.iconst 1, 1) := by decide +kernel
theorem dX4_exits_76 : decode cX4_exits 76 = .ok (.if_icmp .ne 27, 3) := by decide +kernel
theorem dX4_exits_79 : decode cX4_exits 79 = .ok (.aload_n 0, 1) := by decide +kernel
theorem dX4_exits_80 : decode cX4_exits 80 = .ok (.getfield 7, 3) := by decide +kernel
theorem dX4_exits_83 : decode cX4_exits 83 = .ok (.iload_n 3, 1) := by decide +kernel
theorem dX4_exits_84 : decode cX4_exits 84 = .ok (.iconst 5, 1) := by decide +kernel
theorem dX4_exits_85 : decode cX4_exits 85 = .ok (.invokestatic 37, 3) := by decide +kernel
theorem dX4_exits_88 : decode cX4_exits 88 = .ok (.iaload, 1) := by decide +kernel
theorem dX4_exits_89 : decode cX4_exits 89 = .ok (.ifCond .ne 14, 3) := by decide +kernel
theorem dX4_exits_92 : decode cX4_exits 92 = .ok (.iload 4, 2) := by decide +kernel
theorem dX4_exits_94 : decode cX4_exits 94 = .ok (.iload_n 2, 1) := by decide +kernel
theorem dX4_exits_95 : decode cX4_exits 95 = .ok (.if_icmp .ge 8, 3) := by decide +kernel
theorem dX4_exits_98 : decode cX4_exits 98 = .ok (.iload 4, 2) := by decide +kernel
theorem dX4_exits_100 : decode cX4_exits 100 = .ok (.istore_n 2, 1) := by decide +kernel
theorem dX4_exits_101 : decode cX4_exits 101 = .ok (.iload_n 3, 1) := by decide +kernel
theorem dX4_exits_102 : decode cX4_exits 102 = .ok (.istore_n 1, 1) := by decide +kernel
theorem dX4_exits_103 : decode cX4_exits 103 = .ok (.iinc 3 1, 3) := by decide +kernel
theorem dX4_exits_106 : decode cX4_exits 106 = .ok (.goto (-87), 3) := by decide +kernel
theorem dX4_exits_109 : decode cX4_exits 109 = .ok (.iload_n 1, 1) := by decide +kernel
theorem dX4_exits_110 : decode cX4_exits 110 = .ok (.iconst (-1), 1) := by decide +kernel
theorem dX4_exits_111 : decode cX4_exits 111 = .ok (.if_icmp .ne 17, 3) := by decide +kernel
theorem dX4_exits_114 : decode cX4_exits 114 = .ok (.aload_n 0, 1) := by decide +kernel
theorem dX4_exits_115 : decode cX4_exits 115 = .ok (.bipush 9, 2) := by decide +kernel
theorem dX4_exits_117 : decode cX4_exits 117 = .ok (.invokevirtual 51, 3) := by decide +kernel
theorem dX4_exits_120 : decode cX4_exits 120 = .ok (.aload_n 0, 1) := by decide +kernel
theorem dX4_exits_121 : decode cX4_exits 121 = .ok (.iconst 4, 1) := by decide +kernel
theorem dX4_exits_122 : decode cX4_exits 122 = .ok (.invokevirtual 76, 3) := by decide +kernel
theorem dX4_exits_125 : decode cX4_exits 125 = .ok (.goto 14, 3) := by decide +kernel
theorem dX4_exits_128 : decode cX4_exits 128 = .ok (.aload_n 0, 1) := by decide +kernel
theorem dX4_exits_129 : decode cX4_exits 129 = .ok (.getfield 7, 3) := by decide +kernel
theorem dX4_exits_132 : decode cX4_exits 132 = .ok (.iload_n 1, 1) := by decide +kernel
theorem dX4_exits_133 : decode cX4_exits 133 = .ok (.iconst 5, 1) := by decide +kernel
theorem dX4_exits_134 : decode cX4_exits 134 = .ok (.invokestatic 37, 3) := by decide +kernel
theorem dX4_exits_137 : decode cX4_exits 137 = .ok (.iconst 1, 1) := by decide +kernel
theorem dX4_exits_138 : decode cX4_exits 138 = .ok (.iastore, 1) := by decide +kernel
theorem dX4_exits_139 : decode cX4_exits 139 = .ok (.return_, 1) := by decide +kernel
set_option maxRecDepth 20000 in
theorem ggX4_pulses_X4_thing : GoodIn wsX4_pulses wsX4_thing := goodIn_r _ [5] (by decide +kernel) (by decide +kernel)
set_option maxRecDepth 20000 in
theorem gX4_pulses_X4_thing : GoodIn wsX4_pulses (va_wsS RX4 33 yX4_thing wsX4_thing) := goodIn_app (goodIn_of _ (by decide +kernel)) ggX4_pulses_X4_thing
set_option maxRecDepth 20000 in
theorem ggX4_pulses_X4_entry : GoodIn wsX4_pulses wsX4_entry := goodIn_r _ [8] (by decide +kernel) (by decide +kernel)
set_option maxRecDepth 20000 in
theorem gX4_pulses_X4_entry : GoodIn wsX4_pulses (va_wsS RX4 37 yX4_entry wsX4_entry) := goodIn_app (goodIn_of _ (by decide +kernel)) ggX4_pulses_X4_entry
set_option maxRecDepth 20000 in
theorem ggX4_pulses_X4_acts : GoodIn wsX4_pulses wsX4_acts := goodIn_r _ [12, 1, 6, 7, 4, 8, 13, 14, 15, 16, 17, 18, 19, 20, 2, 3, 5, 21, 22, 23, 24, 25, 26, 27, 28, 29, 30, 31, 32, 33, 34, 35, 36, 37, 38, 39, 40, 41, 42, 43, 44, 49, 50, 51, 52, 53, 54, 55, 56] (by decide +kernel) (by decide +kernel)
set_option maxRecDepth 20000 in
theorem gX4_pulses_X4_acts : GoodIn wsX4_pulses (wsV RX4 95 RX4 yX4_acts wsX4_acts) := goodIn_app (goodIn_of _ (by decide +kernel)) ggX4_pulses_X4_acts
set_option maxRecDepth 20000 in
theorem ggX4_pulses_X4_drops : GoodIn wsX4_pulses wsX4_drops := goodIn_r _ [40, 1, 49, 50, 51, 52, 53, 54, 55, 56] (by decide +kernel) (by decide +kernel)
set_option maxRecDepth 20000 in
theorem gX4_pulses_X4_drops : GoodIn wsX4_pulses (wsV RX4 65 RX4 yX4_drops wsX4_drops) := goodIn_app (goodIn_of _ (by decide +kernel)) ggX4_pulses_X4_drops
set_option maxRecDepth 20000 in
theorem ggX4_pulses_X4_exits : GoodIn wsX4_pulses wsX4_exits := goodIn_r _ [48, 1, 21, 22, 23, 4, 24, 6, 7, 8, 41, 42, 43, 44, 49, 50, 51, 52, 53, 54, 55, 56] (by decide +kernel) (by decide +kernel)
set_option maxRecDepth 20000 in
theorem gX4_pulses_X4_exits : GoodIn wsX4_pulses (wsV RX4 98 RX4 yX4_exits wsX4_exits) := goodIn_app (goodIn_of _ (by decide +kernel)) ggX4_pulses_X4_exits
theorem dX4_pulses_0 : decode cX4_pulses 0 = .ok (.iconst 0, 1) := by decide +kernel
theorem dX4_pulses_1 : decode cX4_pulses 1 = .ok (.istore_n 1, 1) := by decide +kernel
theorem dX4_pulses_2 : decode cX4_pulses 2 = .ok (.iload_n 1, 1) := by decide +kernel
theorem dX4_pulses_3 : decode cX4_pulses 3 = .ok (.aload_n 0, 1) := by decide +kernel
theorem dX4_pulses_4 : decode cX4_pulses 4 = .ok (.getfield 7, 3) := by decide +kernel
theorem dX4_pulses_7 : decode cX4_pulses 7 = .ok (.bipush 36, 2) := by decide +kernel
theorem dX4_pulses_9 : decode cX4_pulses 9 = .ok (.iaload, 1) := by decide +kernel
theorem dX4_pulses_10 : decode cX4_pulses 10 = .ok (.if_icmp .ge 23, 3) := by decide +kernel
theorem dX4_pulses_13 : decode cX4_pulses 13 = .ok (.aload_n 0, 1) := by decide +kernel
theorem dX4_pulses_14 : decode cX4_pulses 14 = .ok (.getfield 7, 3) := by decide +kernel
theorem dX4_pulses_17 : decode cX4_pulses 17 = .ok (.iload_n 1, 1) := by decide +kernel
theorem dX4_pulses_18 : decode cX4_pulses 18 = .ok (.iconst 1, 1) := by decide +kernel
theorem dX4_pulses_19 : decode cX4_pulses 19 = .ok (.invokestatic 33, 3) := by decide +kernel
theorem dX4_pulses_22 : decode cX4_pulses 22 = .ok (.dup2, 1) := by decide +kernel
theorem dX4_pulses_23 : decode cX4_pulses 23 = .ok (.iaload, 1) := by decide +kernel
theorem dX4_pulses_24 : decode cX4_pulses 24 = .ok (.iconst 1, 1) := by decide +kernel
theorem dX4_pulses_25 : decode cX4_pulses 25 = .ok (.iadd, 1) := by decide +kernel
theorem dX4_pulses_26 : decode cX4_pulses 26 = .ok (.iastore, 1) := by decide +kernel
theorem dX4_pulses_27 : decode cX4_pulses 27 = .ok (.iinc 1 1, 3) := by decide +kernel
theorem dX4_pulses_30 : decode cX4_pulses 30 = .ok (.goto (-28), 3) := by decide +kernel
theorem dX4_pulses_33 : decode cX4_pulses 33 = .ok (.iconst 0, 1) := by decide +kernel
theorem dX4_pulses_34 : decode cX4_pulses 34 = .ok (.istore_n 1, 1) := by decide +kernel
theorem dX4_pulses_35 : decode cX4_pulses 35 = .ok (.iload_n 1, 1) := by decide +kernel
theorem dX4_pulses_36 : decode cX4_pulses 36 = .ok (.aload_n 0, 1) := by decide +kernel
theorem dX4_pulses_37 : decode cX4_pulses 37 = .ok (.getfield 7, 3) := by decide +kernel
theorem dX4_pulses_40 : decode cX4_pulses 40 = .ok (.bipush 117, 2) := by decide +kernel
theorem dX4_pulses_42 : decode cX4_pulses 42 = .ok (.iaload, 1) := by decide +kernel
theorem dX4_pulses_43 : decode cX4_pulses 43 = .ok (.if_icmp .ge 23, 3) := by decide +kernel
theorem dX4_pulses_46 : decode cX4_pulses 46 = .ok (.aload_n 0, 1) := by decide +kernel
theorem dX4_pulses_47 : decode cX4_pulses 47 = .ok (.getfield 7, 3) := by decide +kernel
theorem dX4_pulses_50 : decode cX4_pulses 50 = .ok (.iload_n 1, 1) := by decide +kernel
theorem dX4_pulses_51 : decode cX4_pulses 51 = .ok (.iconst 1, 1) := by decide +kernel
theorem dX4_pulses_52 : decode cX4_pulses 52 = .ok (.invokestatic 37, 3) := by decide +kernel
theorem dX4_pulses_55 : decode cX4_pulses 55 = .ok (.dup2, 1) := by decide +kernel
theorem dX4_pulses_56 : decode cX4_pulses 56 = .ok (.iaload, 1) := by decide +kernel
theorem dX4_pulses_57 : decode cX4_pulses 57 = .ok (.iconst 1, 1) := by decide +kernel
theorem dX4_pulses_58 : decode cX4_pulses 58 = .ok (.iadd, 1) := by decide +kernel
theorem dX4_pulses_59 : decode cX4_pulses 59 = .ok (.iastore, 1) := by decide +kernel
theorem dX4_pulses_60 : decode cX4_pulses 60 = .ok (.iinc 1 1, 3) := by decide +kernel
theorem dX4_pulses_63 : decode cX4_pulses 63 = .ok (.goto (-28), 3) := by decide +kernel
theorem dX4_pulses_66 : decode cX4_pulses 66 = .ok (.iconst 0, 1) := by decide +kernel
theorem dX4_pulses_67 : decode cX4_pulses 67 = .ok (.istore_n 1, 1) := by decide +kernel
theorem dX4_pulses_68 : decode cX4_pulses 68 = .ok (.iload_n 1, 1) := by decide +kernel
theorem dX4_pulses_69 : decode cX4_pulses 69 = .ok (.aload_n 0, 1) := by decide +kernel
theorem dX4_pulses_70 : decode cX4_pulses 70 = .ok (.getfield 7, 3) := by decide +kernel
theorem dX4_pulses_73 : decode cX4_pulses 73 = .ok (.bipush 117, 2) := by decide +kernel
theorem dX4_pulses_75 : decode cX4_pulses 75 = .ok (.iaload, 1) := by decide +kernel
theorem dX4_pulses_76 : decode cX4_pulses 76 = .ok (.if_icmp .ge 22, 3) := by decide +kernel
theorem dX4_pulses_79 : decode cX4_pulses 79 = .ok (.iload_n 1, 1) := by decide +kernel
theorem dX4_pulses_80 : decode cX4_pulses 80 = .ok (.aload_n 0, 1) := by decide +kernel
theorem dX4_pulses_81 : decode cX4_pulses 81 = .ok (.iload_n 1, 1) := by decide +kernel
theorem dX4_pulses_82 : decode cX4_pulses 82 = .ok (.invokevirtual 95, 3) := by decide +kernel
theorem dX4_pulses_85 : decode cX4_pulses 85 = .ok (.ifCond .eq 7, 3) := by decide +kernel
theorem dX4_pulses_88 : decode cX4_pulses 88 = .ok (.iconst 1, 1) := by decide +kernel
theorem dX4_pulses_89 : decode cX4_pulses 89 = .ok (.goto 4, 3) := by decide +kernel
theorem dX4_pulses_92 : decode cX4_pulses 92 = .ok (.iconst 0, 1) := by decide +kernel
theorem dX4_pulses_93 : decode cX4_pulses 93 = .ok (.iadd, 1) := by decide +kernel
theorem dX4_pulses_94 : decode cX4_pulses 94 = .ok (.istore_n 1, 1) := by decide +kernel
theorem dX4_pulses_95 : decode cX4_pulses 95 = .ok (.goto (-27), 3) := by decide +kernel
theorem dX4_pulses_98 : decode cX4_pulses 98 = .ok (.iconst 0, 1) := by decide +kernel
theorem dX4_pulses_99 : decode cX4_pulses 99 = .ok (.istore_n 2, 1) := by decide +kernel
theorem dX4_pulses_100 : decode cX4_pulses 100 = .ok (.iload_n 2, 1) := by decide +kernel
theorem dX4_pulses_101 : decode cX4_pulses 101 = .ok (.aload_n 0, 1) := by decide +kernel
theorem dX4_pulses_102 : decode cX4_pulses 102 = .ok (.getfield 7, 3) := by decide +kernel
theorem dX4_pulses_105 : decode cX4_pulses 105 = .ok (.bipush 36, 2) := by decide +kernel
theorem dX4_pulses_107 : decode cX4_pulses 107 = .ok (.iaload, 1) := by decide +kernel
theorem dX4_pulses_108 : decode cX4_pulses 108 = .ok (.if_icmp .ge 46, 3) := by decide +kernel
theorem dX4_pulses_111 : decode cX4_pulses 111 = .ok (.aload_n 0, 1) := by decide +kernel
theorem dX4_pulses_112 : decode cX4_pulses 112 = .ok (.getfield 7, 3) := by decide +kernel
theorem dX4_pulses_115 : decode cX4_pulses 115 = .ok (.iload_n 2, 1) := by decide +kernel
theorem dX4_pulses_116 : decode cX4_pulses 116 = .ok (.iconst 1, 1) := by decide +kernel
theorem dX4_pulses_117 : decode cX4_pulses 117 = .ok (.invokestatic 33, 3) := by decide +kernel
theorem dX4_pulses_120 : decode cX4_pulses 120 = .ok (.iaload, 1) := by decide +kernel
theorem dX4_pulses_121 : decode cX4_pulses 121 = .ok (.aload_n 0, 1) := by decide +kernel
theorem dX4_pulses_122 : decode cX4_pulses 122 = .ok (.getfield 7, 3) := by decide +kernel
theorem dX4_pulses_125 : decode cX4_pulses 125 = .ok (.bipush 11, 2) := by decide +kernel
theorem dX4_pulses_127 : decode cX4_pulses 127 = .ok (.iaload, 1) := by decide +kernel
theorem dX4_pulses_128 : decode cX4_pulses 128 = .ok (.if_icmp .ne 20, 3) := by decide +kernel
theorem dX4_pulses_131 : decode cX4_pulses 131 = .ok (.aload_n 0, 1) := by decide +kernel
theorem dX4_pulses_132 : decode cX4_pulses 132 = .ok (.bipush 36, 2) := by decide +kernel
theorem dX4_pulses_134 : decode cX4_pulses 134 = .ok (.bipush 37, 2) := by decide +kernel
theorem dX4_pulses_136 : decode cX4_pulses 136 = .ok (.iconst 4, 1) := by decide +kernel
theorem dX4_pulses_137 : decode cX4_pulses 137 = .ok (.iload_n 2, 1) := by decide +kernel
theorem dX4_pulses_138 : decode cX4_pulses 138 = .ok (.invokevirtual 65, 3) := by decide +kernel
theorem dX4_pulses_141 : decode cX4_pulses 141 = .ok (.aload_n 0, 1) := by decide +kernel
theorem dX4_pulses_142 : decode cX4_pulses 142 = .ok (.invokevirtual 98, 3) := by decide +kernel
theorem dX4_pulses_145 : decode cX4_pulses 145 = .ok (.goto (-45), 3) := by decide +kernel
theorem dX4_pulses_148 : decode cX4_pulses 148 = .ok (.iinc 2 1, 3) := by decide +kernel
theorem dX4_pulses_151 : decode cX4_pulses 151 = .ok (.goto (-51), 3) := by decide +kernel
theorem dX4_pulses_154 : decode cX4_pulses 154 = .ok (.return_, 1) := by decide +kernel
set_option maxRecDepth 20000 in
theorem ggX4_tickOn_X4_delivers : GoodIn wsX4_tickOn wsX4_delivers := goodIn_r _ [6, 1, 7, 8, 9, 5, 10, 11, 12, 13, 14, 15, 16, 17, 18, 19, 20, 21, 22, 23, 24, 25, 69, 70, 71, 72, 73, 74, 75, 76] (by decide +kernel) (by decide +kernel)
set_option maxRecDepth 20000 in
theorem gX4_tickOn_X4_delivers : GoodIn wsX4_tickOn (wsV RX4 101 RX4 yX4_delivers wsX4_delivers) := goodIn_app (goodIn_of _ (by decide +kernel)) ggX4_tickOn_X4_delivers
set_option maxRecDepth 20000 in
theorem ggX4_tickOn_X4_arrives : GoodIn wsX4_tickOn wsX4_arrives := goodIn_r _ [29, 1, 22, 23, 24, 5, 25, 18, 19, 20, 21, 30, 31, 32, 33, 69, 70, 71, 72, 73, 74, 75, 76] (by decide +kernel) (by decide +kernel)
set_option maxRecDepth 20000 in
theorem gX4_tickOn_X4_arrives : GoodIn wsX4_tickOn (wsV RX4 104 RX4 yX4_arrives wsX4_arrives) := goodIn_app (goodIn_of _ (by decide +kernel)) ggX4_tickOn_X4_arrives
set_option maxRecDepth 20000 in
theorem ggX4_tickOn_X4_pulses : GoodIn wsX4_tickOn wsX4_pulses := goodIn_r _ [37, 1, 38, 39, 5, 40, 15, 16, 17, 41, 42, 43, 44, 45, 46, 47, 48, 49, 50, 51, 52, 18, 19, 20, 21, 53, 54, 55, 56, 57, 58, 59, 60, 61, 62, 63, 64, 22, 23, 24, 25, 30, 31, 32, 33, 65, 66, 67, 68, 69, 70, 71, 72, 73, 74, 75, 76] (by decide +kernel) (by decide +kernel)
set_option maxRecDepth 20000 in
theorem gX4_tickOn_X4_pulses : GoodIn wsX4_tickOn (wsV RX4 107 RX4 yX4_pulses wsX4_pulses) := goodIn_app (goodIn_of _ (by decide +kernel)) ggX4_tickOn_X4_pulses
theorem dX4_tickOn_0 : decode cX4_tickOn 0 = .ok (.aload_n 0, 1) := by decide +kernel
theorem dX4_tickOn_1 : decode cX4_tickOn 1 = .ok (.getfield 7, 3) := by decide +kernel
theorem dX4_tickOn_4 : decode cX4_tickOn 4 = .ok (.bipush 14, 2) := by decide +kernel
theorem dX4_tickOn_6 : decode cX4_tickOn 6 = .ok (.dup2, 1) := by decide +kernel
theorem dX4_tickOn_7 : decode cX4_tickOn 7 = .ok (.iaload, 1) := by decide +kernel
theorem dX4_tickOn_8 : decode cX4_tickOn 8 = .ok (.iconst 1, 1) := by decide +kernel
theorem dX4_tickOn_9 : decode cX4_tickOn 9 = .ok (.iadd, 1) := by decide +kernel
theorem dX4_tickOn_10 : decode cX4_tickOn 10 = .ok (.iastore, 1) := by decide +kernel
theorem dX4_tickOn_11 : decode cX4_tickOn 11 = .ok (.aload_n 0, 1) := by decide +kernel
theorem dX4_tickOn_12 : decode cX4_tickOn 12 = .ok (.invokevirtual 101, 3) := by decide +kernel
theorem dX4_tickOn_15 : decode cX4_tickOn 15 = .ok (.aload_n 0, 1) := by decide +kernel
theorem dX4_tickOn_16 : decode cX4_tickOn 16 = .ok (.invokevirtual 104, 3) := by decide +kernel
theorem dX4_tickOn_19 : decode cX4_tickOn 19 = .ok (.iconst 0, 1) := by decide +kernel
theorem dX4_tickOn_20 : decode cX4_tickOn 20 = .ok (.istore_n 1, 1) := by decide +kernel
theorem dX4_tickOn_21 : decode cX4_tickOn 21 = .ok (.iload_n 1, 1) := by decide +kernel
theorem dX4_tickOn_22 : decode cX4_tickOn 22 = .ok (.aload_n 0, 1) := by decide +kernel
theorem dX4_tickOn_23 : decode cX4_tickOn 23 = .ok (.getfield 7, 3) := by decide +kernel
theorem dX4_tickOn_26 : decode cX4_tickOn 26 = .ok (.iconst 0, 1) := by decide +kernel
theorem dX4_tickOn_27 : decode cX4_tickOn 27 = .ok (.iaload, 1) := by decide +kernel
theorem dX4_tickOn_28 : decode cX4_tickOn 28 = .ok (.if_icmp .ge 24, 3) := by decide +kernel
theorem dX4_tickOn_31 : decode cX4_tickOn 31 = .ok (.aload_n 0, 1) := by decide +kernel
theorem dX4_tickOn_32 : decode cX4_tickOn 32 = .ok (.getfield 7, 3) := by decide +kernel
theorem dX4_tickOn_35 : decode cX4_tickOn 35 = .ok (.bipush 15, 2) := by decide +kernel
theorem dX4_tickOn_37 : decode cX4_tickOn 37 = .ok (.iaload, 1) := by decide +kernel
theorem dX4_tickOn_38 : decode cX4_tickOn 38 = .ok (.iconst 1, 1) := by decide +kernel
theorem dX4_tickOn_39 : decode cX4_tickOn 39 = .ok (.if_icmp .ne 13, 3) := by decide +kernel
theorem dX4_tickOn_42 : decode cX4_tickOn 42 = .ok (.aload_n 0, 1) := by decide +kernel
theorem dX4_tickOn_43 : decode cX4_tickOn 43 = .ok (.invokevirtual 107, 3) := by decide +kernel
theorem dX4_tickOn_46 : decode cX4_tickOn 46 = .ok (.iinc 1 1, 3) := by decide +kernel
theorem dX4_tickOn_49 : decode cX4_tickOn 49 = .ok (.goto (-28), 3) := by decide +kernel
theorem dX4_tickOn_52 : decode cX4_tickOn 52 = .ok (.return_, 1) := by decide +kernel
set_option maxRecDepth 20000 in
theorem ggX4_runs_X4_tickOn : GoodIn wsX4_runs wsX4_tickOn := goodIn_r _ [6, 1, 7, 8, 9, 5, 10, 11, 12, 13, 14, 15, 16, 17, 18, 19, 20, 21, 22, 23, 24, 25, 26, 27, 28, 29, 30, 31, 32, 33, 34, 35, 36, 37, 38, 39, 40, 41, 42, 43, 44, 45, 46, 47, 48, 49, 50, 51, 52, 53, 54, 55, 56, 57, 58, 59, 60, 61, 62, 63, 64, 65, 66, 67, 68, 69, 70, 71, 72, 73, 74, 75, 76, 77, 78, 79, 80] (by decide +kernel) (by decide +kernel)
set_option maxRecDepth 20000 in
theorem gX4_runs_X4_tickOn : GoodIn wsX4_runs (wsV RX4 110 RX4 yX4_tickOn wsX4_tickOn) := goodIn_app (goodIn_of _ (by decide +kernel)) ggX4_runs_X4_tickOn
theorem dX4_runs_0 : decode cX4_runs 0 = .ok (.iconst 0, 1) := by decide +kernel
theorem dX4_runs_1 : decode cX4_runs 1 = .ok (.istore_n 2, 1) := by decide +kernel
theorem dX4_runs_2 : decode cX4_runs 2 = .ok (.iload_n 2, 1) := by decide +kernel
theorem dX4_runs_3 : decode cX4_runs 3 = .ok (.iload_n 1, 1) := by decide +kernel
theorem dX4_runs_4 : decode cX4_runs 4 = .ok (.if_icmp .ge 13, 3) := by decide +kernel
theorem dX4_runs_7 : decode cX4_runs 7 = .ok (.aload_n 0, 1) := by decide +kernel
theorem dX4_runs_8 : decode cX4_runs 8 = .ok (.invokevirtual 110, 3) := by decide +kernel
theorem dX4_runs_11 : decode cX4_runs 11 = .ok (.iinc 2 1, 3) := by decide +kernel
theorem dX4_runs_14 : decode cX4_runs 14 = .ok (.goto (-12), 3) := by decide +kernel
theorem dX4_runs_17 : decode cX4_runs 17 = .ok (.aload_n 0, 1) := by decide +kernel
theorem dX4_runs_18 : decode cX4_runs 18 = .ok (.getfield 7, 3) := by decide +kernel
theorem dX4_runs_21 : decode cX4_runs 21 = .ok (.bipush 14, 2) := by decide +kernel
theorem dX4_runs_23 : decode cX4_runs 23 = .ok (.iaload, 1) := by decide +kernel
theorem dX4_runs_24 : decode cX4_runs 24 = .ok (.ireturn, 1) := by decide +kernel
set_option maxRecDepth 20000 in
theorem ggX4_run_X4_within : GoodIn wsX4_run wsX4_within := goodIn_r _ [4] (by decide +kernel) (by decide +kernel)
set_option maxRecDepth 20000 in
theorem gX4_run_X4_within : GoodIn wsX4_run (va_wsS RX4 40 yX4_within wsX4_within) := goodIn_app (goodIn_of _ (by decide +kernel)) ggX4_run_X4_within
set_option maxRecDepth 20000 in
theorem ggX4_run_X4_refused : GoodIn wsX4_run wsX4_refused := goodIn_r _ [8, 9, 91, 92, 93, 94, 95, 96, 97, 98] (by decide +kernel) (by decide +kernel)
set_option maxRecDepth 20000 in
theorem gX4_run_X4_refused : GoodIn wsX4_run (wsV RX4 29 RX4 yX4_refused wsX4_refused) := goodIn_app (goodIn_of _ (by decide +kernel)) ggX4_run_X4_refused
set_option maxRecDepth 20000 in
theorem ggX4_run_X4_saves : GoodIn wsX4_run wsX4_saves := goodIn_r _ [13, 14, 15, 16, 91, 92, 93, 94, 95, 96, 97, 98] (by decide +kernel) (by decide +kernel)
set_option maxRecDepth 20000 in
theorem gX4_run_X4_saves : GoodIn wsX4_run (wsV RX4 44 RX4 yX4_saves wsX4_saves) := goodIn_app (goodIn_of _ (by decide +kernel)) ggX4_run_X4_saves
set_option maxRecDepth 20000 in
theorem ggX4_run_X4_runs : GoodIn wsX4_run wsX4_runs := goodIn_r _ [20, 16, 21, 22, 23, 3, 24, 25, 26, 27, 28, 29, 30, 31, 32, 33, 34, 35, 36, 37, 38, 39, 40, 41, 42, 43, 44, 45, 46, 47, 48, 49, 50, 51, 52, 53, 54, 55, 56, 57, 58, 59, 60, 61, 62, 63, 64, 65, 66, 67, 68, 69, 70, 71, 72, 73, 74, 75, 76, 77, 78, 79, 80, 81, 82, 83, 84, 85, 86, 87, 88, 89, 90, 91, 92, 93, 94, 95, 96, 97, 98] (by decide +kernel) (by decide +kernel)
set_option maxRecDepth 20000 in
theorem gX4_run_X4_runs : GoodIn wsX4_run (wsV RX4 113 RX4 yX4_runs wsX4_runs) := goodIn_app (goodIn_of _ (by decide +kernel)) ggX4_run_X4_runs
theorem dX4_run_0 : decode cX4_run 0 = .ok (.aload_n 0, 1) := by decide +kernel
theorem dX4_run_1 : decode cX4_run 1 = .ok (.iload_n 1, 1) := by decide +kernel
theorem dX4_run_2 : decode cX4_run 2 = .ok (.iconst 0, 1) := by decide +kernel
theorem dX4_run_3 : decode cX4_run 3 = .ok (.sipush 1000, 3) := by decide +kernel
theorem dX4_run_6 : decode cX4_run 6 = .ok (.invokestatic 40, 3) := by decide +kernel
theorem dX4_run_9 : decode cX4_run 9 = .ok (.ifCond .eq 7, 3) := by decide +kernel
theorem dX4_run_12 : decode cX4_run 12 = .ok (.iconst 0, 1) := by decide +kernel
theorem dX4_run_13 : decode cX4_run 13 = .ok (.goto 4, 3) := by decide +kernel
theorem dX4_run_16 : decode cX4_run 16 = .ok (.iconst 1, 1) := by decide +kernel
theorem dX4_run_17 : decode cX4_run 17 = .ok (.invokevirtual 29, 3) := by decide +kernel
theorem dX4_run_20 : decode cX4_run 20 = .ok (.ifCond .eq 5, 3) := by decide +kernel
theorem dX4_run_23 : decode cX4_run 23 = .ok (.iconst 0, 1) := by decide +kernel
theorem dX4_run_24 : decode cX4_run 24 = .ok (.ireturn, 1) := by decide +kernel
theorem dX4_run_25 : decode cX4_run 25 = .ok (.aload_n 0, 1) := by decide +kernel
theorem dX4_run_26 : decode cX4_run 26 = .ok (.invokevirtual 44, 3) := by decide +kernel
theorem dX4_run_29 : decode cX4_run 29 = .ok (.aload_n 0, 1) := by decide +kernel
theorem dX4_run_30 : decode cX4_run 30 = .ok (.iload_n 1, 1) := by decide +kernel
theorem dX4_run_31 : decode cX4_run 31 = .ok (.invokevirtual 113, 3) := by decide +kernel
theorem dX4_run_34 : decode cX4_run 34 = .ok (.ireturn, 1) := by decide +kernel
theorem dX4_tellStatus_0 : decode cX4_tellStatus 0 = .ok (.iload_n 1, 1) := by decide +kernel
theorem dX4_tellStatus_1 : decode cX4_tellStatus 1 = .ok (.tableswitch 101 0 6 #[43, 51, 59, 67, 75, 83, 92], 43) := by decide +kernel
theorem dX4_tellStatus_44 : decode cX4_tellStatus 44 = .ok (.aload_n 0, 1) := by decide +kernel
theorem dX4_tellStatus_45 : decode cX4_tellStatus 45 = .ok (.getfield 7, 3) := by decide +kernel
theorem dX4_tellStatus_48 : decode cX4_tellStatus 48 = .ok (.bipush 14, 2) := by decide +kernel
theorem dX4_tellStatus_50 : decode cX4_tellStatus 50 = .ok (.iaload, 1) := by decide +kernel
theorem dX4_tellStatus_51 : decode cX4_tellStatus 51 = .ok (.ireturn, 1) := by decide +kernel
theorem dX4_tellStatus_52 : decode cX4_tellStatus 52 = .ok (.aload_n 0, 1) := by decide +kernel
theorem dX4_tellStatus_53 : decode cX4_tellStatus 53 = .ok (.getfield 7, 3) := by decide +kernel
theorem dX4_tellStatus_56 : decode cX4_tellStatus 56 = .ok (.bipush 15, 2) := by decide +kernel
theorem dX4_tellStatus_58 : decode cX4_tellStatus 58 = .ok (.iaload, 1) := by decide +kernel
theorem dX4_tellStatus_59 : decode cX4_tellStatus 59 = .ok (.ireturn, 1) := by decide +kernel
theorem dX4_tellStatus_60 : decode cX4_tellStatus 60 = .ok (.aload_n 0, 1) := by decide +kernel
theorem dX4_tellStatus_61 : decode cX4_tellStatus 61 = .ok (.getfield 7, 3) := by decide +kernel
theorem dX4_tellStatus_64 : decode cX4_tellStatus 64 = .ok (.bipush 16, 2) := by decide +kernel
theorem dX4_tellStatus_66 : decode cX4_tellStatus 66 = .ok (.iaload, 1) := by decide +kernel
theorem dX4_tellStatus_67 : decode cX4_tellStatus 67 = .ok (.ireturn, 1) := by decide +kernel
theorem dX4_tellStatus_68 : decode cX4_tellStatus 68 = .ok (.aload_n 0, 1) := by decide +kernel
theorem dX4_tellStatus_69 : decode cX4_tellStatus 69 = .ok (.getfield 7, 3) := by decide +kernel
theorem dX4_tellStatus_72 : decode cX4_tellStatus 72 = .ok (.bipush 36, 2) := by decide +kernel
theorem dX4_tellStatus_74 : decode cX4_tellStatus 74 = .ok (.iaload, 1) := by decide +kernel
theorem dX4_tellStatus_75 : decode cX4_tellStatus 75 = .ok (.ireturn, 1) := by decide +kernel
theorem dX4_tellStatus_76 : decode cX4_tellStatus 76 = .ok (.aload_n 0, 1) := by decide +kernel
theorem dX4_tellStatus_77 : decode cX4_tellStatus 77 = .ok (.getfield 7, 3) := by decide +kernel
theorem dX4_tellStatus_80 : decode cX4_tellStatus 80 = .ok (.bipush 117, 2) := by decide +kernel
theorem dX4_tellStatus_82 : decode cX4_tellStatus 82 = .ok (.iaload, 1) := by decide +kernel
theorem dX4_tellStatus_83 : decode cX4_tellStatus 83 = .ok (.ireturn, 1) := by decide +kernel
theorem dX4_tellStatus_84 : decode cX4_tellStatus 84 = .ok (.aload_n 0, 1) := by decide +kernel
theorem dX4_tellStatus_85 : decode cX4_tellStatus 85 = .ok (.getfield 7, 3) := by decide +kernel
theorem dX4_tellStatus_88 : decode cX4_tellStatus 88 = .ok (.sipush 478, 3) := by decide +kernel
theorem dX4_tellStatus_91 : decode cX4_tellStatus 91 = .ok (.iaload, 1) := by decide +kernel
theorem dX4_tellStatus_92 : decode cX4_tellStatus 92 = .ok (.ireturn, 1) := by decide +kernel
theorem dX4_tellStatus_93 : decode cX4_tellStatus 93 = .ok (.aload_n 0, 1) := by decide +kernel
theorem dX4_tellStatus_94 : decode cX4_tellStatus 94 = .ok (.getfield 7, 3) := by decide +kernel
theorem dX4_tellStatus_97 : decode cX4_tellStatus 97 = .ok (.sipush 1040, 3) := by decide +kernel
theorem dX4_tellStatus_100 : decode cX4_tellStatus 100 = .ok (.iaload, 1) := by decide +kernel
theorem dX4_tellStatus_101 : decode cX4_tellStatus 101 = .ok (.ireturn, 1) := by decide +kernel
theorem dX4_tellStatus_102 : decode cX4_tellStatus 102 = .ok (.aload_n 0, 1) := by decide +kernel
theorem dX4_tellStatus_103 : decode cX4_tellStatus 103 = .ok (.getfield 7, 3) := by decide +kernel
theorem dX4_tellStatus_106 : decode cX4_tellStatus 106 = .ok (.sipush 959, 3) := by decide +kernel
theorem dX4_tellStatus_109 : decode cX4_tellStatus 109 = .ok (.iaload, 1) := by decide +kernel
theorem dX4_tellStatus_110 : decode cX4_tellStatus 110 = .ok (.ireturn, 1) := by decide +kernel
set_option maxRecDepth 20000 in
theorem ggX4_status_X4_within : GoodIn wsX4_status wsX4_within := goodIn_r _ [4] (by decide +kernel) (by decide +kernel)
set_option maxRecDepth 20000 in
theorem gX4_status_X4_within : GoodIn wsX4_status (va_wsS RX4 40 yX4_within wsX4_within) := goodIn_app (goodIn_of _ (by decide +kernel)) ggX4_status_X4_within
set_option maxRecDepth 20000 in
theorem ggX4_status_X4_refused : GoodIn wsX4_status wsX4_refused := goodIn_r _ [8, 9, 15, 16, 17, 18, 19, 20, 21, 22] (by decide +kernel) (by decide +kernel)
set_option maxRecDepth 20000 in
theorem gX4_status_X4_refused : GoodIn wsX4_status (wsV RX4 29 RX4 yX4_refused wsX4_refused) := goodIn_app (goodIn_of _ (by decide +kernel)) ggX4_status_X4_refused
set_option maxRecDepth 20000 in
theorem ggX4_status_X4_tellStatus : GoodIn wsX4_status wsX4_tellStatus := goodIn_r _ [13, 14, 15, 16, 17, 18, 19, 20, 21, 22] (by decide +kernel) (by decide +kernel)
set_option maxRecDepth 20000 in
theorem gX4_status_X4_tellStatus : GoodIn wsX4_status (wsV RX4 116 RX4 yX4_tellStatus wsX4_tellStatus) := goodIn_app (goodIn_of _ (by decide +kernel)) ggX4_status_X4_tellStatus
theorem dX4_status_0 : decode cX4_status 0 = .ok (.aload_n 0, 1) := by decide +kernel
theorem dX4_status_1 : decode cX4_status 1 = .ok (.iload_n 1, 1) := by decide +kernel
theorem dX4_status_2 : decode cX4_status 2 = .ok (.iconst 0, 1) := by decide +kernel
theorem dX4_status_3 : decode cX4_status 3 = .ok (.bipush 7, 2) := by decide +kernel
theorem dX4_status_5 : decode cX4_status 5 = .ok (.invokestatic 40, 3) := by decide +kernel
theorem dX4_status_8 : decode cX4_status 8 = .ok (.ifCond .eq 7, 3) := by decide +kernel
theorem dX4_status_11 : decode cX4_status 11 = .ok (.iconst 0, 1) := by decide +kernel
theorem dX4_status_12 : decode cX4_status 12 = .ok (.goto 4, 3) := by decide +kernel
theorem dX4_status_15 : decode cX4_status 15 = .ok (.iconst 1, 1) := by decide +kernel
theorem dX4_status_16 : decode cX4_status 16 = .ok (.invokevirtual 29, 3) := by decide +kernel
theorem dX4_status_19 : decode cX4_status 19 = .ok (.ifCond .eq 7, 3) := by decide +kernel
theorem dX4_status_22 : decode cX4_status 22 = .ok (.iconst 0, 1) := by decide +kernel
theorem dX4_status_23 : decode cX4_status 23 = .ok (.goto 8, 3) := by decide +kernel
theorem dX4_status_26 : decode cX4_status 26 = .ok (.aload_n 0, 1) := by decide +kernel
theorem dX4_status_27 : decode cX4_status 27 = .ok (.iload_n 1, 1) := by decide +kernel
theorem dX4_status_28 : decode cX4_status 28 = .ok (.invokevirtual 116, 3) := by decide +kernel
theorem dX4_status_31 : decode cX4_status 31 = .ok (.ireturn, 1) := by decide +kernel
set_option maxRecDepth 20000 in
theorem ggX4_item_X4_itemOf : GoodIn wsX4_item wsX4_itemOf := goodIn_r _ [6, 1, 7, 8, 5, 9, 18, 19, 20, 21, 22, 23, 24, 25] (by decide +kernel) (by decide +kernel)
set_option maxRecDepth 20000 in
theorem gX4_item_X4_itemOf : GoodIn wsX4_item (wsV RX4 62 RX4 yX4_itemOf wsX4_itemOf) := goodIn_app (goodIn_of _ (by decide +kernel)) ggX4_item_X4_itemOf
set_option maxRecDepth 20000 in
theorem ggX4_item_X4_within : GoodIn wsX4_item wsX4_within := goodIn_r _ [12] (by decide +kernel) (by decide +kernel)
set_option maxRecDepth 20000 in
theorem gX4_item_X4_within : GoodIn wsX4_item (va_wsS RX4 40 yX4_within wsX4_within) := goodIn_app (goodIn_of _ (by decide +kernel)) ggX4_item_X4_within
