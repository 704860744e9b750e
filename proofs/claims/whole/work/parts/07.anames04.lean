theorem dX3_start_7 : decode cX3_start 7 = .ok (.ifCond .ne 13, 3) := by decide +kernel
theorem dX3_start_10 : decode cX3_start 10 = .ok (.aload_n 0, 1) := by decide +kernel
theorem dX3_start_11 : decode cX3_start 11 = .ok (.getfield 10, 3) := by decide +kernel
theorem dX3_start_14 : decode cX3_start 14 = .ok (.getfield 106, 3) := by decide +kernel
theorem dX3_start_17 : decode cX3_start 17 = .ok (.ifCond .eq 13, 3) := by decide +kernel
theorem dX3_start_20 : decode cX3_start 20 = .ok (.new 54, 3) := by decide +kernel
theorem dX3_start_23 : decode cX3_start 23 = .ok (.dup, 1) := by decide +kernel
theorem dX3_start_24 : decode cX3_start 24 = .ok (.ldc 109, 2) := by decide +kernel
theorem dX3_start_26 : decode cX3_start 26 = .ok (.invokespecial 58, 3) := by decide +kernel
theorem dX3_start_29 : decode cX3_start 29 = .ok (.athrow, 1) := by decide +kernel
theorem dX3_start_30 : decode cX3_start 30 = .ok (.aload_n 0, 1) := by decide +kernel
theorem dX3_start_31 : decode cX3_start 31 = .ok (.getfield 22, 3) := by decide +kernel
theorem dX3_start_34 : decode cX3_start 34 = .ok (.aload_n 0, 1) := by decide +kernel
theorem dX3_start_35 : decode cX3_start 35 = .ok (.getfield 10, 3) := by decide +kernel
theorem dX3_start_38 : decode cX3_start 38 = .ok (.invokevirtual 59, 3) := by decide +kernel
theorem dX3_start_41 : decode cX3_start 41 = .ok (.aload_n 0, 1) := by decide +kernel
theorem dX3_start_42 : decode cX3_start 42 = .ok (.getfield 10, 3) := by decide +kernel
theorem dX3_start_45 : decode cX3_start 45 = .ok (.iconst 1, 1) := by decide +kernel
theorem dX3_start_46 : decode cX3_start 46 = .ok (.putfield 103, 3) := by decide +kernel
theorem dX3_start_49 : decode cX3_start 49 = .ok (.aload_n 0, 1) := by decide +kernel
theorem dX3_start_50 : decode cX3_start 50 = .ok (.getfield 10, 3) := by decide +kernel
theorem dX3_start_53 : decode cX3_start 53 = .ok (.getfield 41, 3) := by decide +kernel
theorem dX3_start_56 : decode cX3_start 56 = .ok (.invokevirtual 45, 3) := by decide +kernel
theorem dX3_start_59 : decode cX3_start 59 = .ok (.ireturn, 1) := by decide +kernel
set_option maxRecDepth 20000 in
theorem ggX3_stop_X0_save : GoodIn wsX3_stop wsX0_save := goodIn_r _ [9, 10, 11, 12, 8, 13, 14, 15, 16, 17, 18, 19, 20, 21, 22, 23, 24, 25, 26, 27, 28, 29, 30, 31, 32, 33, 34, 35, 36, 37, 38, 39, 40, 41, 42, 43, 44, 45, 46, 47, 48, 49, 50, 51, 52, 53, 54, 55, 56, 57, 58, 59, 85, 86, 87, 69, 70, 71, 72, 73, 74, 75, 76, 77, 78, 79, 80, 81, 82, 83, 84, 88, 89, 90, 91] (by decide +kernel) (by decide +kernel)
set_option maxRecDepth 20000 in
theorem gX3_stop_X0_save : GoodIn wsX3_stop (wsV RX3 59 RX0 yX0_save wsX0_save) := goodIn_app (goodIn_of _ (by decide +kernel)) ggX3_stop_X0_save
set_option maxRecDepth 20000 in
theorem ggX3_stop_X2_count : GoodIn wsX3_stop wsX2_count := goodIn_r _ [63, 55, 88, 89, 90, 91] (by decide +kernel) (by decide +kernel)
set_option maxRecDepth 20000 in
theorem gX3_stop_X2_count : GoodIn wsX3_stop (wsV RX3 45 RX2 yX2_count wsX2_count) := goodIn_app (goodIn_of _ (by decide +kernel)) ggX3_stop_X2_count
theorem dX3_stop_0 : decode cX3_stop 0 = .ok (.aload_n 0, 1) := by decide +kernel
theorem dX3_stop_1 : decode cX3_stop 1 = .ok (.getfield 10, 3) := by decide +kernel
theorem dX3_stop_4 : decode cX3_stop 4 = .ok (.getfield 103, 3) := by decide +kernel
theorem dX3_stop_7 : decode cX3_stop 7 = .ok (.ifCond .ne 13, 3) := by decide +kernel
theorem dX3_stop_10 : decode cX3_stop 10 = .ok (.new 54, 3) := by decide +kernel
theorem dX3_stop_13 : decode cX3_stop 13 = .ok (.dup, 1) := by decide +kernel
theorem dX3_stop_14 : decode cX3_stop 14 = .ok (.ldc 111, 2) := by decide +kernel
theorem dX3_stop_16 : decode cX3_stop 16 = .ok (.invokespecial 58, 3) := by decide +kernel
theorem dX3_stop_19 : decode cX3_stop 19 = .ok (.athrow, 1) := by decide +kernel
theorem dX3_stop_20 : decode cX3_stop 20 = .ok (.aload_n 0, 1) := by decide +kernel
theorem dX3_stop_21 : decode cX3_stop 21 = .ok (.getfield 22, 3) := by decide +kernel
theorem dX3_stop_24 : decode cX3_stop 24 = .ok (.aload_n 0, 1) := by decide +kernel
theorem dX3_stop_25 : decode cX3_stop 25 = .ok (.getfield 10, 3) := by decide +kernel
theorem dX3_stop_28 : decode cX3_stop 28 = .ok (.invokevirtual 59, 3) := by decide +kernel
theorem dX3_stop_31 : decode cX3_stop 31 = .ok (.aload_n 0, 1) := by decide +kernel
theorem dX3_stop_32 : decode cX3_stop 32 = .ok (.getfield 10, 3) := by decide +kernel
theorem dX3_stop_35 : decode cX3_stop 35 = .ok (.iconst 0, 1) := by decide +kernel
theorem dX3_stop_36 : decode cX3_stop 36 = .ok (.putfield 103, 3) := by decide +kernel
theorem dX3_stop_39 : decode cX3_stop 39 = .ok (.aload_n 0, 1) := by decide +kernel
theorem dX3_stop_40 : decode cX3_stop 40 = .ok (.getfield 10, 3) := by decide +kernel
theorem dX3_stop_43 : decode cX3_stop 43 = .ok (.getfield 41, 3) := by decide +kernel
theorem dX3_stop_46 : decode cX3_stop 46 = .ok (.invokevirtual 45, 3) := by decide +kernel
theorem dX3_stop_49 : decode cX3_stop 49 = .ok (.ireturn, 1) := by decide +kernel
set_option maxRecDepth 20000 in
theorem ggX3_reset_X0_save : GoodIn wsX3_reset wsX0_save := goodIn_r _ [9, 10, 11, 12, 8, 13, 14, 15, 16, 17, 18, 19, 20, 21, 22, 23, 24, 25, 26, 27, 28, 29, 30, 31, 32, 33, 34, 35, 36, 37, 38, 39, 40, 41, 42, 43, 44, 45, 46, 47, 48, 49, 50, 51, 52, 53, 54, 55, 56, 57, 58, 59, 81, 82, 83, 65, 66, 67, 68, 69, 70, 71, 72, 73, 74, 75, 76, 77, 78, 79, 80, 84, 85, 86, 87] (by decide +kernel) (by decide +kernel)
set_option maxRecDepth 20000 in
theorem gX3_reset_X0_save : GoodIn wsX3_reset (wsV RX3 59 RX0 yX0_save wsX0_save) := goodIn_app (goodIn_of _ (by decide +kernel)) ggX3_reset_X0_save
theorem dX3_reset_0 : decode cX3_reset 0 = .ok (.aload_n 0, 1) := by decide +kernel
theorem dX3_reset_1 : decode cX3_reset 1 = .ok (.getfield 10, 3) := by decide +kernel
theorem dX3_reset_4 : decode cX3_reset 4 = .ok (.getfield 106, 3) := by decide +kernel
theorem dX3_reset_7 : decode cX3_reset 7 = .ok (.ifCond .ne 13, 3) := by decide +kernel
theorem dX3_reset_10 : decode cX3_reset 10 = .ok (.new 54, 3) := by decide +kernel
theorem dX3_reset_13 : decode cX3_reset 13 = .ok (.dup, 1) := by decide +kernel
theorem dX3_reset_14 : decode cX3_reset 14 = .ok (.ldc 113, 2) := by decide +kernel
theorem dX3_reset_16 : decode cX3_reset 16 = .ok (.invokespecial 58, 3) := by decide +kernel
theorem dX3_reset_19 : decode cX3_reset 19 = .ok (.athrow, 1) := by decide +kernel
theorem dX3_reset_20 : decode cX3_reset 20 = .ok (.aload_n 0, 1) := by decide +kernel
theorem dX3_reset_21 : decode cX3_reset 21 = .ok (.getfield 22, 3) := by decide +kernel
theorem dX3_reset_24 : decode cX3_reset 24 = .ok (.aload_n 0, 1) := by decide +kernel
theorem dX3_reset_25 : decode cX3_reset 25 = .ok (.getfield 10, 3) := by decide +kernel
theorem dX3_reset_28 : decode cX3_reset 28 = .ok (.invokevirtual 59, 3) := by decide +kernel
theorem dX3_reset_31 : decode cX3_reset 31 = .ok (.aload_n 0, 1) := by decide +kernel
theorem dX3_reset_32 : decode cX3_reset 32 = .ok (.getfield 10, 3) := by decide +kernel
theorem dX3_reset_35 : decode cX3_reset 35 = .ok (.getfield 106, 3) := by decide +kernel
theorem dX3_reset_38 : decode cX3_reset 38 = .ok (.istore_n 1, 1) := by decide +kernel
theorem dX3_reset_39 : decode cX3_reset 39 = .ok (.aload_n 0, 1) := by decide +kernel
theorem dX3_reset_40 : decode cX3_reset 40 = .ok (.getfield 10, 3) := by decide +kernel
theorem dX3_reset_43 : decode cX3_reset 43 = .ok (.iconst 0, 1) := by decide +kernel
theorem dX3_reset_44 : decode cX3_reset 44 = .ok (.putfield 106, 3) := by decide +kernel
theorem dX3_reset_47 : decode cX3_reset 47 = .ok (.iload_n 1, 1) := by decide +kernel
theorem dX3_reset_48 : decode cX3_reset 48 = .ok (.ireturn, 1) := by decide +kernel
set_option maxRecDepth 20000 in
theorem ggX3_feed_X1_hasRoom : GoodIn wsX3_feed wsX1_hasRoom := goodIn_r _ [11, 12, 13, 14, 15, 16, 17, 18, 19, 20, 21, 22, 23, 24, 25, 26, 27, 28, 29, 106, 107, 108, 109, 110, 111, 112, 113, 114, 115, 116, 117, 118, 119, 120, 121, 122, 123, 124, 125] (by decide +kernel) (by decide +kernel)
set_option maxRecDepth 20000 in
theorem gX3_feed_X1_hasRoom : GoodIn wsX3_feed (wsV RX3 117 RX1 yX1_hasRoom wsX1_hasRoom) := goodIn_app (goodIn_of _ (by decide +kernel)) ggX3_feed_X1_hasRoom
set_option maxRecDepth 20000 in
theorem ggX3_feed_X0_save : GoodIn wsX3_feed wsX0_save := goodIn_r _ [34, 35, 36, 37, 33, 38, 39, 40, 41, 42, 43, 44, 45, 46, 47, 48, 10, 49, 50, 51, 52, 53, 54, 55, 56, 57, 58, 59, 60, 12, 13, 61, 62, 63, 64, 65, 66, 67, 68, 69, 70, 71, 72, 17, 73, 29, 74, 19, 75, 76, 77, 78, 126, 127, 128, 106, 107, 108, 109, 110, 111, 112, 113, 114, 115, 116, 117, 118, 119, 120, 121, 122, 123, 124, 125] (by decide +kernel) (by decide +kernel)
set_option maxRecDepth 20000 in
theorem gX3_feed_X0_save : GoodIn wsX3_feed (wsV RX3 59 RX0 yX0_save wsX0_save) := goodIn_app (goodIn_of _ (by decide +kernel)) ggX3_feed_X0_save
set_option maxRecDepth 20000 in
theorem ggX3_feed_X1_enter : GoodIn wsX3_feed wsX1_enter := goodIn_r _ [82, 12, 13, 83, 84, 85, 10, 86, 60, 87, 88, 89, 90, 91, 92, 93, 17, 94, 19, 95, 28, 96, 97, 98, 99, 29, 100, 106, 107, 108, 109, 110, 111, 112, 113, 114, 115, 116, 117, 118, 119, 120, 121, 122, 123, 124, 125] (by decide +kernel) (by decide +kernel)
set_option maxRecDepth 20000 in
theorem gX3_feed_X1_enter : GoodIn wsX3_feed (wsV RX3 123 RX1 yX1_enter wsX1_enter) := goodIn_app (goodIn_of _ (by decide +kernel)) ggX3_feed_X1_enter
theorem dX3_feed_0 : decode cX3_feed 0 = .ok (.iload_n 1, 1) := by decide +kernel
theorem dX3_feed_1 : decode cX3_feed 1 = .ok (.ifCond .lt 8, 3) := by decide +kernel
theorem dX3_feed_4 : decode cX3_feed 4 = .ok (.iload_n 1, 1) := by decide +kernel
theorem dX3_feed_5 : decode cX3_feed 5 = .ok (.iconst 3, 1) := by decide +kernel
theorem dX3_feed_6 : decode cX3_feed 6 = .ok (.if_icmp .le 13, 3) := by decide +kernel
theorem dX3_feed_9 : decode cX3_feed 9 = .ok (.new 34, 3) := by decide +kernel
theorem dX3_feed_12 : decode cX3_feed 12 = .ok (.dup, 1) := by decide +kernel
theorem dX3_feed_13 : decode cX3_feed 13 = .ok (.ldc 115, 2) := by decide +kernel
theorem dX3_feed_15 : decode cX3_feed 15 = .ok (.invokespecial 38, 3) := by decide +kernel
theorem dX3_feed_18 : decode cX3_feed 18 = .ok (.athrow, 1) := by decide +kernel
theorem dX3_feed_19 : decode cX3_feed 19 = .ok (.aload_n 0, 1) := by decide +kernel
theorem dX3_feed_20 : decode cX3_feed 20 = .ok (.getfield 10, 3) := by decide +kernel
theorem dX3_feed_23 : decode cX3_feed 23 = .ok (.invokevirtual 117, 3) := by decide +kernel
theorem dX3_feed_26 : decode cX3_feed 26 = .ok (.ifCond .ne 13, 3) := by decide +kernel
theorem dX3_feed_29 : decode cX3_feed 29 = .ok (.new 54, 3) := by decide +kernel
theorem dX3_feed_32 : decode cX3_feed 32 = .ok (.dup, 1) := by decide +kernel
theorem dX3_feed_33 : decode cX3_feed 33 = .ok (.ldc 121, 2) := by decide +kernel
theorem dX3_feed_35 : decode cX3_feed 35 = .ok (.invokespecial 58, 3) := by decide +kernel
theorem dX3_feed_38 : decode cX3_feed 38 = .ok (.athrow, 1) := by decide +kernel
theorem dX3_feed_39 : decode cX3_feed 39 = .ok (.aload_n 0, 1) := by decide +kernel
theorem dX3_feed_40 : decode cX3_feed 40 = .ok (.getfield 22, 3) := by decide +kernel
theorem dX3_feed_43 : decode cX3_feed 43 = .ok (.aload_n 0, 1) := by decide +kernel
theorem dX3_feed_44 : decode cX3_feed 44 = .ok (.getfield 10, 3) := by decide +kernel
theorem dX3_feed_47 : decode cX3_feed 47 = .ok (.invokevirtual 59, 3) := by decide +kernel
theorem dX3_feed_50 : decode cX3_feed 50 = .ok (.aload_n 0, 1) := by decide +kernel
theorem dX3_feed_51 : decode cX3_feed 51 = .ok (.getfield 10, 3) := by decide +kernel
theorem dX3_feed_54 : decode cX3_feed 54 = .ok (.iload_n 1, 1) := by decide +kernel
theorem dX3_feed_55 : decode cX3_feed 55 = .ok (.invokevirtual 123, 3) := by decide +kernel
theorem dX3_feed_58 : decode cX3_feed 58 = .ok (.ireturn, 1) := by decide +kernel
set_option maxRecDepth 20000 in
theorem ggX3_slip_X2_find : GoodIn wsX3_slip wsX2_find := goodIn_r _ [11, 12, 13, 14, 15, 10, 16, 17, 18, 101, 102, 103, 104] (by decide +kernel) (by decide +kernel)
set_option maxRecDepth 20000 in
theorem gX3_slip_X2_find : GoodIn wsX3_slip (wsV RX3 126 RX2 yX2_find wsX2_find) := goodIn_app (goodIn_of _ (by decide +kernel)) ggX3_slip_X2_find
set_option maxRecDepth 20000 in
theorem ggX3_slip_X2_get : GoodIn wsX3_slip wsX2_get := goodIn_r _ [16, 17, 18, 101, 102, 103, 104] (by decide +kernel) (by decide +kernel)
set_option maxRecDepth 20000 in
theorem gX3_slip_X2_get : GoodIn wsX3_slip (wsV RX3 136 RX2 yX2_get wsX2_get) := goodIn_app (goodIn_of _ (by decide +kernel)) ggX3_slip_X2_get
set_option maxRecDepth 20000 in
theorem ggX3_slip_X1_place : GoodIn wsX3_slip wsX1_place := goodIn_r _ [24, 25, 85, 86, 87, 88, 89, 90, 91, 92, 93, 94, 95, 96, 97, 98, 99, 100] (by decide +kernel) (by decide +kernel)
set_option maxRecDepth 20000 in
theorem gX3_slip_X1_place : GoodIn wsX3_slip (wsV RX3 63 RX1 yX1_place wsX1_place) := goodIn_app (goodIn_of _ (by decide +kernel)) ggX3_slip_X1_place
set_option maxRecDepth 20000 in
theorem ggX3_slip_X0_save : GoodIn wsX3_slip wsX0_save := goodIn_r _ [30, 31, 32, 33, 29, 34, 35, 36, 37, 38, 39, 40, 41, 42, 43, 44, 23, 45, 46, 47, 48, 49, 50, 51, 52, 53, 54, 25, 55, 56, 57, 58, 59, 60, 61, 62, 63, 64, 65, 66, 67, 68, 69, 10, 70, 18, 71, 12, 72, 73, 74, 75, 105, 106, 107, 85, 86, 87, 88, 89, 90, 91, 92, 93, 94, 95, 96, 97, 98, 99, 100, 101, 102, 103, 104] (by decide +kernel) (by decide +kernel)
set_option maxRecDepth 20000 in
theorem gX3_slip_X0_save : GoodIn wsX3_slip (wsV RX3 59 RX0 yX0_save wsX0_save) := goodIn_app (goodIn_of _ (by decide +kernel)) ggX3_slip_X0_save
set_option maxRecDepth 20000 in
theorem ggX3_slip_X2_put : GoodIn wsX3_slip wsX2_put := goodIn_r _ [79, 17, 18, 101, 102, 103, 104] (by decide +kernel) (by decide +kernel)
set_option maxRecDepth 20000 in
theorem gX3_slip_X2_put : GoodIn wsX3_slip (wsV RX3 142 RX2 yX2_put wsX2_put) := goodIn_app (goodIn_of _ (by decide +kernel)) ggX3_slip_X2_put
theorem dX3_slip_0 : decode cX3_slip 0 = .ok (.aload_n 0, 1) := by decide +kernel
theorem dX3_slip_1 : decode cX3_slip 1 = .ok (.getfield 10, 3) := by decide +kernel
theorem dX3_slip_4 : decode cX3_slip 4 = .ok (.getfield 41, 3) := by decide +kernel
theorem dX3_slip_7 : decode cX3_slip 7 = .ok (.iload_n 1, 1) := by decide +kernel
theorem dX3_slip_8 : decode cX3_slip 8 = .ok (.invokevirtual 126, 3) := by decide +kernel
theorem dX3_slip_11 : decode cX3_slip 11 = .ok (.istore_n 3, 1) := by decide +kernel
theorem dX3_slip_12 : decode cX3_slip 12 = .ok (.iload_n 3, 1) := by decide +kernel
theorem dX3_slip_13 : decode cX3_slip 13 = .ok (.iconst (-1), 1) := by decide +kernel
theorem dX3_slip_14 : decode cX3_slip 14 = .ok (.if_icmp .ne 13, 3) := by decide +kernel
theorem dX3_slip_17 : decode cX3_slip 17 = .ok (.new 129, 3) := by decide +kernel
theorem dX3_slip_20 : decode cX3_slip 20 = .ok (.dup, 1) := by decide +kernel
theorem dX3_slip_21 : decode cX3_slip 21 = .ok (.ldc 131, 2) := by decide +kernel
theorem dX3_slip_23 : decode cX3_slip 23 = .ok (.invokespecial 133, 3) := by decide +kernel
theorem dX3_slip_26 : decode cX3_slip 26 = .ok (.athrow, 1) := by decide +kernel
theorem dX3_slip_27 : decode cX3_slip 27 = .ok (.iload_n 2, 1) := by decide +kernel
theorem dX3_slip_28 : decode cX3_slip 28 = .ok (.bipush (-30), 2) := by decide +kernel
theorem dX3_slip_30 : decode cX3_slip 30 = .ok (.if_icmp .lt 9, 3) := by decide +kernel
theorem dX3_slip_33 : decode cX3_slip 33 = .ok (.iload_n 2, 1) := by decide +kernel
theorem dX3_slip_34 : decode cX3_slip 34 = .ok (.bipush 30, 2) := by decide +kernel
theorem dX3_slip_36 : decode cX3_slip 36 = .ok (.if_icmp .le 13, 3) := by decide +kernel
theorem dX3_slip_39 : decode cX3_slip 39 = .ok (.new 34, 3) := by decide +kernel
theorem dX3_slip_42 : decode cX3_slip 42 = .ok (.dup, 1) := by decide +kernel
theorem dX3_slip_43 : decode cX3_slip 43 = .ok (.ldc 134, 2) := by decide +kernel
theorem dX3_slip_45 : decode cX3_slip 45 = .ok (.invokespecial 38, 3) := by decide +kernel
theorem dX3_slip_48 : decode cX3_slip 48 = .ok (.athrow, 1) := by decide +kernel
theorem dX3_slip_49 : decode cX3_slip 49 = .ok (.aload_n 0, 1) := by decide +kernel
theorem dX3_slip_50 : decode cX3_slip 50 = .ok (.getfield 10, 3) := by decide +kernel
theorem dX3_slip_53 : decode cX3_slip 53 = .ok (.getfield 41, 3) := by decide +kernel
theorem dX3_slip_56 : decode cX3_slip 56 = .ok (.iload_n 3, 1) := by decide +kernel
theorem dX3_slip_57 : decode cX3_slip 57 = .ok (.iconst 1, 1) := by decide +kernel
theorem dX3_slip_58 : decode cX3_slip 58 = .ok (.invokevirtual 136, 3) := by decide +kernel
theorem dX3_slip_61 : decode cX3_slip 61 = .ok (.iload_n 2, 1) := by decide +kernel
theorem dX3_slip_62 : decode cX3_slip 62 = .ok (.iadd, 1) := by decide +kernel
theorem dX3_slip_63 : decode cX3_slip 63 = .ok (.istore 4, 2) := by decide +kernel
theorem dX3_slip_65 : decode cX3_slip 65 = .ok (.iload 4, 2) := by decide +kernel
theorem dX3_slip_67 : decode cX3_slip 67 = .ok (.ifCond .lt 16, 3) := by decide +kernel
theorem dX3_slip_70 : decode cX3_slip 70 = .ok (.iload 4, 2) := by decide +kernel
theorem dX3_slip_72 : decode cX3_slip 72 = .ok (.aload_n 0, 1) := by decide +kernel
theorem dX3_slip_73 : decode cX3_slip 73 = .ok (.getfield 10, 3) := by decide +kernel
theorem dX3_slip_76 : decode cX3_slip 76 = .ok (.iconst 4, 1) := by decide +kernel
theorem dX3_slip_77 : decode cX3_slip 77 = .ok (.invokevirtual 63, 3) := by decide +kernel
theorem dX3_slip_80 : decode cX3_slip 80 = .ok (.if_icmp .lt 13, 3) := by decide +kernel
theorem dX3_slip_83 : decode cX3_slip 83 = .ok (.new 34, 3) := by decide +kernel
theorem dX3_slip_86 : decode cX3_slip 86 = .ok (.dup, 1) := by decide +kernel
theorem dX3_slip_87 : decode cX3_slip 87 = .ok (.ldc 140, 2) := by decide +kernel
theorem dX3_slip_89 : decode cX3_slip 89 = .ok (.invokespecial 38, 3) := by decide +kernel
theorem dX3_slip_92 : decode cX3_slip 92 = .ok (.athrow, 1) := by decide +kernel
theorem dX3_slip_93 : decode cX3_slip 93 = .ok (.aload_n 0, 1) := by decide +kernel
theorem dX3_slip_94 : decode cX3_slip 94 = .ok (.getfield 22, 3) := by decide +kernel
theorem dX3_slip_97 : decode cX3_slip 97 = .ok (.aload_n 0, 1) := by decide +kernel
theorem dX3_slip_98 : decode cX3_slip 98 = .ok (.getfield 10, 3) := by decide +kernel
theorem dX3_slip_101 : decode cX3_slip 101 = .ok (.invokevirtual 59, 3) := by decide +kernel
theorem dX3_slip_104 : decode cX3_slip 104 = .ok (.aload_n 0, 1) := by decide +kernel
theorem dX3_slip_105 : decode cX3_slip 105 = .ok (.getfield 10, 3) := by decide +kernel
theorem dX3_slip_108 : decode cX3_slip 108 = .ok (.getfield 41, 3) := by decide +kernel
theorem dX3_slip_111 : decode cX3_slip 111 = .ok (.iload_n 3, 1) := by decide +kernel
theorem dX3_slip_112 : decode cX3_slip 112 = .ok (.iconst 1, 1) := by decide +kernel
theorem dX3_slip_113 : decode cX3_slip 113 = .ok (.iload 4, 2) := by decide +kernel
theorem dX3_slip_115 : decode cX3_slip 115 = .ok (.invokevirtual 142, 3) := by decide +kernel
theorem dX3_slip_118 : decode cX3_slip 118 = .ok (.iload 4, 2) := by decide +kernel
theorem dX3_slip_120 : decode cX3_slip 120 = .ok (.ireturn, 1) := by decide +kernel
set_option maxRecDepth 20000 in
theorem ggX3_take_X2_find : GoodIn wsX3_take wsX2_find := goodIn_r _ [9, 10, 11, 12, 13, 8, 14, 15, 16, 99, 100, 101, 102] (by decide +kernel) (by decide +kernel)
set_option maxRecDepth 20000 in
theorem gX3_take_X2_find : GoodIn wsX3_take (wsV RX3 126 RX2 yX2_find wsX2_find) := goodIn_app (goodIn_of _ (by decide +kernel)) ggX3_take_X2_find
set_option maxRecDepth 20000 in
theorem ggX3_take_X0_save : GoodIn wsX3_take wsX0_save := goodIn_r _ [21, 22, 23, 24, 20, 25, 26, 27, 28, 29, 30, 31, 32, 33, 34, 35, 36, 37, 38, 39, 40, 41, 42, 43, 44, 45, 46, 47, 48, 49, 50, 51, 52, 53, 54, 55, 56, 57, 58, 59, 60, 61, 62, 8, 63, 16, 64, 10, 65, 66, 67, 68, 103, 104, 105, 83, 84, 85, 86, 87, 88, 89, 90, 91, 92, 93, 94, 95, 96, 97, 98, 99, 100, 101, 102] (by decide +kernel) (by decide +kernel)
set_option maxRecDepth 20000 in
theorem gX3_take_X0_save : GoodIn wsX3_take (wsV RX3 59 RX0 yX0_save wsX0_save) := goodIn_app (goodIn_of _ (by decide +kernel)) ggX3_take_X0_save
set_option maxRecDepth 20000 in
theorem ggX3_take_X2_get : GoodIn wsX3_take wsX2_get := goodIn_r _ [14, 15, 16, 99, 100, 101, 102] (by decide +kernel) (by decide +kernel)
set_option maxRecDepth 20000 in
theorem gX3_take_X2_get : GoodIn wsX3_take (wsV RX3 136 RX2 yX2_get wsX2_get) := goodIn_app (goodIn_of _ (by decide +kernel)) ggX3_take_X2_get
set_option maxRecDepth 20000 in
theorem ggX3_take_X2_removeRow : GoodIn wsX3_take wsX2_removeRow := goodIn_r _ [73, 10, 15, 16, 99, 100, 101, 102] (by decide +kernel) (by decide +kernel)
set_option maxRecDepth 20000 in
theorem gX3_take_X2_removeRow : GoodIn wsX3_take (wsV RX3 146 RX2 yX2_removeRow wsX2_removeRow) := goodIn_app (goodIn_of _ (by decide +kernel)) ggX3_take_X2_removeRow
set_option maxRecDepth 20000 in
theorem ggX3_take_X1_count : GoodIn wsX3_take wsX1_count := goodIn_r _ [77, 48, 83, 84, 85, 86, 87, 88, 89, 90, 91, 92, 93, 94, 95, 96, 97, 98] (by decide +kernel) (by decide +kernel)
set_option maxRecDepth 20000 in
theorem gX3_take_X1_count : GoodIn wsX3_take (wsV RX3 150 RX1 yX1_count wsX1_count) := goodIn_app (goodIn_of _ (by decide +kernel)) ggX3_take_X1_count
theorem dX3_take_0 : decode cX3_take 0 = .ok (.aload_n 0, 1) := by decide +kernel
theorem dX3_take_1 : decode cX3_take 1 = .ok (.getfield 10, 3) := by decide +kernel
theorem dX3_take_4 : decode cX3_take 4 = .ok (.getfield 41, 3) := by decide +kernel
theorem dX3_take_7 : decode cX3_take 7 = .ok (.iload_n 1, 1) := by decide +kernel
theorem dX3_take_8 : decode cX3_take 8 = .ok (.invokevirtual 126, 3) := by decide +kernel
theorem dX3_take_11 : decode cX3_take 11 = .ok (.istore_n 2, 1) := by decide +kernel
theorem dX3_take_12 : decode cX3_take 12 = .ok (.iload_n 2, 1) := by decide +kernel
theorem dX3_take_13 : decode cX3_take 13 = .ok (.iconst (-1), 1) := by decide +kernel
theorem dX3_take_14 : decode cX3_take 14 = .ok (.if_icmp .ne 13, 3) := by decide +kernel
theorem dX3_take_17 : decode cX3_take 17 = .ok (.new 129, 3) := by decide +kernel
theorem dX3_take_20 : decode cX3_take 20 = .ok (.dup, 1) := by decide +kernel
theorem dX3_take_21 : decode cX3_take 21 = .ok (.ldc 131, 2) := by decide +kernel
theorem dX3_take_23 : decode cX3_take 23 = .ok (.invokespecial 133, 3) := by decide +kernel
theorem dX3_take_26 : decode cX3_take 26 = .ok (.athrow, 1) := by decide +kernel
theorem dX3_take_27 : decode cX3_take 27 = .ok (.aload_n 0, 1) := by decide +kernel
theorem dX3_take_28 : decode cX3_take 28 = .ok (.getfield 22, 3) := by decide +kernel
theorem dX3_take_31 : decode cX3_take 31 = .ok (.aload_n 0, 1) := by decide +kernel
theorem dX3_take_32 : decode cX3_take 32 = .ok (.getfield 10, 3) := by decide +kernel
theorem dX3_take_35 : decode cX3_take 35 = .ok (.invokevirtual 59, 3) := by decide +kernel
theorem dX3_take_38 : decode cX3_take 38 = .ok (.aload_n 0, 1) := by decide +kernel
theorem dX3_take_39 : decode cX3_take 39 = .ok (.getfield 10, 3) := by decide +kernel
theorem dX3_take_42 : decode cX3_take 42 = .ok (.getfield 41, 3) := by decide +kernel
theorem dX3_take_45 : decode cX3_take 45 = .ok (.iload_n 2, 1) := by decide +kernel
theorem dX3_take_46 : decode cX3_take 46 = .ok (.iconst 1, 1) := by decide +kernel
theorem dX3_take_47 : decode cX3_take 47 = .ok (.invokevirtual 136, 3) := by decide +kernel
theorem dX3_take_50 : decode cX3_take 50 = .ok (.istore_n 3, 1) := by decide +kernel
theorem dX3_take_51 : decode cX3_take 51 = .ok (.aload_n 0, 1) := by decide +kernel
theorem dX3_take_52 : decode cX3_take 52 = .ok (.getfield 10, 3) := by decide +kernel
theorem dX3_take_55 : decode cX3_take 55 = .ok (.getfield 41, 3) := by decide +kernel
theorem dX3_take_58 : decode cX3_take 58 = .ok (.iload_n 2, 1) := by decide +kernel
theorem dX3_take_59 : decode cX3_take 59 = .ok (.invokevirtual 146, 3) := by decide +kernel
theorem dX3_take_62 : decode cX3_take 62 = .ok (.aload_n 0, 1) := by decide +kernel
theorem dX3_take_63 : decode cX3_take 63 = .ok (.getfield 10, 3) := by decide +kernel
theorem dX3_take_66 : decode cX3_take 66 = .ok (.bipush 7, 2) := by decide +kernel
theorem dX3_take_68 : decode cX3_take 68 = .ok (.invokevirtual 150, 3) := by decide +kernel
theorem dX3_take_71 : decode cX3_take 71 = .ok (.iload_n 3, 1) := by decide +kernel
theorem dX3_take_72 : decode cX3_take 72 = .ok (.ireturn, 1) := by decide +kernel
set_option maxRecDepth 20000 in
theorem ggX3_run_X0_save : GoodIn wsX3_run wsX0_save := goodIn_r _ [9, 10, 11, 12, 8, 13, 14, 15, 16, 17, 18, 19, 20, 21, 22, 23, 24, 25, 26, 27, 28, 29, 30, 31, 32, 33, 34, 35, 36, 37, 38, 39, 40, 41, 42, 43, 44, 45, 46, 47, 48, 49, 50, 51, 52, 53, 54, 55, 56, 57, 58, 59, 219, 220, 221, 203, 204, 205, 206, 207, 208, 209, 210, 211, 212, 213, 214, 215, 216, 217, 218, 222, 223, 224, 225] (by decide +kernel) (by decide +kernel)
set_option maxRecDepth 20000 in
theorem gX3_run_X0_save : GoodIn wsX3_run (wsV RX3 59 RX0 yX0_save wsX0_save) := goodIn_app (goodIn_of _ (by decide +kernel)) ggX3_run_X0_save
set_option maxRecDepth 20000 in
theorem ggX3_run_X1_passTick : GoodIn wsX3_run wsX1_passTick := goodIn_r _ [63, 42, 43, 64, 65, 66, 24, 67, 39, 68, 69, 70, 51, 71, 55, 72, 73, 74, 75, 76, 53, 77, 78, 79, 80, 38, 81, 82, 83, 84, 85, 86, 87, 88, 89, 36, 90, 91, 92, 93, 94, 95, 96, 97, 98, 99, 100, 101, 102, 103, 104, 105, 40, 106, 107, 108, 109, 41, 110, 111, 112, 113, 44, 114, 115, 116, 117, 118, 119, 120, 121, 122, 26, 123, 124, 125, 126, 37, 127, 128, 129, 130, 131, 132, 133, 134, 135, 136, 137, 138, 139, 35, 140, 141, 142, 143, 45, 144, 145, 146, 147, 148, 149, 150, 151, 152, 153, 29, 154, 155, 156, 157, 158, 159, 160, 161, 162, 163, 164, 165, 166, 167, 168, 169, 170, 171, 172, 173, 174, 175, 47, 46, 176, 177, 178, 179, 180, 181, 182, 183, 184, 185, 186, 187, 188, 189, 190, 191, 192, 193, 194, 195, 196, 197, 203, 204, 205, 206, 207, 208, 209, 210, 211, 212, 213, 214, 215, 216, 217, 218, 222, 223, 224, 225] (by decide +kernel) (by decide +kernel)
set_option maxRecDepth 20000 in
theorem gX3_run_X1_passTick : GoodIn wsX3_run (wsV RX3 154 RX1 yX1_passTick wsX1_passTick) := goodIn_app (goodIn_of _ (by decide +kernel)) ggX3_run_X1_passTick
theorem dX3_run_0 : decode cX3_run 0 = .ok (.iload_n 1, 1) := by decide +kernel
theorem dX3_run_1 : decode cX3_run 1 = .ok (.ifCond .lt 10, 3) := by decide +kernel
theorem dX3_run_4 : decode cX3_run 4 = .ok (.iload_n 1, 1) := by decide +kernel
theorem dX3_run_5 : decode cX3_run 5 = .ok (.sipush 1000, 3) := by decide +kernel
theorem dX3_run_8 : decode cX3_run 8 = .ok (.if_icmp .le 13, 3) := by decide +kernel
theorem dX3_run_11 : decode cX3_run 11 = .ok (.new 34, 3) := by decide +kernel
theorem dX3_run_14 : decode cX3_run 14 = .ok (.dup, 1) := by decide +kernel
theorem dX3_run_15 : decode cX3_run 15 = .ok (.ldc 152, 2) := by decide +kernel
theorem dX3_run_17 : decode cX3_run 17 = .ok (.invokespecial 38, 3) := by decide +kernel
theorem dX3_run_20 : decode cX3_run 20 = .ok (.athrow, 1) := by decide +kernel
theorem dX3_run_21 : decode cX3_run 21 = .ok (.aload_n 0, 1) := by decide +kernel
theorem dX3_run_22 : decode cX3_run 22 = .ok (.getfield 22, 3) := by decide +kernel
theorem dX3_run_25 : decode cX3_run 25 = .ok (.aload_n 0, 1) := by decide +kernel
theorem dX3_run_26 : decode cX3_run 26 = .ok (.getfield 10, 3) := by decide +kernel
theorem dX3_run_29 : decode cX3_run 29 = .ok (.invokevirtual 59, 3) := by decide +kernel
theorem dX3_run_32 : decode cX3_run 32 = .ok (.iconst 0, 1) := by decide +kernel
theorem dX3_run_33 : decode cX3_run 33 = .ok (.istore_n 2, 1) := by decide +kernel
theorem dX3_run_34 : decode cX3_run 34 = .ok (.iload_n 2, 1) := by decide +kernel
theorem dX3_run_35 : decode cX3_run 35 = .ok (.iload_n 1, 1) := by decide +kernel
theorem dX3_run_36 : decode cX3_run 36 = .ok (.if_icmp .ge 16, 3) := by decide +kernel
theorem dX3_run_39 : decode cX3_run 39 = .ok (.aload_n 0, 1) := by decide +kernel
theorem dX3_run_40 : decode cX3_run 40 = .ok (.getfield 10, 3) := by decide +kernel
theorem dX3_run_43 : decode cX3_run 43 = .ok (.invokevirtual 154, 3) := by decide +kernel
theorem dX3_run_46 : decode cX3_run 46 = .ok (.iinc 2 1, 3) := by decide +kernel
theorem dX3_run_49 : decode cX3_run 49 = .ok (.goto (-15), 3) := by decide +kernel
theorem dX3_run_52 : decode cX3_run 52 = .ok (.aload_n 0, 1) := by decide +kernel
theorem dX3_run_53 : decode cX3_run 53 = .ok (.getfield 10, 3) := by decide +kernel
theorem dX3_run_56 : decode cX3_run 56 = .ok (.getfield 157, 3) := by decide +kernel
theorem dX3_run_59 : decode cX3_run 59 = .ok (.ireturn, 1) := by decide +kernel
set_option maxRecDepth 20000 in
theorem ggX3_status_X1_statusOf : GoodIn wsX3_status wsX1_statusOf := goodIn_r _ [8, 9, 10, 11, 12, 13, 14, 15, 16, 17, 18, 19, 20, 21, 22, 28, 29, 30, 31, 32, 33, 34, 35, 36, 37, 38, 39, 40, 41, 42, 43, 44, 45, 46, 47] (by decide +kernel) (by decide +kernel)
set_option maxRecDepth 20000 in
theorem gX3_status_X1_statusOf : GoodIn wsX3_status (wsV RX3 162 RX1 yX1_statusOf wsX1_statusOf) := goodIn_app (goodIn_of _ (by decide +kernel)) ggX3_status_X1_statusOf
theorem dX3_status_0 : decode cX3_status 0 = .ok (.iload_n 1, 1) := by decide +kernel
theorem dX3_status_1 : decode cX3_status 1 = .ok (.ifCond .lt 9, 3) := by decide +kernel
theorem dX3_status_4 : decode cX3_status 4 = .ok (.iload_n 1, 1) := by decide +kernel
theorem dX3_status_5 : decode cX3_status 5 = .ok (.bipush 7, 2) := by decide +kernel
theorem dX3_status_7 : decode cX3_status 7 = .ok (.if_icmp .le 13, 3) := by decide +kernel
theorem dX3_status_10 : decode cX3_status 10 = .ok (.new 34, 3) := by decide +kernel
theorem dX3_status_13 : decode cX3_status 13 = .ok (.dup, 1) := by decide +kernel
theorem dX3_status_14 : decode cX3_status 14 = .ok (.ldc 160, 2) := by decide +kernel
theorem dX3_status_16 : decode cX3_status 16 = .ok (.invokespecial 38, 3) := by decide +kernel
theorem dX3_status_19 : decode cX3_status 19 = .ok (.athrow, 1) := by decide +kernel
theorem dX3_status_20 : decode cX3_status 20 = .ok (.aload_n 0, 1) := by decide +kernel
theorem dX3_status_21 : decode cX3_status 21 = .ok (.getfield 10, 3) := by decide +kernel
theorem dX3_status_24 : decode cX3_status 24 = .ok (.iload_n 1, 1) := by decide +kernel
theorem dX3_status_25 : decode cX3_status 25 = .ok (.invokevirtual 162, 3) := by decide +kernel
theorem dX3_status_28 : decode cX3_status 28 = .ok (.ireturn, 1) := by decide +kernel
set_option maxRecDepth 20000 in
theorem ggX3_item_X2_find : GoodIn wsX3_item wsX2_find := goodIn_r _ [10, 11, 12, 13, 14, 9, 15, 16, 17, 40, 41, 42, 43] (by decide +kernel) (by decide +kernel)
set_option maxRecDepth 20000 in
theorem gX3_item_X2_find : GoodIn wsX3_item (wsV RX3 126 RX2 yX2_find wsX2_find) := goodIn_app (goodIn_of _ (by decide +kernel)) ggX3_item_X2_find
set_option maxRecDepth 20000 in
theorem ggX3_item_X2_get : GoodIn wsX3_item wsX2_get := goodIn_r _ [15, 16, 17, 40, 41, 42, 43] (by decide +kernel) (by decide +kernel)
set_option maxRecDepth 20000 in
theorem gX3_item_X2_get : GoodIn wsX3_item (wsV RX3 136 RX2 yX2_get wsX2_get) := goodIn_app (goodIn_of _ (by decide +kernel)) ggX3_item_X2_get
theorem dX3_item_0 : decode cX3_item 0 = .ok (.aload_n 0, 1) := by decide +kernel
theorem dX3_item_1 : decode cX3_item 1 = .ok (.getfield 10, 3) := by decide +kernel
theorem dX3_item_4 : decode cX3_item 4 = .ok (.getfield 41, 3) := by decide +kernel
theorem dX3_item_7 : decode cX3_item 7 = .ok (.iload_n 1, 1) := by decide +kernel
theorem dX3_item_8 : decode cX3_item 8 = .ok (.invokevirtual 126, 3) := by decide +kernel
theorem dX3_item_11 : decode cX3_item 11 = .ok (.istore_n 3, 1) := by decide +kernel
theorem dX3_item_12 : decode cX3_item 12 = .ok (.iload_n 3, 1) := by decide +kernel
theorem dX3_item_13 : decode cX3_item 13 = .ok (.iconst (-1), 1) := by decide +kernel
theorem dX3_item_14 : decode cX3_item 14 = .ok (.if_icmp .ne 13, 3) := by decide +kernel
theorem dX3_item_17 : decode cX3_item 17 = .ok (.new 129, 3) := by decide +kernel
theorem dX3_item_20 : decode cX3_item 20 = .ok (.dup, 1) := by decide +kernel
theorem dX3_item_21 : decode cX3_item 21 = .ok (.ldc 131, 2) := by decide +kernel
theorem dX3_item_23 : decode cX3_item 23 = .ok (.invokespecial 133, 3) := by decide +kernel
theorem dX3_item_26 : decode cX3_item 26 = .ok (.athrow, 1) := by decide +kernel
theorem dX3_item_27 : decode cX3_item 27 = .ok (.iload_n 2, 1) := by decide +kernel
theorem dX3_item_28 : decode cX3_item 28 = .ok (.ifCond .lt 8, 3) := by decide +kernel
theorem dX3_item_31 : decode cX3_item 31 = .ok (.iload_n 2, 1) := by decide +kernel
theorem dX3_item_32 : decode cX3_item 32 = .ok (.iconst 2, 1) := by decide +kernel
theorem dX3_item_33 : decode cX3_item 33 = .ok (.if_icmp .le 13, 3) := by decide +kernel
theorem dX3_item_36 : decode cX3_item 36 = .ok (.new 34, 3) := by decide +kernel
theorem dX3_item_39 : decode cX3_item 39 = .ok (.dup, 1) := by decide +kernel
theorem dX3_item_40 : decode cX3_item 40 = .ok (.ldc 165, 2) := by decide +kernel
theorem dX3_item_42 : decode cX3_item 42 = .ok (.invokespecial 38, 3) := by decide +kernel
theorem dX3_item_45 : decode cX3_item 45 = .ok (.athrow, 1) := by decide +kernel
theorem dX3_item_46 : decode cX3_item 46 = .ok (.aload_n 0, 1) := by decide +kernel
theorem dX3_item_47 : decode cX3_item 47 = .ok (.getfield 10, 3) := by decide +kernel
theorem dX3_item_50 : decode cX3_item 50 = .ok (.getfield 41, 3) := by decide +kernel
theorem dX3_item_53 : decode cX3_item 53 = .ok (.iload_n 3, 1) := by decide +kernel
theorem dX3_item_54 : decode cX3_item 54 = .ok (.iconst 1, 1) := by decide +kernel
theorem dX3_item_55 : decode cX3_item 55 = .ok (.iload_n 2, 1) := by decide +kernel
theorem dX3_item_56 : decode cX3_item 56 = .ok (.iadd, 1) := by decide +kernel
theorem dX3_item_57 : decode cX3_item 57 = .ok (.invokevirtual 136, 3) := by decide +kernel
theorem dX3_item_60 : decode cX3_item 60 = .ok (.ireturn, 1) := by decide +kernel
set_option maxRecDepth 20000 in
theorem ggX3_record_X2_find : GoodIn wsX3_record wsX2_find := goodIn_r _ [10, 11, 12, 13, 14, 9, 15, 16, 17, 40, 41, 42, 43] (by decide +kernel) (by decide +kernel)
set_option maxRecDepth 20000 in
theorem gX3_record_X2_find : GoodIn wsX3_record (wsV RX3 126 RX2 yX2_find wsX2_find) := goodIn_app (goodIn_of _ (by decide +kernel)) ggX3_record_X2_find
set_option maxRecDepth 20000 in
theorem ggX3_record_X2_get : GoodIn wsX3_record wsX2_get := goodIn_r _ [15, 16, 17, 40, 41, 42, 43] (by decide +kernel) (by decide +kernel)
set_option maxRecDepth 20000 in
theorem gX3_record_X2_get : GoodIn wsX3_record (wsV RX3 136 RX2 yX2_get wsX2_get) := goodIn_app (goodIn_of _ (by decide +kernel)) ggX3_record_X2_get
theorem dX3_record_0 : decode cX3_record 0 = .ok (.aload_n 0, 1) := by decide +kernel
theorem dX3_record_1 : decode cX3_record 1 = .ok (.getfield 10, 3) := by decide +kernel
theorem dX3_record_4 : decode cX3_record 4 = .ok (.getfield 51, 3) := by decide +kernel
theorem dX3_record_7 : decode cX3_record 7 = .ok (.iload_n 1, 1) := by decide +kernel
theorem dX3_record_8 : decode cX3_record 8 = .ok (.invokevirtual 126, 3) := by decide +kernel
theorem dX3_record_11 : decode cX3_record 11 = .ok (.istore_n 3, 1) := by decide +kernel
theorem dX3_record_12 : decode cX3_record 12 = .ok (.iload_n 3, 1) := by decide +kernel
theorem dX3_record_13 : decode cX3_record 13 = .ok (.iconst (-1), 1) := by decide +kernel
theorem dX3_record_14 : decode cX3_record 14 = .ok (.if_icmp .ne 13, 3) := by decide +kernel
theorem dX3_record_17 : decode cX3_record 17 = .ok (.new 129, 3) := by decide +kernel
theorem dX3_record_20 : decode cX3_record 20 = .ok (.dup, 1) := by decide +kernel
theorem dX3_record_21 : decode cX3_record 21 = .ok (.ldc 167, 2) := by decide +kernel
theorem dX3_record_23 : decode cX3_record 23 = .ok (.invokespecial 133, 3) := by decide +kernel
theorem dX3_record_26 : decode cX3_record 26 = .ok (.athrow, 1) := by decide +kernel
theorem dX3_record_27 : decode cX3_record 27 = .ok (.iload_n 2, 1) := by decide +kernel
theorem dX3_record_28 : decode cX3_record 28 = .ok (.ifCond .lt 8, 3) := by decide +kernel
theorem dX3_record_31 : decode cX3_record 31 = .ok (.iload_n 2, 1) := by decide +kernel
theorem dX3_record_32 : decode cX3_record 32 = .ok (.iconst 4, 1) := by decide +kernel
theorem dX3_record_33 : decode cX3_record 33 = .ok (.if_icmp .le 13, 3) := by decide +kernel
theorem dX3_record_36 : decode cX3_record 36 = .ok (.new 34, 3) := by decide +kernel
theorem dX3_record_39 : decode cX3_record 39 = .ok (.dup, 1) := by decide +kernel
theorem dX3_record_40 : decode cX3_record 40 = .ok (.ldc 165, 2) := by decide +kernel
theorem dX3_record_42 : decode cX3_record 42 = .ok (.invokespecial 38, 3) := by decide +kernel
theorem dX3_record_45 : decode cX3_record 45 = .ok (.athrow, 1) := by decide +kernel
theorem dX3_record_46 : decode cX3_record 46 = .ok (.aload_n 0, 1) := by decide +kernel
theorem dX3_record_47 : decode cX3_record 47 = .ok (.getfield 10, 3) := by decide +kernel
theorem dX3_record_50 : decode cX3_record 50 = .ok (.getfield 51, 3) := by decide +kernel
theorem dX3_record_53 : decode cX3_record 53 = .ok (.iload_n 3, 1) := by decide +kernel
theorem dX3_record_54 : decode cX3_record 54 = .ok (.iconst 1, 1) := by decide +kernel
theorem dX3_record_55 : decode cX3_record 55 = .ok (.iload_n 2, 1) := by decide +kernel
theorem dX3_record_56 : decode cX3_record 56 = .ok (.iadd, 1) := by decide +kernel
theorem dX3_record_57 : decode cX3_record 57 = .ok (.invokevirtual 136, 3) := by decide +kernel
theorem dX3_record_60 : decode cX3_record 60 = .ok (.ireturn, 1) := by decide +kernel
set_option maxRecDepth 20000 in
theorem ggX3_numberAt_X2_count : GoodIn wsX3_numberAt wsX2_count := goodIn_r _ [8, 9, 37, 38, 39, 40] (by decide +kernel) (by decide +kernel)
set_option maxRecDepth 20000 in
theorem gX3_numberAt_X2_count : GoodIn wsX3_numberAt (wsV RX3 45 RX2 yX2_count wsX2_count) := goodIn_app (goodIn_of _ (by decide +kernel)) ggX3_numberAt_X2_count
set_option maxRecDepth 20000 in
theorem ggX3_numberAt_X2_get : GoodIn wsX3_numberAt wsX2_get := goodIn_r _ [13, 14, 15, 37, 38, 39, 40] (by decide +kernel) (by decide +kernel)
set_option maxRecDepth 20000 in
theorem gX3_numberAt_X2_get : GoodIn wsX3_numberAt (wsV RX3 136 RX2 yX2_get wsX2_get) := goodIn_app (goodIn_of _ (by decide +kernel)) ggX3_numberAt_X2_get
theorem dX3_numberAt_0 : decode cX3_numberAt 0 = .ok (.iload_n 2, 1) := by decide +kernel
theorem dX3_numberAt_1 : decode cX3_numberAt 1 = .ok (.ifCond .eq 13, 3) := by decide +kernel
theorem dX3_numberAt_4 : decode cX3_numberAt 4 = .ok (.aload_n 0, 1) := by decide +kernel
theorem dX3_numberAt_5 : decode cX3_numberAt 5 = .ok (.getfield 10, 3) := by decide +kernel
theorem dX3_numberAt_8 : decode cX3_numberAt 8 = .ok (.getfield 51, 3) := by decide +kernel
theorem dX3_numberAt_11 : decode cX3_numberAt 11 = .ok (.goto 10, 3) := by decide +kernel
theorem dX3_numberAt_14 : decode cX3_numberAt 14 = .ok (.aload_n 0, 1) := by decide +kernel
theorem dX3_numberAt_15 : decode cX3_numberAt 15 = .ok (.getfield 10, 3) := by decide +kernel
theorem dX3_numberAt_18 : decode cX3_numberAt 18 = .ok (.getfield 41, 3) := by decide +kernel
theorem dX3_numberAt_21 : decode cX3_numberAt 21 = .ok (.astore_n 3, 1) := by decide +kernel
theorem dX3_numberAt_22 : decode cX3_numberAt 22 = .ok (.iload_n 1, 1) := by decide +kernel
theorem dX3_numberAt_23 : decode cX3_numberAt 23 = .ok (.ifCond .lt 11, 3) := by decide +kernel
theorem dX3_numberAt_26 : decode cX3_numberAt 26 = .ok (.iload_n 1, 1) := by decide +kernel
theorem dX3_numberAt_27 : decode cX3_numberAt 27 = .ok (.aload_n 3, 1) := by decide +kernel
theorem dX3_numberAt_28 : decode cX3_numberAt 28 = .ok (.invokevirtual 45, 3) := by decide +kernel
theorem dX3_numberAt_31 : decode cX3_numberAt 31 = .ok (.if_icmp .lt 13, 3) := by decide +kernel
theorem dX3_numberAt_34 : decode cX3_numberAt 34 = .ok (.new 169, 3) := by decide +kernel
theorem dX3_numberAt_37 : decode cX3_numberAt 37 = .ok (.dup, 1) := by decide +kernel
theorem dX3_numberAt_38 : decode cX3_numberAt 38 = .ok (.ldc 171, 2) := by decide +kernel
theorem dX3_numberAt_40 : decode cX3_numberAt 40 = .ok (.invokespecial 173, 3) := by decide +kernel
theorem dX3_numberAt_43 : decode cX3_numberAt 43 = .ok (.athrow, 1) := by decide +kernel
theorem dX3_numberAt_44 : decode cX3_numberAt 44 = .ok (.aload_n 3, 1) := by decide +kernel
theorem dX3_numberAt_45 : decode cX3_numberAt 45 = .ok (.iload_n 1, 1) := by decide +kernel
theorem dX3_numberAt_46 : decode cX3_numberAt 46 = .ok (.iconst 0, 1) := by decide +kernel
theorem dX3_numberAt_47 : decode cX3_numberAt 47 = .ok (.invokevirtual 136, 3) := by decide +kernel
theorem dX3_numberAt_50 : decode cX3_numberAt 50 = .ok (.ireturn, 1) := by decide +kernel
set_option maxRecDepth 20000 in
theorem ggX3_counter_X1_counted : GoodIn wsX3_counter wsX1_counted := goodIn_r _ [8, 9, 15, 16, 17, 18, 19, 20, 21, 22, 23, 24, 25, 26, 27, 28, 29, 30] (by decide +kernel) (by decide +kernel)
set_option maxRecDepth 20000 in
theorem gX3_counter_X1_counted : GoodIn wsX3_counter (wsV RX3 176 RX1 yX1_counted wsX1_counted) := goodIn_app (goodIn_of _ (by decide +kernel)) ggX3_counter_X1_counted
theorem dX3_counter_0 : decode cX3_counter 0 = .ok (.iload_n 1, 1) := by decide +kernel
theorem dX3_counter_1 : decode cX3_counter 1 = .ok (.ifCond .lt 9, 3) := by decide +kernel
theorem dX3_counter_4 : decode cX3_counter 4 = .ok (.iload_n 1, 1) := by decide +kernel
theorem dX3_counter_5 : decode cX3_counter 5 = .ok (.bipush 17, 2) := by decide +kernel
theorem dX3_counter_7 : decode cX3_counter 7 = .ok (.if_icmp .le 13, 3) := by decide +kernel
theorem dX3_counter_10 : decode cX3_counter 10 = .ok (.new 34, 3) := by decide +kernel
theorem dX3_counter_13 : decode cX3_counter 13 = .ok (.dup, 1) := by decide +kernel
theorem dX3_counter_14 : decode cX3_counter 14 = .ok (.ldc 174, 2) := by decide +kernel
theorem dX3_counter_16 : decode cX3_counter 16 = .ok (.invokespecial 38, 3) := by decide +kernel
theorem dX3_counter_19 : decode cX3_counter 19 = .ok (.athrow, 1) := by decide +kernel
theorem dX3_counter_20 : decode cX3_counter 20 = .ok (.aload_n 0, 1) := by decide +kernel
theorem dX3_counter_21 : decode cX3_counter 21 = .ok (.getfield 10, 3) := by decide +kernel
theorem dX3_counter_24 : decode cX3_counter 24 = .ok (.iload_n 1, 1) := by decide +kernel
theorem dX3_counter_25 : decode cX3_counter 25 = .ok (.invokevirtual 176, 3) := by decide +kernel
theorem dX3_counter_28 : decode cX3_counter 28 = .ok (.ireturn, 1) := by decide +kernel
set_option maxRecDepth 20000 in
theorem ggX3_reconcile_X1_counted : GoodIn wsX3_reconcile wsX1_counted := goodIn_r _ [6, 7, 24, 25, 26, 27, 28, 29, 30, 31, 32, 33, 34, 35, 36, 37, 38, 39] (by decide +kernel) (by decide +kernel)
set_option maxRecDepth 20000 in
theorem gX3_reconcile_X1_counted : GoodIn wsX3_reconcile (wsV RX3 176 RX1 yX1_counted wsX1_counted) := goodIn_app (goodIn_of _ (by decide +kernel)) ggX3_reconcile_X1_counted
set_option maxRecDepth 20000 in
theorem ggX3_reconcile_X2_count : GoodIn wsX3_reconcile wsX2_count := goodIn_r _ [12, 13, 40, 41, 42, 43] (by decide +kernel) (by decide +kernel)
set_option maxRecDepth 20000 in
theorem gX3_reconcile_X2_count : GoodIn wsX3_reconcile (wsV RX3 45 RX2 yX2_count wsX2_count) := goodIn_app (goodIn_of _ (by decide +kernel)) ggX3_reconcile_X2_count
set_option maxRecDepth 20000 in
theorem ggX3_reconcile_X3_recordsThatLeft : GoodIn wsX3_reconcile wsX3_recordsThatLeft := goodIn_r _ [18, 1, 2, 3, 4, 5, 6, 7, 19, 20, 21, 22, 23, 24, 25, 26, 27, 28, 29, 30, 31, 32, 33, 34, 35, 36, 37, 38, 39] (by decide +kernel) (by decide +kernel)
set_option maxRecDepth 20000 in
theorem gX3_reconcile_X3_recordsThatLeft : GoodIn wsX3_reconcile (wsV RX3 182 RX3 yX3_recordsThatLeft wsX3_recordsThatLeft) := goodIn_app (goodIn_of _ (by decide +kernel)) ggX3_reconcile_X3_recordsThatLeft
theorem dX3_reconcile_0 : decode cX3_reconcile 0 = .ok (.iload_n 1, 1) := by decide +kernel
theorem dX3_reconcile_1 : decode cX3_reconcile 1 = .ok (.ifCond .eq 53, 3) := by decide +kernel
theorem dX3_reconcile_4 : decode cX3_reconcile 4 = .ok (.aload_n 0, 1) := by decide +kernel
theorem dX3_reconcile_5 : decode cX3_reconcile 5 = .ok (.getfield 10, 3) := by decide +kernel
theorem dX3_reconcile_8 : decode cX3_reconcile 8 = .ok (.bipush 8, 2) := by decide +kernel
theorem dX3_reconcile_10 : decode cX3_reconcile 10 = .ok (.invokevirtual 176, 3) := by decide +kernel
theorem dX3_reconcile_13 : decode cX3_reconcile 13 = .ok (.aload_n 0, 1) := by decide +kernel
theorem dX3_reconcile_14 : decode cX3_reconcile 14 = .ok (.getfield 10, 3) := by decide +kernel
theorem dX3_reconcile_17 : decode cX3_reconcile 17 = .ok (.getfield 179, 3) := by decide +kernel
theorem dX3_reconcile_20 : decode cX3_reconcile 20 = .ok (.iadd, 1) := by decide +kernel
theorem dX3_reconcile_21 : decode cX3_reconcile 21 = .ok (.aload_n 0, 1) := by decide +kernel
theorem dX3_reconcile_22 : decode cX3_reconcile 22 = .ok (.getfield 10, 3) := by decide +kernel
theorem dX3_reconcile_25 : decode cX3_reconcile 25 = .ok (.bipush 7, 2) := by decide +kernel
theorem dX3_reconcile_27 : decode cX3_reconcile 27 = .ok (.invokevirtual 176, 3) := by decide +kernel
theorem dX3_reconcile_30 : decode cX3_reconcile 30 = .ok (.iadd, 1) := by decide +kernel
theorem dX3_reconcile_31 : decode cX3_reconcile 31 = .ok (.istore_n 2, 1) := by decide +kernel
theorem dX3_reconcile_32 : decode cX3_reconcile 32 = .ok (.aload_n 0, 1) := by decide +kernel
theorem dX3_reconcile_33 : decode cX3_reconcile 33 = .ok (.getfield 10, 3) := by decide +kernel
theorem dX3_reconcile_36 : decode cX3_reconcile 36 = .ok (.iconst 0, 1) := by decide +kernel
theorem dX3_reconcile_37 : decode cX3_reconcile 37 = .ok (.invokevirtual 176, 3) := by decide +kernel
theorem dX3_reconcile_40 : decode cX3_reconcile 40 = .ok (.iload_n 2, 1) := by decide +kernel
theorem dX3_reconcile_41 : decode cX3_reconcile 41 = .ok (.isub, 1) := by decide +kernel
theorem dX3_reconcile_42 : decode cX3_reconcile 42 = .ok (.aload_n 0, 1) := by decide +kernel
theorem dX3_reconcile_43 : decode cX3_reconcile 43 = .ok (.getfield 10, 3) := by decide +kernel
theorem dX3_reconcile_46 : decode cX3_reconcile 46 = .ok (.getfield 41, 3) := by decide +kernel
theorem dX3_reconcile_49 : decode cX3_reconcile 49 = .ok (.invokevirtual 45, 3) := by decide +kernel
theorem dX3_reconcile_52 : decode cX3_reconcile 52 = .ok (.isub, 1) := by decide +kernel
theorem dX3_reconcile_53 : decode cX3_reconcile 53 = .ok (.ireturn, 1) := by decide +kernel
theorem dX3_reconcile_54 : decode cX3_reconcile 54 = .ok (.aload_n 0, 1) := by decide +kernel
theorem dX3_reconcile_55 : decode cX3_reconcile 55 = .ok (.getfield 10, 3) := by decide +kernel
theorem dX3_reconcile_58 : decode cX3_reconcile 58 = .ok (.iconst 0, 1) := by decide +kernel
theorem dX3_reconcile_59 : decode cX3_reconcile 59 = .ok (.invokevirtual 176, 3) := by decide +kernel
theorem dX3_reconcile_62 : decode cX3_reconcile 62 = .ok (.aload_n 0, 1) := by decide +kernel
theorem dX3_reconcile_63 : decode cX3_reconcile 63 = .ok (.invokevirtual 182, 3) := by decide +kernel
theorem dX3_reconcile_66 : decode cX3_reconcile 66 = .ok (.isub, 1) := by decide +kernel
theorem dX3_reconcile_67 : decode cX3_reconcile 67 = .ok (.aload_n 0, 1) := by decide +kernel
theorem dX3_reconcile_68 : decode cX3_reconcile 68 = .ok (.getfield 10, 3) := by decide +kernel
theorem dX3_reconcile_71 : decode cX3_reconcile 71 = .ok (.getfield 51, 3) := by decide +kernel
theorem dX3_reconcile_74 : decode cX3_reconcile 74 = .ok (.invokevirtual 45, 3) := by decide +kernel
theorem dX3_reconcile_77 : decode cX3_reconcile 77 = .ok (.isub, 1) := by decide +kernel
theorem dX3_reconcile_78 : decode cX3_reconcile 78 = .ok (.ireturn, 1) := by decide +kernel
set_option maxRecDepth 20000 in
theorem ggX3_goodShare_X3_recordsThatLeft : GoodIn wsX3_goodShare wsX3_recordsThatLeft := goodIn_r _ [6, 1, 7, 8, 9, 10, 11, 12, 13, 14, 15, 16, 17, 18, 19, 20, 21, 22, 23, 24, 25, 26, 27, 28, 29, 30, 31, 32, 33] (by decide +kernel) (by decide +kernel)
set_option maxRecDepth 20000 in
theorem gX3_goodShare_X3_recordsThatLeft : GoodIn wsX3_goodShare (wsV RX3 182 RX3 yX3_recordsThatLeft wsX3_recordsThatLeft) := goodIn_app (goodIn_of _ (by decide +kernel)) ggX3_goodShare_X3_recordsThatLeft
set_option maxRecDepth 20000 in
theorem ggX3_goodShare_X1_counted : GoodIn wsX3_goodShare wsX1_counted := goodIn_r _ [11, 12, 18, 19, 20, 21, 22, 23, 24, 25, 26, 27, 28, 29, 30, 31, 32, 33] (by decide +kernel) (by decide +kernel)
set_option maxRecDepth 20000 in
theorem gX3_goodShare_X1_counted : GoodIn wsX3_goodShare (wsV RX3 176 RX1 yX1_counted wsX1_counted) := goodIn_app (goodIn_of _ (by decide +kernel)) ggX3_goodShare_X1_counted
theorem dX3_goodShare_0 : decode cX3_goodShare 0 = .ok (.aload_n 0, 1) := by decide +kernel
theorem dX3_goodShare_1 : decode cX3_goodShare 1 = .ok (.invokevirtual 182, 3) := by decide +kernel
theorem dX3_goodShare_4 : decode cX3_goodShare 4 = .ok (.istore_n 1, 1) := by decide +kernel
theorem dX3_goodShare_5 : decode cX3_goodShare 5 = .ok (.iload_n 1, 1) := by decide +kernel
theorem dX3_goodShare_6 : decode cX3_goodShare 6 = .ok (.ifCond .ne 7, 3) := by decide +kernel
theorem dX3_goodShare_9 : decode cX3_goodShare 9 = .ok (.dconst 0, 1) := by decide +kernel
theorem dX3_goodShare_10 : decode cX3_goodShare 10 = .ok (.goto 15, 3) := by decide +kernel
theorem dX3_goodShare_13 : decode cX3_goodShare 13 = .ok (.aload_n 0, 1) := by decide +kernel
theorem dX3_goodShare_14 : decode cX3_goodShare 14 = .ok (.getfield 10, 3) := by decide +kernel
theorem dX3_goodShare_17 : decode cX3_goodShare 17 = .ok (.iconst 1, 1) := by decide +kernel
theorem dX3_goodShare_18 : decode cX3_goodShare 18 = .ok (.invokevirtual 176, 3) := by decide +kernel
theorem dX3_goodShare_21 : decode cX3_goodShare 21 = .ok (.i2d, 1) := by decide +kernel
theorem dX3_goodShare_22 : decode cX3_goodShare 22 = .ok (.iload_n 1, 1) := by decide +kernel
theorem dX3_goodShare_23 : decode cX3_goodShare 23 = .ok (.i2d, 1) := by decide +kernel
theorem dX3_goodShare_24 : decode cX3_goodShare 24 = .ok (.ddiv, 1) := by decide +kernel
theorem dX3_goodShare_25 : decode cX3_goodShare 25 = .ok (.dreturn, 1) := by decide +kernel
set_option maxRecDepth 20000 in
theorem ggX3_recordsThatLeft_X1_counted : GoodIn wsX3_recordsThatLeft wsX1_counted := goodIn_r _ [6, 7, 13, 14, 15, 16, 17, 18, 19, 20, 21, 22, 23, 24, 25, 26, 27, 28] (by decide +kernel) (by decide +kernel)
set_option maxRecDepth 20000 in
theorem gX3_recordsThatLeft_X1_counted : GoodIn wsX3_recordsThatLeft (wsV RX3 176 RX1 yX1_counted wsX1_counted) := goodIn_app (goodIn_of _ (by decide +kernel)) ggX3_recordsThatLeft_X1_counted
theorem dX3_recordsThatLeft_0 : decode cX3_recordsThatLeft 0 = .ok (.aload_n 0, 1) := by decide +kernel
theorem dX3_recordsThatLeft_1 : decode cX3_recordsThatLeft 1 = .ok (.getfield 10, 3) := by decide +kernel
theorem dX3_recordsThatLeft_4 : decode cX3_recordsThatLeft 4 = .ok (.iconst 1, 1) := by decide +kernel
theorem dX3_recordsThatLeft_5 : decode cX3_recordsThatLeft 5 = .ok (.invokevirtual 176, 3) := by decide +kernel
theorem dX3_recordsThatLeft_8 : decode cX3_recordsThatLeft 8 = .ok (.aload_n 0, 1) := by decide +kernel
theorem dX3_recordsThatLeft_9 : decode cX3_recordsThatLeft 9 = .ok (.getfield 10, 3) := by decide +kernel
theorem dX3_recordsThatLeft_12 : decode cX3_recordsThatLeft 12 = .ok (.iconst 2, 1) := by decide +kernel
theorem dX3_recordsThatLeft_13 : decode cX3_recordsThatLeft 13 = .ok (.invokevirtual 176, 3) := by decide +kernel
theorem dX3_recordsThatLeft_16 : decode cX3_recordsThatLeft 16 = .ok (.iadd, 1) := by decide +kernel
theorem dX3_recordsThatLeft_17 : decode cX3_recordsThatLeft 17 = .ok (.aload_n 0, 1) := by decide +kernel
theorem dX3_recordsThatLeft_18 : decode cX3_recordsThatLeft 18 = .ok (.getfield 10, 3) := by decide +kernel
theorem dX3_recordsThatLeft_21 : decode cX3_recordsThatLeft 21 = .ok (.iconst 3, 1) := by decide +kernel
theorem dX3_recordsThatLeft_22 : decode cX3_recordsThatLeft 22 = .ok (.invokevirtual 176, 3) := by decide +kernel
theorem dX3_recordsThatLeft_25 : decode cX3_recordsThatLeft 25 = .ok (.iadd, 1) := by decide +kernel
theorem dX3_recordsThatLeft_26 : decode cX3_recordsThatLeft 26 = .ok (.ireturn, 1) := by decide +kernel
set_option maxRecDepth 20000 in
theorem ggX3_spare_X3_least : GoodIn wsX3_spare wsX3_least := goodIn_r _ [6, 7] (by decide +kernel) (by decide +kernel)
set_option maxRecDepth 20000 in
theorem gX3_spare_X3_least : GoodIn wsX3_spare (va_wsS RX3 73 yX3_least wsX3_least) := goodIn_app (goodIn_of _ (by decide +kernel)) ggX3_spare_X3_least
set_option maxRecDepth 20000 in
theorem ggX3_spare_X3_most : GoodIn wsX3_spare wsX3_most := goodIn_r _ [10, 11] (by decide +kernel) (by decide +kernel)
set_option maxRecDepth 20000 in
theorem gX3_spare_X3_most : GoodIn wsX3_spare (va_wsS RX3 76 yX3_most wsX3_most) := goodIn_app (goodIn_of _ (by decide +kernel)) ggX3_spare_X3_most
set_option maxRecDepth 20000 in
theorem ggX3_spare_X3_sparePulses : GoodIn wsX3_spare wsX3_sparePulses := goodIn_r _ [15, 16, 17, 18, 19, 20, 21, 22, 23, 24, 25, 26, 27, 28, 29, 30, 31, 32, 33, 34, 35, 36, 37, 38, 39, 40, 41, 42, 43, 44, 45, 46, 47, 48] (by decide +kernel) (by decide +kernel)
set_option maxRecDepth 20000 in
theorem gX3_spare_X3_sparePulses : GoodIn wsX3_spare (wsV RX3 187 RX3 yX3_sparePulses wsX3_sparePulses) := goodIn_app (goodIn_of _ (by decide +kernel)) ggX3_spare_X3_sparePulses
theorem dX3_spare_0 : decode cX3_spare 0 = .ok (.iload_n 1, 1) := by decide +kernel
theorem dX3_spare_1 : decode cX3_spare 1 = .ok (.iconst 0, 1) := by decide +kernel
theorem dX3_spare_2 : decode cX3_spare 2 = .ok (.invokestatic 73, 3) := by decide +kernel
theorem dX3_spare_5 : decode cX3_spare 5 = .ok (.if_icmp .lt 11, 3) := by decide +kernel
theorem dX3_spare_8 : decode cX3_spare 8 = .ok (.iload_n 1, 1) := by decide +kernel
theorem dX3_spare_9 : decode cX3_spare 9 = .ok (.iconst 0, 1) := by decide +kernel
theorem dX3_spare_10 : decode cX3_spare 10 = .ok (.invokestatic 76, 3) := by decide +kernel
theorem dX3_spare_13 : decode cX3_spare 13 = .ok (.if_icmp .le 13, 3) := by decide +kernel
theorem dX3_spare_16 : decode cX3_spare 16 = .ok (.new 34, 3) := by decide +kernel
theorem dX3_spare_19 : decode cX3_spare 19 = .ok (.dup, 1) := by decide +kernel
theorem dX3_spare_20 : decode cX3_spare 20 = .ok (.ldc 185, 2) := by decide +kernel
theorem dX3_spare_22 : decode cX3_spare 22 = .ok (.invokespecial 38, 3) := by decide +kernel
theorem dX3_spare_25 : decode cX3_spare 25 = .ok (.athrow, 1) := by decide +kernel
theorem dX3_spare_26 : decode cX3_spare 26 = .ok (.aload_n 0, 1) := by decide +kernel
theorem dX3_spare_27 : decode cX3_spare 27 = .ok (.iload_n 1, 1) := by decide +kernel
theorem dX3_spare_28 : decode cX3_spare 28 = .ok (.invokevirtual 187, 3) := by decide +kernel
theorem dX3_spare_31 : decode cX3_spare 31 = .ok (.ireturn, 1) := by decide +kernel
set_option maxRecDepth 20000 in
theorem ggX3_fastest_X3_most : GoodIn wsX3_fastest wsX3_most := goodIn_r _ [4, 5] (by decide +kernel) (by decide +kernel)
set_option maxRecDepth 20000 in
theorem gX3_fastest_X3_most : GoodIn wsX3_fastest (va_wsS RX3 76 yX3_most wsX3_most) := goodIn_app (goodIn_of _ (by decide +kernel)) ggX3_fastest_X3_most
set_option maxRecDepth 20000 in
theorem ggX3_fastest_X3_least : GoodIn wsX3_fastest wsX3_least := goodIn_r _ [8, 9] (by decide +kernel) (by decide +kernel)
set_option maxRecDepth 20000 in
theorem gX3_fastest_X3_least : GoodIn wsX3_fastest (va_wsS RX3 73 yX3_least wsX3_least) := goodIn_app (goodIn_of _ (by decide +kernel)) ggX3_fastest_X3_least
set_option maxRecDepth 20000 in
theorem ggX3_fastest_X3_sparePulses : GoodIn wsX3_fastest wsX3_sparePulses := goodIn_r _ [13, 14, 15, 16, 17, 18, 19, 20, 21, 22, 23, 24, 25, 26, 27, 28, 29, 30, 31, 32, 33, 34, 35, 36, 37, 38, 39, 40, 41, 42, 43, 44, 45, 46] (by decide +kernel) (by decide +kernel)
set_option maxRecDepth 20000 in
theorem gX3_fastest_X3_sparePulses : GoodIn wsX3_fastest (wsV RX3 187 RX3 yX3_sparePulses wsX3_sparePulses) := goodIn_app (goodIn_of _ (by decide +kernel)) ggX3_fastest_X3_sparePulses
theorem dX3_fastest_0 : decode cX3_fastest 0 = .ok (.iconst 0, 1) := by decide +kernel
theorem dX3_fastest_1 : decode cX3_fastest 1 = .ok (.invokestatic 76, 3) := by decide +kernel
theorem dX3_fastest_4 : decode cX3_fastest 4 = .ok (.istore_n 1, 1) := by decide +kernel
theorem dX3_fastest_5 : decode cX3_fastest 5 = .ok (.iload_n 1, 1) := by decide +kernel
theorem dX3_fastest_6 : decode cX3_fastest 6 = .ok (.iconst 0, 1) := by decide +kernel
theorem dX3_fastest_7 : decode cX3_fastest 7 = .ok (.invokestatic 73, 3) := by decide +kernel
theorem dX3_fastest_10 : decode cX3_fastest 10 = .ok (.if_icmp .lt 19, 3) := by decide +kernel
theorem dX3_fastest_13 : decode cX3_fastest 13 = .ok (.aload_n 0, 1) := by decide +kernel
theorem dX3_fastest_14 : decode cX3_fastest 14 = .ok (.iload_n 1, 1) := by decide +kernel
theorem dX3_fastest_15 : decode cX3_fastest 15 = .ok (.invokevirtual 187, 3) := by decide +kernel
theorem dX3_fastest_18 : decode cX3_fastest 18 = .ok (.ifCond .le 5, 3) := by decide +kernel
theorem dX3_fastest_21 : decode cX3_fastest 21 = .ok (.iload_n 1, 1) := by decide +kernel
theorem dX3_fastest_22 : decode cX3_fastest 22 = .ok (.ireturn, 1) := by decide +kernel
theorem dX3_fastest_23 : decode cX3_fastest 23 = .ok (.iinc 1 (-1), 3) := by decide +kernel
theorem dX3_fastest_26 : decode cX3_fastest 26 = .ok (.goto (-21), 3) := by decide +kernel
theorem dX3_fastest_29 : decode cX3_fastest 29 = .ok (.iconst (-1), 1) := by decide +kernel
theorem dX3_fastest_30 : decode cX3_fastest 30 = .ok (.ireturn, 1) := by decide +kernel
set_option maxRecDepth 20000 in
theorem ggX3_sparePulses_X1_setting : GoodIn wsX3_sparePulses wsX1_setting := goodIn_r _ [6, 7, 18, 19, 20, 21, 22, 23, 24, 25, 26, 27, 28, 29, 30, 31, 32, 33] (by decide +kernel) (by decide +kernel)
set_option maxRecDepth 20000 in
theorem gX3_sparePulses_X1_setting : GoodIn wsX3_sparePulses (wsV RX3 81 RX1 yX1_setting wsX1_setting) := goodIn_app (goodIn_of _ (by decide +kernel)) ggX3_sparePulses_X1_setting
set_option maxRecDepth 20000 in
theorem ggX3_sparePulses_X1_place : GoodIn wsX3_sparePulses wsX1_place := goodIn_r _ [11, 12, 18, 19, 20, 21, 22, 23, 24, 25, 26, 27, 28, 29, 30, 31, 32, 33] (by decide +kernel) (by decide +kernel)
set_option maxRecDepth 20000 in
theorem gX3_sparePulses_X1_place : GoodIn wsX3_sparePulses (wsV RX3 63 RX1 yX1_place wsX1_place) := goodIn_app (goodIn_of _ (by decide +kernel)) ggX3_sparePulses_X1_place
theorem dX3_sparePulses_0 : decode cX3_sparePulses 0 = .ok (.aload_n 0, 1) := by decide +kernel
theorem dX3_sparePulses_1 : decode cX3_sparePulses 1 = .ok (.getfield 10, 3) := by decide +kernel
theorem dX3_sparePulses_4 : decode cX3_sparePulses 4 = .ok (.iconst 1, 1) := by decide +kernel
theorem dX3_sparePulses_5 : decode cX3_sparePulses 5 = .ok (.invokevirtual 81, 3) := by decide +kernel
theorem dX3_sparePulses_8 : decode cX3_sparePulses 8 = .ok (.iload_n 1, 1) := by decide +kernel
theorem dX3_sparePulses_9 : decode cX3_sparePulses 9 = .ok (.imul, 1) := by decide +kernel
theorem dX3_sparePulses_10 : decode cX3_sparePulses 10 = .ok (.iconst 1, 1) := by decide +kernel
theorem dX3_sparePulses_11 : decode cX3_sparePulses 11 = .ok (.isub, 1) := by decide +kernel
theorem dX3_sparePulses_12 : decode cX3_sparePulses 12 = .ok (.istore_n 2, 1) := by decide +kernel
theorem dX3_sparePulses_13 : decode cX3_sparePulses 13 = .ok (.aload_n 0, 1) := by decide +kernel
theorem dX3_sparePulses_14 : decode cX3_sparePulses 14 = .ok (.getfield 10, 3) := by decide +kernel
theorem dX3_sparePulses_17 : decode cX3_sparePulses 17 = .ok (.iconst 3, 1) := by decide +kernel
theorem dX3_sparePulses_18 : decode cX3_sparePulses 18 = .ok (.invokevirtual 63, 3) := by decide +kernel
theorem dX3_sparePulses_21 : decode cX3_sparePulses 21 = .ok (.aload_n 0, 1) := by decide +kernel
theorem dX3_sparePulses_22 : decode cX3_sparePulses 22 = .ok (.getfield 10, 3) := by decide +kernel
theorem dX3_sparePulses_25 : decode cX3_sparePulses 25 = .ok (.iconst 1, 1) := by decide +kernel
theorem dX3_sparePulses_26 : decode cX3_sparePulses 26 = .ok (.invokevirtual 63, 3) := by decide +kernel
theorem dX3_sparePulses_29 : decode cX3_sparePulses 29 = .ok (.isub, 1) := by decide +kernel
theorem dX3_sparePulses_30 : decode cX3_sparePulses 30 = .ok (.iload_n 2, 1) := by decide +kernel
theorem dX3_sparePulses_31 : decode cX3_sparePulses 31 = .ok (.isub, 1) := by decide +kernel
theorem dX3_sparePulses_32 : decode cX3_sparePulses 32 = .ok (.ireturn, 1) := by decide +kernel
set_option maxRecDepth 20000 in
theorem ggX3_fate_X2_find : GoodIn wsX3_fate wsX2_find := goodIn_r _ [9, 10, 11, 12, 13, 8, 14, 15, 16, 204, 205, 206, 207] (by decide +kernel) (by decide +kernel)
set_option maxRecDepth 20000 in
theorem gX3_fate_X2_find : GoodIn wsX3_fate (wsV RX3 126 RX2 yX2_find wsX2_find) := goodIn_app (goodIn_of _ (by decide +kernel)) ggX3_fate_X2_find
set_option maxRecDepth 20000 in
theorem ggX3_fate_X1_copyFrom : GoodIn wsX3_fate wsX1_copyFrom := goodIn_r _ [21, 22, 23, 24, 25, 26, 27, 28, 29, 30, 31, 32, 33, 34, 35, 36, 37, 38, 39, 40, 41, 42, 43, 44, 45, 46, 8, 47, 16, 48, 10, 188, 189, 190, 191, 192, 193, 194, 195, 196, 197, 198, 199, 200, 201, 202, 203, 204, 205, 206, 207] (by decide +kernel) (by decide +kernel)
set_option maxRecDepth 20000 in
theorem gX3_fate_X1_copyFrom : GoodIn wsX3_fate (wsV RX3 190 RX1 yX1_copyFrom wsX1_copyFrom) := goodIn_app (goodIn_of _ (by decide +kernel)) ggX3_fate_X1_copyFrom
set_option maxRecDepth 20000 in
theorem ggX3_fate_X1_watch : GoodIn wsX3_fate wsX1_watch := goodIn_r _ [52, 53, 54, 188, 189, 190, 191, 192, 193, 194, 195, 196, 197, 198, 199, 200, 201, 202, 203] (by decide +kernel) (by decide +kernel)
set_option maxRecDepth 20000 in
theorem gX3_fate_X1_watch : GoodIn wsX3_fate (wsV RX3 193 RX1 yX1_watch wsX1_watch) := goodIn_app (goodIn_of _ (by decide +kernel)) ggX3_fate_X1_watch
set_option maxRecDepth 20000 in
theorem ggX3_fate_X1_passTick : GoodIn wsX3_fate wsX1_passTick := goodIn_r _ [58, 38, 39, 59, 60, 61, 20, 62, 35, 63, 64, 65, 8, 66, 10, 67, 12, 13, 14, 15, 16, 68, 69, 70, 71, 34, 72, 6, 7, 9, 11, 73, 74, 75, 76, 32, 77, 78, 79, 80, 81, 82, 83, 84, 85, 86, 87, 88, 89, 90, 91, 92, 36, 93, 94, 95, 96, 37, 97, 98, 99, 100, 40, 101, 102, 103, 104, 105, 106, 107, 108, 109, 22, 110, 111, 112, 113, 33, 114, 115, 116, 117, 118, 119, 120, 121, 122, 123, 124, 125, 126, 31, 127, 128, 129, 130, 41, 131, 132, 133, 134, 135, 136, 137, 138, 139, 140, 25, 141, 142, 143, 144, 145, 146, 147, 148, 149, 150, 151, 152, 153, 154, 155, 156, 157, 158, 159, 160, 161, 162, 43, 42, 163, 164, 165, 166, 167, 168, 169, 170, 53, 54, 171, 172, 173, 174, 175, 176, 177, 178, 179, 180, 181, 182, 188, 189, 190, 191, 192, 193, 194, 195, 196, 197, 198, 199, 200, 201, 202, 203, 204, 205, 206, 207] (by decide +kernel) (by decide +kernel)
set_option maxRecDepth 20000 in
theorem gX3_fate_X1_passTick : GoodIn wsX3_fate (wsV RX3 154 RX1 yX1_passTick wsX1_passTick) := goodIn_app (goodIn_of _ (by decide +kernel)) ggX3_fate_X1_passTick
theorem dX3_fate_0 : decode cX3_fate 0 = .ok (.aload_n 0, 1) := by decide +kernel
theorem dX3_fate_1 : decode cX3_fate 1 = .ok (.getfield 10, 3) := by decide +kernel
theorem dX3_fate_4 : decode cX3_fate 4 = .ok (.getfield 51, 3) := by decide +kernel
theorem dX3_fate_7 : decode cX3_fate 7 = .ok (.iload_n 1, 1) := by decide +kernel
theorem dX3_fate_8 : decode cX3_fate 8 = .ok (.invokevirtual 126, 3) := by decide +kernel
theorem dX3_fate_11 : decode cX3_fate 11 = .ok (.iconst (-1), 1) := by decide +kernel
theorem dX3_fate_12 : decode cX3_fate 12 = .ok (.if_icmp .ne 13, 3) := by decide +kernel
theorem dX3_fate_15 : decode cX3_fate 15 = .ok (.new 129, 3) := by decide +kernel
theorem dX3_fate_18 : decode cX3_fate 18 = .ok (.dup, 1) := by decide +kernel
theorem dX3_fate_19 : decode cX3_fate 19 = .ok (.ldc 167, 2) := by decide +kernel
theorem dX3_fate_21 : decode cX3_fate 21 = .ok (.invokespecial 133, 3) := by decide +kernel
theorem dX3_fate_24 : decode cX3_fate 24 = .ok (.athrow, 1) := by decide +kernel
theorem dX3_fate_25 : decode cX3_fate 25 = .ok (.aload_n 0, 1) := by decide +kernel
theorem dX3_fate_26 : decode cX3_fate 26 = .ok (.getfield 16, 3) := by decide +kernel
theorem dX3_fate_29 : decode cX3_fate 29 = .ok (.aload_n 0, 1) := by decide +kernel
theorem dX3_fate_30 : decode cX3_fate 30 = .ok (.getfield 10, 3) := by decide +kernel
theorem dX3_fate_33 : decode cX3_fate 33 = .ok (.invokevirtual 190, 3) := by decide +kernel
theorem dX3_fate_36 : decode cX3_fate 36 = .ok (.aload_n 0, 1) := by decide +kernel
theorem dX3_fate_37 : decode cX3_fate 37 = .ok (.getfield 16, 3) := by decide +kernel
theorem dX3_fate_40 : decode cX3_fate 40 = .ok (.iload_n 1, 1) := by decide +kernel
theorem dX3_fate_41 : decode cX3_fate 41 = .ok (.invokevirtual 193, 3) := by decide +kernel
theorem dX3_fate_44 : decode cX3_fate 44 = .ok (.aload_n 0, 1) := by decide +kernel
theorem dX3_fate_45 : decode cX3_fate 45 = .ok (.getfield 16, 3) := by decide +kernel
theorem dX3_fate_48 : decode cX3_fate 48 = .ok (.aload_n 0, 1) := by decide +kernel
theorem dX3_fate_49 : decode cX3_fate 49 = .ok (.getfield 16, 3) := by decide +kernel
theorem dX3_fate_52 : decode cX3_fate 52 = .ok (.getfield 106, 3) := by decide +kernel
theorem dX3_fate_55 : decode cX3_fate 55 = .ok (.ifCond .ne 7, 3) := by decide +kernel
theorem dX3_fate_58 : decode cX3_fate 58 = .ok (.iconst 1, 1) := by decide +kernel
theorem dX3_fate_59 : decode cX3_fate 59 = .ok (.goto 4, 3) := by decide +kernel
theorem dX3_fate_62 : decode cX3_fate 62 = .ok (.iconst 0, 1) := by decide +kernel
theorem dX3_fate_63 : decode cX3_fate 63 = .ok (.putfield 103, 3) := by decide +kernel
theorem dX3_fate_66 : decode cX3_fate 66 = .ok (.iconst 0, 1) := by decide +kernel
theorem dX3_fate_67 : decode cX3_fate 67 = .ok (.istore_n 2, 1) := by decide +kernel
theorem dX3_fate_68 : decode cX3_fate 68 = .ok (.iload_n 2, 1) := by decide +kernel
theorem dX3_fate_69 : decode cX3_fate 69 = .ok (.sipush 1000, 3) := by decide +kernel
theorem dX3_fate_72 : decode cX3_fate 72 = .ok (.if_icmp .ge 36, 3) := by decide +kernel
theorem dX3_fate_75 : decode cX3_fate 75 = .ok (.aload_n 0, 1) := by decide +kernel
theorem dX3_fate_76 : decode cX3_fate 76 = .ok (.getfield 16, 3) := by decide +kernel
theorem dX3_fate_79 : decode cX3_fate 79 = .ok (.getfield 103, 3) := by decide +kernel
theorem dX3_fate_82 : decode cX3_fate 82 = .ok (.ifCond .eq 26, 3) := by decide +kernel
theorem dX3_fate_85 : decode cX3_fate 85 = .ok (.aload_n 0, 1) := by decide +kernel
theorem dX3_fate_86 : decode cX3_fate 86 = .ok (.getfield 16, 3) := by decide +kernel
theorem dX3_fate_89 : decode cX3_fate 89 = .ok (.getfield 196, 3) := by decide +kernel
theorem dX3_fate_92 : decode cX3_fate 92 = .ok (.ifCond .ne 16, 3) := by decide +kernel
theorem dX3_fate_95 : decode cX3_fate 95 = .ok (.aload_n 0, 1) := by decide +kernel
theorem dX3_fate_96 : decode cX3_fate 96 = .ok (.getfield 16, 3) := by decide +kernel
theorem dX3_fate_99 : decode cX3_fate 99 = .ok (.invokevirtual 154, 3) := by decide +kernel
theorem dX3_fate_102 : decode cX3_fate 102 = .ok (.iinc 2 1, 3) := by decide +kernel
theorem dX3_fate_105 : decode cX3_fate 105 = .ok (.goto (-37), 3) := by decide +kernel
theorem dX3_fate_108 : decode cX3_fate 108 = .ok (.aload_n 0, 1) := by decide +kernel
theorem dX3_fate_109 : decode cX3_fate 109 = .ok (.getfield 16, 3) := by decide +kernel
theorem dX3_fate_112 : decode cX3_fate 112 = .ok (.getfield 196, 3) := by decide +kernel
theorem dX3_fate_115 : decode cX3_fate 115 = .ok (.ireturn, 1) := by decide +kernel
theorem dX3_append_0 : decode cX3_append 0 = .ok (.iload_n 1, 1) := by decide +kernel
theorem dX3_append_1 : decode cX3_append 1 = .ok (.ifCond .lt 9, 3) := by decide +kernel
theorem dX3_append_4 : decode cX3_append 4 = .ok (.iload_n 1, 1) := by decide +kernel
theorem dX3_append_5 : decode cX3_append 5 = .ok (.bipush 127, 2) := by decide +kernel
theorem dX3_append_7 : decode cX3_append 7 = .ok (.if_icmp .le 13, 3) := by decide +kernel
theorem dX3_append_10 : decode cX3_append 10 = .ok (.new 34, 3) := by decide +kernel
theorem dX3_append_13 : decode cX3_append 13 = .ok (.dup, 1) := by decide +kernel
theorem dX3_append_14 : decode cX3_append 14 = .ok (.ldc 199, 2) := by decide +kernel
theorem dX3_append_16 : decode cX3_append 16 = .ok (.invokespecial 38, 3) := by decide +kernel
theorem dX3_append_19 : decode cX3_append 19 = .ok (.athrow, 1) := by decide +kernel
theorem dX3_append_20 : decode cX3_append 20 = .ok (.aload_n 0, 1) := by decide +kernel
theorem dX3_append_21 : decode cX3_append 21 = .ok (.getfield 30, 3) := by decide +kernel
theorem dX3_append_24 : decode cX3_append 24 = .ok (.ifCond .lt 15, 3) := by decide +kernel
theorem dX3_append_27 : decode cX3_append 27 = .ok (.aload_n 0, 1) := by decide +kernel
theorem dX3_append_28 : decode cX3_append 28 = .ok (.getfield 30, 3) := by decide +kernel
theorem dX3_append_31 : decode cX3_append 31 = .ok (.aload_n 0, 1) := by decide +kernel
theorem dX3_append_32 : decode cX3_append 32 = .ok (.getfield 26, 3) := by decide +kernel
theorem dX3_append_35 : decode cX3_append 35 = .ok (.arraylength, 1) := by decide +kernel
theorem dX3_append_36 : decode cX3_append 36 = .ok (.if_icmp .lt 13, 3) := by decide +kernel
theorem dX3_append_39 : decode cX3_append 39 = .ok (.new 54, 3) := by decide +kernel
theorem dX3_append_42 : decode cX3_append 42 = .ok (.dup, 1) := by decide +kernel
theorem dX3_append_43 : decode cX3_append 43 = .ok (.ldc 201, 2) := by decide +kernel
theorem dX3_append_45 : decode cX3_append 45 = .ok (.invokespecial 58, 3) := by decide +kernel
theorem dX3_append_48 : decode cX3_append 48 = .ok (.athrow, 1) := by decide +kernel
theorem dX3_append_49 : decode cX3_append 49 = .ok (.aload_n 0, 1) := by decide +kernel
theorem dX3_append_50 : decode cX3_append 50 = .ok (.getfield 26, 3) := by decide +kernel
theorem dX3_append_53 : decode cX3_append 53 = .ok (.aload_n 0, 1) := by decide +kernel
theorem dX3_append_54 : decode cX3_append 54 = .ok (.getfield 30, 3) := by decide +kernel
theorem dX3_append_57 : decode cX3_append 57 = .ok (.iload_n 1, 1) := by decide +kernel
theorem dX3_append_58 : decode cX3_append 58 = .ok (.i2b, 1) := by decide +kernel
theorem dX3_append_59 : decode cX3_append 59 = .ok (.bastore, 1) := by decide +kernel
theorem dX3_append_60 : decode cX3_append 60 = .ok (.aload_n 0, 1) := by decide +kernel
theorem dX3_append_61 : decode cX3_append 61 = .ok (.dup, 1) := by decide +kernel
theorem dX3_append_62 : decode cX3_append 62 = .ok (.getfield 30, 3) := by decide +kernel
theorem dX3_append_65 : decode cX3_append 65 = .ok (.iconst 1, 1) := by decide +kernel
theorem dX3_append_66 : decode cX3_append 66 = .ok (.iadd, 1) := by decide +kernel
theorem dX3_append_67 : decode cX3_append 67 = .ok (.putfield 30, 3) := by decide +kernel
theorem dX3_append_70 : decode cX3_append 70 = .ok (.aload_n 0, 1) := by decide +kernel
theorem dX3_append_71 : decode cX3_append 71 = .ok (.getfield 30, 3) := by decide +kernel
theorem dX3_append_74 : decode cX3_append 74 = .ok (.ireturn, 1) := by decide +kernel
theorem dX3_clearText_0 : decode cX3_clearText 0 = .ok (.aload_n 0, 1) := by decide +kernel
theorem dX3_clearText_1 : decode cX3_clearText 1 = .ok (.getfield 30, 3) := by decide +kernel
theorem dX3_clearText_4 : decode cX3_clearText 4 = .ok (.istore_n 1, 1) := by decide +kernel
theorem dX3_clearText_5 : decode cX3_clearText 5 = .ok (.aload_n 0, 1) := by decide +kernel
theorem dX3_clearText_6 : decode cX3_clearText 6 = .ok (.iconst 0, 1) := by decide +kernel
theorem dX3_clearText_7 : decode cX3_clearText 7 = .ok (.putfield 30, 3) := by decide +kernel
theorem dX3_clearText_10 : decode cX3_clearText 10 = .ok (.iload_n 1, 1) := by decide +kernel
theorem dX3_clearText_11 : decode cX3_clearText 11 = .ok (.ireturn, 1) := by decide +kernel
set_option maxRecDepth 20000 in
theorem ggX3_carryOut_X3_syntaxError : GoodIn wsX3_carryOut wsX3_syntaxError := goodIn_r _ [8, 3, 9, 10, 11, 7, 12, 13, 14, 15, 16, 226, 227, 228, 229, 230] (by decide +kernel) (by decide +kernel)
set_option maxRecDepth 20000 in
theorem gX3_carryOut_X3_syntaxError : GoodIn wsX3_carryOut (wsV RX3 203 RX3 yX3_syntaxError wsX3_syntaxError) := goodIn_app (goodIn_of _ (by decide +kernel)) ggX3_carryOut_X3_syntaxError
set_option maxRecDepth 20000 in
theorem ggX3_carryOut_X0_prepare : GoodIn wsX3_carryOut wsX0_prepare := goodIn_r _ [21, 22, 23, 24, 25, 20, 26, 27, 28, 29, 30, 31, 32, 33, 34, 35, 36, 37, 38, 39, 40, 41, 42, 43, 44, 45, 46, 47, 48, 49, 50, 51, 52, 53, 54, 55, 56, 57, 58, 59, 60, 61, 62, 63, 231, 232, 233, 234, 235, 236, 237, 238, 239, 240, 241, 242, 243, 244, 245, 246, 247, 248, 249, 250, 251, 252, 253] (by decide +kernel) (by decide +kernel)
set_option maxRecDepth 20000 in
theorem gX3_carryOut_X0_prepare : GoodIn wsX3_carryOut (wsV RX3 206 RX0 yX0_prepare wsX0_prepare) := goodIn_app (goodIn_of _ (by decide +kernel)) ggX3_carryOut_X0_prepare
set_option maxRecDepth 20000 in
theorem ggX3_carryOut_X3_byteAt : GoodIn wsX3_carryOut wsX3_byteAt := goodIn_r _ [12, 13, 226, 227, 228, 229, 230] (by decide +kernel) (by decide +kernel)
set_option maxRecDepth 20000 in
theorem gX3_carryOut_X3_byteAt : GoodIn wsX3_carryOut (wsV RX3 209 RX3 yX3_byteAt wsX3_byteAt) := goodIn_app (goodIn_of _ (by decide +kernel)) ggX3_carryOut_X3_byteAt
set_option maxRecDepth 20000 in
theorem ggX3_carryOut_X3_ticksOf : GoodIn wsX3_carryOut wsX3_ticksOf := goodIn_r _ [16] (by decide +kernel) (by decide +kernel)
set_option maxRecDepth 20000 in
theorem gX3_carryOut_X3_ticksOf : GoodIn wsX3_carryOut (va_wsS RX3 212 yX3_ticksOf wsX3_ticksOf) := goodIn_app (goodIn_of _ (by decide +kernel)) ggX3_carryOut_X3_ticksOf
set_option maxRecDepth 20000 in
theorem ggX3_carryOut_X1_passTick : GoodIn wsX3_carryOut wsX1_passTick := goodIn_r _ [67, 50, 51, 68, 69, 70, 32, 71, 47, 72, 73, 74, 59, 75, 63, 76, 77, 78, 79, 80, 61, 81, 82, 83, 84, 46, 85, 86, 87, 88, 89, 90, 91, 92, 93, 44, 94, 95, 96, 97, 98, 99, 100, 101, 102, 103, 104, 105, 106, 107, 108, 109, 48, 110, 111, 112, 113, 49, 114, 115, 116, 117, 52, 118, 119, 120, 121, 122, 123, 124, 125, 126, 34, 127, 128, 129, 130, 45, 131, 132, 133, 134, 135, 136, 137, 138, 139, 140, 141, 142, 143, 43, 144, 145, 146, 147, 53, 148, 149, 150, 151, 152, 153, 154, 155, 156, 157, 37, 158, 159, 160, 161, 162, 163, 164, 165, 166, 167, 168, 169, 170, 171, 172, 173, 174, 175, 176, 177, 178, 179, 55, 54, 180, 181, 182, 183, 184, 185, 186, 187, 188, 189, 190, 191, 192, 193, 194, 195, 196, 197, 198, 199, 200, 201, 234, 235, 236, 237, 238, 239, 240, 241, 242, 243, 244, 245, 246, 247, 248, 249, 250, 251, 252, 253] (by decide +kernel) (by decide +kernel)
set_option maxRecDepth 20000 in
theorem gX3_carryOut_X1_passTick : GoodIn wsX3_carryOut (wsV RX3 154 RX1 yX1_passTick wsX1_passTick) := goodIn_app (goodIn_of _ (by decide +kernel)) ggX3_carryOut_X1_passTick
set_option maxRecDepth 20000 in
theorem ggX3_carryOut_X1_hasRoom : GoodIn wsX3_carryOut wsX1_hasRoom := goodIn_r _ [205, 45, 46, 72, 73, 74, 59, 75, 63, 206, 207, 208, 209, 89, 77, 78, 79, 80, 61, 234, 235, 236, 237, 238, 239, 240, 241, 242, 243, 244, 245, 246, 247, 248, 249, 250, 251, 252, 253] (by decide +kernel) (by decide +kernel)
set_option maxRecDepth 20000 in
theorem gX3_carryOut_X1_hasRoom : GoodIn wsX3_carryOut (wsV RX3 117 RX1 yX1_hasRoom wsX1_hasRoom) := goodIn_app (goodIn_of _ (by decide +kernel)) ggX3_carryOut_X1_hasRoom
set_option maxRecDepth 20000 in
theorem ggX3_carryOut_X0_bringBackPrepared : GoodIn wsX3_carryOut wsX0_bringBackPrepared := goodIn_r _ [213, 22, 23, 24, 25, 20, 26, 27, 28, 29, 30, 31, 32, 33, 34, 35, 36, 37, 38, 39, 40, 41, 42, 43, 44, 45, 46, 47, 48, 49, 50, 51, 52, 53, 54, 55, 56, 57, 58, 59, 60, 61, 62, 63, 231, 232, 233, 234, 235, 236, 237, 238, 239, 240, 241, 242, 243, 244, 245, 246, 247, 248, 249, 250, 251, 252, 253] (by decide +kernel) (by decide +kernel)
set_option maxRecDepth 20000 in
theorem gX3_carryOut_X0_bringBackPrepared : GoodIn wsX3_carryOut (wsV RX3 215 RX0 yX0_bringBackPrepared wsX0_bringBackPrepared) := goodIn_app (goodIn_of _ (by decide +kernel)) ggX3_carryOut_X0_bringBackPrepared
set_option maxRecDepth 20000 in
theorem ggX3_carryOut_X1_enter : GoodIn wsX3_carryOut wsX1_enter := goodIn_r _ [217, 45, 46, 218, 219, 220, 32, 221, 44, 90, 91, 92, 93, 163, 164, 165, 59, 166, 63, 167, 80, 135, 95, 96, 97, 61, 94, 234, 235, 236, 237, 238, 239, 240, 241, 242, 243, 244, 245, 246, 247, 248, 249, 250, 251, 252, 253] (by decide +kernel) (by decide +kernel)
set_option maxRecDepth 20000 in
theorem gX3_carryOut_X1_enter : GoodIn wsX3_carryOut (wsV RX3 123 RX1 yX1_enter wsX1_enter) := goodIn_app (goodIn_of _ (by decide +kernel)) ggX3_carryOut_X1_enter
set_option maxRecDepth 20000 in
theorem ggX3_carryOut_X0_keepPrepared : GoodIn wsX3_carryOut wsX0_keepPrepared := goodIn_r _ [225, 22, 27, 231, 232, 233] (by decide +kernel) (by decide +kernel)
set_option maxRecDepth 20000 in
theorem gX3_carryOut_X0_keepPrepared : GoodIn wsX3_carryOut (wsV RX3 218 RX0 yX0_keepPrepared wsX0_keepPrepared) := goodIn_app (goodIn_of _ (by decide +kernel)) ggX3_carryOut_X0_keepPrepared
theorem dX3_carryOut_0 : decode cX3_carryOut 0 = .ok (.aload_n 0, 1) := by decide +kernel
theorem dX3_carryOut_1 : decode cX3_carryOut 1 = .ok (.invokevirtual 203, 3) := by decide +kernel
theorem dX3_carryOut_4 : decode cX3_carryOut 4 = .ok (.istore_n 1, 1) := by decide +kernel
theorem dX3_carryOut_5 : decode cX3_carryOut 5 = .ok (.iload_n 1, 1) := by decide +kernel
theorem dX3_carryOut_6 : decode cX3_carryOut 6 = .ok (.iconst (-1), 1) := by decide +kernel
theorem dX3_carryOut_7 : decode cX3_carryOut 7 = .ok (.if_icmp .eq 8, 3) := by decide +kernel
theorem dX3_carryOut_10 : decode cX3_carryOut 10 = .ok (.bipush (-10), 2) := by decide +kernel
theorem dX3_carryOut_12 : decode cX3_carryOut 12 = .ok (.iload_n 1, 1) := by decide +kernel
theorem dX3_carryOut_13 : decode cX3_carryOut 13 = .ok (.isub, 1) := by decide +kernel
theorem dX3_carryOut_14 : decode cX3_carryOut 14 = .ok (.ireturn, 1) := by decide +kernel
theorem dX3_carryOut_15 : decode cX3_carryOut 15 = .ok (.aload_n 0, 1) := by decide +kernel
theorem dX3_carryOut_16 : decode cX3_carryOut 16 = .ok (.getfield 22, 3) := by decide +kernel
theorem dX3_carryOut_19 : decode cX3_carryOut 19 = .ok (.aload_n 0, 1) := by decide +kernel
theorem dX3_carryOut_20 : decode cX3_carryOut 20 = .ok (.getfield 10, 3) := by decide +kernel
theorem dX3_carryOut_23 : decode cX3_carryOut 23 = .ok (.invokevirtual 206, 3) := by decide +kernel
theorem dX3_carryOut_26 : decode cX3_carryOut 26 = .ok (.iconst 0, 1) := by decide +kernel
theorem dX3_carryOut_27 : decode cX3_carryOut 27 = .ok (.istore_n 2, 1) := by decide +kernel
theorem dX3_carryOut_28 : decode cX3_carryOut 28 = .ok (.iload_n 2, 1) := by decide +kernel
theorem dX3_carryOut_29 : decode cX3_carryOut 29 = .ok (.aload_n 0, 1) := by decide +kernel
theorem dX3_carryOut_30 : decode cX3_carryOut 30 = .ok (.getfield 30, 3) := by decide +kernel
theorem dX3_carryOut_33 : decode cX3_carryOut 33 = .ok (.if_icmp .ge 88, 3) := by decide +kernel
theorem dX3_carryOut_36 : decode cX3_carryOut 36 = .ok (.aload_n 0, 1) := by decide +kernel
theorem dX3_carryOut_37 : decode cX3_carryOut 37 = .ok (.iload_n 2, 1) := by decide +kernel
theorem dX3_carryOut_38 : decode cX3_carryOut 38 = .ok (.invokevirtual 209, 3) := by decide +kernel
theorem dX3_carryOut_41 : decode cX3_carryOut 41 = .ok (.istore_n 3, 1) := by decide +kernel
theorem dX3_carryOut_42 : decode cX3_carryOut 42 = .ok (.iload_n 3, 1) := by decide +kernel
theorem dX3_carryOut_43 : decode cX3_carryOut 43 = .ok (.invokestatic 212, 3) := by decide +kernel
theorem dX3_carryOut_46 : decode cX3_carryOut 46 = .ok (.istore 4, 2) := by decide +kernel
theorem dX3_carryOut_48 : decode cX3_carryOut 48 = .ok (.iconst 0, 1) := by decide +kernel
theorem dX3_carryOut_49 : decode cX3_carryOut 49 = .ok (.istore 5, 2) := by decide +kernel
theorem dX3_carryOut_51 : decode cX3_carryOut 51 = .ok (.iload 5, 2) := by decide +kernel
theorem dX3_carryOut_53 : decode cX3_carryOut 53 = .ok (.iload 4, 2) := by decide +kernel
theorem dX3_carryOut_55 : decode cX3_carryOut 55 = .ok (.if_icmp .ge 16, 3) := by decide +kernel
theorem dX3_carryOut_58 : decode cX3_carryOut 58 = .ok (.aload_n 0, 1) := by decide +kernel
theorem dX3_carryOut_59 : decode cX3_carryOut 59 = .ok (.getfield 10, 3) := by decide +kernel
theorem dX3_carryOut_62 : decode cX3_carryOut 62 = .ok (.invokevirtual 154, 3) := by decide +kernel
theorem dX3_carryOut_65 : decode cX3_carryOut 65 = .ok (.iinc 5 1, 3) := by decide +kernel
theorem dX3_carryOut_68 : decode cX3_carryOut 68 = .ok (.goto (-17), 3) := by decide +kernel
theorem dX3_carryOut_71 : decode cX3_carryOut 71 = .ok (.iload 4, 2) := by decide +kernel
theorem dX3_carryOut_73 : decode cX3_carryOut 73 = .ok (.ifCond .ne 42, 3) := by decide +kernel
theorem dX3_carryOut_76 : decode cX3_carryOut 76 = .ok (.aload_n 0, 1) := by decide +kernel
theorem dX3_carryOut_77 : decode cX3_carryOut 77 = .ok (.getfield 10, 3) := by decide +kernel
theorem dX3_carryOut_80 : decode cX3_carryOut 80 = .ok (.invokevirtual 117, 3) := by decide +kernel
theorem dX3_carryOut_83 : decode cX3_carryOut 83 = .ok (.ifCond .ne 20, 3) := by decide +kernel
theorem dX3_carryOut_86 : decode cX3_carryOut 86 = .ok (.aload_n 0, 1) := by decide +kernel
theorem dX3_carryOut_87 : decode cX3_carryOut 87 = .ok (.getfield 22, 3) := by decide +kernel
theorem dX3_carryOut_90 : decode cX3_carryOut 90 = .ok (.aload_n 0, 1) := by decide +kernel
theorem dX3_carryOut_91 : decode cX3_carryOut 91 = .ok (.getfield 10, 3) := by decide +kernel
theorem dX3_carryOut_94 : decode cX3_carryOut 94 = .ok (.invokevirtual 215, 3) := by decide +kernel
theorem dX3_carryOut_97 : decode cX3_carryOut 97 = .ok (.sipush (-1000), 3) := by decide +kernel
theorem dX3_carryOut_100 : decode cX3_carryOut 100 = .ok (.iload_n 2, 1) := by decide +kernel
theorem dX3_carryOut_101 : decode cX3_carryOut 101 = .ok (.isub, 1) := by decide +kernel
theorem dX3_carryOut_102 : decode cX3_carryOut 102 = .ok (.ireturn, 1) := by decide +kernel
theorem dX3_carryOut_103 : decode cX3_carryOut 103 = .ok (.aload_n 0, 1) := by decide +kernel
theorem dX3_carryOut_104 : decode cX3_carryOut 104 = .ok (.getfield 10, 3) := by decide +kernel
theorem dX3_carryOut_107 : decode cX3_carryOut 107 = .ok (.iload_n 3, 1) := by decide +kernel
theorem dX3_carryOut_108 : decode cX3_carryOut 108 = .ok (.bipush 48, 2) := by decide +kernel
theorem dX3_carryOut_110 : decode cX3_carryOut 110 = .ok (.isub, 1) := by decide +kernel
theorem dX3_carryOut_111 : decode cX3_carryOut 111 = .ok (.invokevirtual 123, 3) := by decide +kernel
theorem dX3_carryOut_114 : decode cX3_carryOut 114 = .ok (.pop, 1) := by decide +kernel
theorem dX3_carryOut_115 : decode cX3_carryOut 115 = .ok (.iinc 2 1, 3) := by decide +kernel
theorem dX3_carryOut_118 : decode cX3_carryOut 118 = .ok (.goto (-90), 3) := by decide +kernel
theorem dX3_carryOut_121 : decode cX3_carryOut 121 = .ok (.aload_n 0, 1) := by decide +kernel
theorem dX3_carryOut_122 : decode cX3_carryOut 122 = .ok (.getfield 22, 3) := by decide +kernel
theorem dX3_carryOut_125 : decode cX3_carryOut 125 = .ok (.invokevirtual 218, 3) := by decide +kernel
theorem dX3_carryOut_128 : decode cX3_carryOut 128 = .ok (.aload_n 0, 1) := by decide +kernel
theorem dX3_carryOut_129 : decode cX3_carryOut 129 = .ok (.getfield 30, 3) := by decide +kernel
theorem dX3_carryOut_132 : decode cX3_carryOut 132 = .ok (.ireturn, 1) := by decide +kernel
set_option maxRecDepth 20000 in
theorem ggX3_syntaxError_X3_byteAt : GoodIn wsX3_syntaxError wsX3_byteAt := goodIn_r _ [6, 7, 11, 12, 13, 14, 15] (by decide +kernel) (by decide +kernel)
set_option maxRecDepth 20000 in
theorem gX3_syntaxError_X3_byteAt : GoodIn wsX3_syntaxError (wsV RX3 209 RX3 yX3_byteAt wsX3_byteAt) := goodIn_app (goodIn_of _ (by decide +kernel)) ggX3_syntaxError_X3_byteAt
set_option maxRecDepth 20000 in
theorem ggX3_syntaxError_X3_ticksOf : GoodIn wsX3_syntaxError wsX3_ticksOf := goodIn_r _ [10] (by decide +kernel) (by decide +kernel)
set_option maxRecDepth 20000 in
theorem gX3_syntaxError_X3_ticksOf : GoodIn wsX3_syntaxError (va_wsS RX3 212 yX3_ticksOf wsX3_ticksOf) := goodIn_app (goodIn_of _ (by decide +kernel)) ggX3_syntaxError_X3_ticksOf
theorem dX3_syntaxError_0 : decode cX3_syntaxError 0 = .ok (.iconst 0, 1) := by decide +kernel
theorem dX3_syntaxError_1 : decode cX3_syntaxError 1 = .ok (.istore_n 1, 1) := by decide +kernel
theorem dX3_syntaxError_2 : decode cX3_syntaxError 2 = .ok (.iload_n 1, 1) := by decide +kernel
theorem dX3_syntaxError_3 : decode cX3_syntaxError 3 = .ok (.aload_n 0, 1) := by decide +kernel
theorem dX3_syntaxError_4 : decode cX3_syntaxError 4 = .ok (.getfield 30, 3) := by decide +kernel
theorem dX3_syntaxError_7 : decode cX3_syntaxError 7 = .ok (.if_icmp .ge 46, 3) := by decide +kernel
theorem dX3_syntaxError_10 : decode cX3_syntaxError 10 = .ok (.aload_n 0, 1) := by decide +kernel
theorem dX3_syntaxError_11 : decode cX3_syntaxError 11 = .ok (.iload_n 1, 1) := by decide +kernel
theorem dX3_syntaxError_12 : decode cX3_syntaxError 12 = .ok (.invokevirtual 209, 3) := by decide +kernel
theorem dX3_syntaxError_15 : decode cX3_syntaxError 15 = .ok (.istore_n 2, 1) := by decide +kernel
theorem dX3_syntaxError_16 : decode cX3_syntaxError 16 = .ok (.iload_n 2, 1) := by decide +kernel
theorem dX3_syntaxError_17 : decode cX3_syntaxError 17 = .ok (.bipush 48, 2) := by decide +kernel
theorem dX3_syntaxError_19 : decode cX3_syntaxError 19 = .ok (.if_icmp .lt 13, 3) := by decide +kernel
theorem dX3_syntaxError_22 : decode cX3_syntaxError 22 = .ok (.iload_n 2, 1) := by decide +kernel
theorem dX3_syntaxError_23 : decode cX3_syntaxError 23 = .ok (.bipush 51, 2) := by decide +kernel
theorem dX3_syntaxError_25 : decode cX3_syntaxError 25 = .ok (.if_icmp .gt 7, 3) := by decide +kernel
theorem dX3_syntaxError_28 : decode cX3_syntaxError 28 = .ok (.iconst 1, 1) := by decide +kernel
theorem dX3_syntaxError_29 : decode cX3_syntaxError 29 = .ok (.goto 4, 3) := by decide +kernel
theorem dX3_syntaxError_32 : decode cX3_syntaxError 32 = .ok (.iconst 0, 1) := by decide +kernel
theorem dX3_syntaxError_33 : decode cX3_syntaxError 33 = .ok (.istore_n 3, 1) := by decide +kernel
theorem dX3_syntaxError_34 : decode cX3_syntaxError 34 = .ok (.iload_n 3, 1) := by decide +kernel
theorem dX3_syntaxError_35 : decode cX3_syntaxError 35 = .ok (.ifCond .ne 12, 3) := by decide +kernel
theorem dX3_syntaxError_38 : decode cX3_syntaxError 38 = .ok (.iload_n 2, 1) := by decide +kernel
theorem dX3_syntaxError_39 : decode cX3_syntaxError 39 = .ok (.invokestatic 212, 3) := by decide +kernel
theorem dX3_syntaxError_42 : decode cX3_syntaxError 42 = .ok (.ifCond .ne 5, 3) := by decide +kernel
theorem dX3_syntaxError_45 : decode cX3_syntaxError 45 = .ok (.iload_n 1, 1) := by decide +kernel
theorem dX3_syntaxError_46 : decode cX3_syntaxError 46 = .ok (.ireturn, 1) := by decide +kernel
theorem dX3_syntaxError_47 : decode cX3_syntaxError 47 = .ok (.iinc 1 1, 3) := by decide +kernel
theorem dX3_syntaxError_50 : decode cX3_syntaxError 50 = .ok (.goto (-48), 3) := by decide +kernel
theorem dX3_syntaxError_53 : decode cX3_syntaxError 53 = .ok (.iconst (-1), 1) := by decide +kernel
theorem dX3_syntaxError_54 : decode cX3_syntaxError 54 = .ok (.ireturn, 1) := by decide +kernel
theorem dX3_ticksOf_0 : decode cX3_ticksOf 0 = .ok (.iload_n 0, 1) := by decide +kernel
theorem dX3_ticksOf_1 : decode cX3_ticksOf 1 = .ok (.bipush 46, 2) := by decide +kernel
theorem dX3_ticksOf_3 : decode cX3_ticksOf 3 = .ok (.if_icmp .ne 5, 3) := by decide +kernel
theorem dX3_ticksOf_6 : decode cX3_ticksOf 6 = .ok (.iconst 1, 1) := by decide +kernel
theorem dX3_ticksOf_7 : decode cX3_ticksOf 7 = .ok (.ireturn, 1) := by decide +kernel
theorem dX3_ticksOf_8 : decode cX3_ticksOf 8 = .ok (.iload_n 0, 1) := by decide +kernel
theorem dX3_ticksOf_9 : decode cX3_ticksOf 9 = .ok (.bipush 58, 2) := by decide +kernel
theorem dX3_ticksOf_11 : decode cX3_ticksOf 11 = .ok (.if_icmp .ne 8, 3) := by decide +kernel
theorem dX3_ticksOf_14 : decode cX3_ticksOf 14 = .ok (.bipush 10, 2) := by decide +kernel
theorem dX3_ticksOf_16 : decode cX3_ticksOf 16 = .ok (.goto 4, 3) := by decide +kernel
theorem dX3_ticksOf_19 : decode cX3_ticksOf 19 = .ok (.iconst 0, 1) := by decide +kernel
theorem dX3_ticksOf_20 : decode cX3_ticksOf 20 = .ok (.ireturn, 1) := by decide +kernel
theorem dX3_byteAt_0 : decode cX3_byteAt 0 = .ok (.iload_n 1, 1) := by decide +kernel
theorem dX3_byteAt_1 : decode cX3_byteAt 1 = .ok (.ifCond .lt 21, 3) := by decide +kernel
theorem dX3_byteAt_4 : decode cX3_byteAt 4 = .ok (.iload_n 1, 1) := by decide +kernel
theorem dX3_byteAt_5 : decode cX3_byteAt 5 = .ok (.aload_n 0, 1) := by decide +kernel
theorem dX3_byteAt_6 : decode cX3_byteAt 6 = .ok (.getfield 26, 3) := by decide +kernel
theorem dX3_byteAt_9 : decode cX3_byteAt 9 = .ok (.arraylength, 1) := by decide +kernel
theorem dX3_byteAt_10 : decode cX3_byteAt 10 = .ok (.if_icmp .ge 12, 3) := by decide +kernel
theorem dX3_byteAt_13 : decode cX3_byteAt 13 = .ok (.aload_n 0, 1) := by decide +kernel
theorem dX3_byteAt_14 : decode cX3_byteAt 14 = .ok (.getfield 26, 3) := by decide +kernel
theorem dX3_byteAt_17 : decode cX3_byteAt 17 = .ok (.iload_n 1, 1) := by decide +kernel
theorem dX3_byteAt_18 : decode cX3_byteAt 18 = .ok (.baload, 1) := by decide +kernel
theorem dX3_byteAt_19 : decode cX3_byteAt 19 = .ok (.goto 4, 3) := by decide +kernel
theorem dX3_byteAt_22 : decode cX3_byteAt 22 = .ok (.iconst (-1), 1) := by decide +kernel
theorem dX3_byteAt_23 : decode cX3_byteAt 23 = .ok (.ireturn, 1) := by decide +kernel
set_option maxRecDepth 20000 in
theorem ggX3_undo_X0_count : GoodIn wsX3_undo wsX0_count := goodIn_r _ [9, 10, 65, 66, 67] (by decide +kernel) (by decide +kernel)
set_option maxRecDepth 20000 in
theorem gX3_undo_X0_count : GoodIn wsX3_undo (wsV RX3 221 RX0 yX0_count wsX0_count) := goodIn_app (goodIn_of _ (by decide +kernel)) ggX3_undo_X0_count
set_option maxRecDepth 20000 in
theorem ggX3_undo_X0_bringBackLatest : GoodIn wsX3_undo wsX0_bringBackLatest := goodIn_r _ [14, 10, 15, 16, 17, 8, 18, 19, 20, 21, 22, 23, 24, 25, 26, 27, 28, 29, 30, 31, 32, 33, 34, 35, 36, 37, 38, 39, 40, 41, 42, 43, 44, 45, 46, 47, 48, 49, 50, 51, 52, 53, 54, 55, 56, 57, 58, 59, 65, 66, 67, 68, 69, 70, 71, 72, 73, 74, 75, 76, 77, 78, 79, 80, 81, 82, 83, 84, 85, 86, 87] (by decide +kernel) (by decide +kernel)
set_option maxRecDepth 20000 in
theorem gX3_undo_X0_bringBackLatest : GoodIn wsX3_undo (wsV RX3 224 RX0 yX0_bringBackLatest wsX0_bringBackLatest) := goodIn_app (goodIn_of _ (by decide +kernel)) ggX3_undo_X0_bringBackLatest
theorem dX3_undo_0 : decode cX3_undo 0 = .ok (.aload_n 0, 1) := by decide +kernel
theorem dX3_undo_1 : decode cX3_undo 1 = .ok (.getfield 22, 3) := by decide +kernel
theorem dX3_undo_4 : decode cX3_undo 4 = .ok (.invokevirtual 221, 3) := by decide +kernel
theorem dX3_undo_7 : decode cX3_undo 7 = .ok (.ifCond .ne 13, 3) := by decide +kernel
theorem dX3_undo_10 : decode cX3_undo 10 = .ok (.new 54, 3) := by decide +kernel
theorem dX3_undo_13 : decode cX3_undo 13 = .ok (.dup, 1) := by decide +kernel
theorem dX3_undo_14 : decode cX3_undo 14 = .ok (.ldc 222, 2) := by decide +kernel
theorem dX3_undo_16 : decode cX3_undo 16 = .ok (.invokespecial 58, 3) := by decide +kernel
theorem dX3_undo_19 : decode cX3_undo 19 = .ok (.athrow, 1) := by decide +kernel
theorem dX3_undo_20 : decode cX3_undo 20 = .ok (.aload_n 0, 1) := by decide +kernel
theorem dX3_undo_21 : decode cX3_undo 21 = .ok (.getfield 22, 3) := by decide +kernel
theorem dX3_undo_24 : decode cX3_undo 24 = .ok (.aload_n 0, 1) := by decide +kernel
theorem dX3_undo_25 : decode cX3_undo 25 = .ok (.getfield 10, 3) := by decide +kernel
theorem dX3_undo_28 : decode cX3_undo 28 = .ok (.invokevirtual 224, 3) := by decide +kernel
theorem dX3_undo_31 : decode cX3_undo 31 = .ok (.aload_n 0, 1) := by decide +kernel
theorem dX3_undo_32 : decode cX3_undo 32 = .ok (.getfield 22, 3) := by decide +kernel
theorem dX3_undo_35 : decode cX3_undo 35 = .ok (.invokevirtual 221, 3) := by decide +kernel
theorem dX3_undo_38 : decode cX3_undo 38 = .ok (.ireturn, 1) := by decide +kernel
set_option maxRecDepth 20000 in
theorem ggX3_digest_X1_valueOf : GoodIn wsX3_digest wsX1_valueOf := goodIn_r _ [10, 11, 12, 13, 14, 15, 9, 16, 17, 18, 19, 20, 21, 67, 68, 69, 70, 71, 72, 73, 74, 75, 76, 77, 78, 79, 80, 81, 82] (by decide +kernel) (by decide +kernel)
set_option maxRecDepth 20000 in
theorem gX3_digest_X1_valueOf : GoodIn wsX3_digest (wsV RX3 96 RX1 yX1_valueOf wsX1_valueOf) := goodIn_app (goodIn_of _ (by decide +kernel)) ggX3_digest_X1_valueOf
set_option maxRecDepth 20000 in
theorem ggX3_digest_X1_statusOf : GoodIn wsX3_digest wsX1_statusOf := goodIn_r _ [25, 26, 27, 28, 29, 30, 31, 32, 33, 34, 35, 36, 37, 38, 39, 67, 68, 69, 70, 71, 72, 73, 74, 75, 76, 77, 78, 79, 80, 81, 82, 83, 84, 85, 86] (by decide +kernel) (by decide +kernel)
set_option maxRecDepth 20000 in
theorem gX3_digest_X1_statusOf : GoodIn wsX3_digest (wsV RX3 162 RX1 yX1_statusOf wsX1_statusOf) := goodIn_app (goodIn_of _ (by decide +kernel)) ggX3_digest_X1_statusOf
set_option maxRecDepth 20000 in
theorem ggX3_digest_X1_counted : GoodIn wsX3_digest wsX1_counted := goodIn_r _ [43, 44, 67, 68, 69, 70, 71, 72, 73, 74, 75, 76, 77, 78, 79, 80, 81, 82] (by decide +kernel) (by decide +kernel)
set_option maxRecDepth 20000 in
theorem gX3_digest_X1_counted : GoodIn wsX3_digest (wsV RX3 176 RX1 yX1_counted wsX1_counted) := goodIn_app (goodIn_of _ (by decide +kernel)) ggX3_digest_X1_counted
set_option maxRecDepth 20000 in
theorem ggX3_digest_X2_mixInto : GoodIn wsX3_digest wsX2_mixInto := goodIn_r _ [48, 39, 49, 50, 51, 52, 53, 37, 54, 55, 83, 84, 85, 86] (by decide +kernel) (by decide +kernel)
set_option maxRecDepth 20000 in
theorem gX3_digest_X2_mixInto : GoodIn wsX3_digest (wsV RX3 231 RX2 yX2_mixInto wsX2_mixInto) := goodIn_app (goodIn_of _ (by decide +kernel)) ggX3_digest_X2_mixInto
set_option maxRecDepth 20000 in
theorem ggX3_digest_X0_count : GoodIn wsX3_digest wsX0_count := goodIn_r _ [60, 61, 87, 88, 89] (by decide +kernel) (by decide +kernel)
set_option maxRecDepth 20000 in
theorem gX3_digest_X0_count : GoodIn wsX3_digest (wsV RX3 221 RX0 yX0_count wsX0_count) := goodIn_app (goodIn_of _ (by decide +kernel)) ggX3_digest_X0_count
theorem dX3_digest_0 : decode cX3_digest 0 = .ok (.ldc2_w 227, 3) := by decide +kernel
theorem dX3_digest_3 : decode cX3_digest 3 = .ok (.aload_n 0, 1) := by decide +kernel
theorem dX3_digest_4 : decode cX3_digest 4 = .ok (.getfield 30, 3) := by decide +kernel
theorem dX3_digest_7 : decode cX3_digest 7 = .ok (.i2l, 1) := by decide +kernel
theorem dX3_digest_8 : decode cX3_digest 8 = .ok (.ladd, 1) := by decide +kernel
theorem dX3_digest_9 : decode cX3_digest 9 = .ok (.lstore_n 1, 1) := by decide +kernel
theorem dX3_digest_10 : decode cX3_digest 10 = .ok (.iconst 0, 1) := by decide +kernel
theorem dX3_digest_11 : decode cX3_digest 11 = .ok (.istore_n 3, 1) := by decide +kernel
theorem dX3_digest_12 : decode cX3_digest 12 = .ok (.iload_n 3, 1) := by decide +kernel
theorem dX3_digest_13 : decode cX3_digest 13 = .ok (.bipush 12, 2) := by decide +kernel
theorem dX3_digest_15 : decode cX3_digest 15 = .ok (.if_icmp .gt 25, 3) := by decide +kernel
theorem dX3_digest_18 : decode cX3_digest 18 = .ok (.ldc2_w 229, 3) := by decide +kernel
theorem dX3_digest_21 : decode cX3_digest 21 = .ok (.lload_n 1, 1) := by decide +kernel
theorem dX3_digest_22 : decode cX3_digest 22 = .ok (.lmul, 1) := by decide +kernel
theorem dX3_digest_23 : decode cX3_digest 23 = .ok (.aload_n 0, 1) := by decide +kernel
theorem dX3_digest_24 : decode cX3_digest 24 = .ok (.getfield 10, 3) := by decide +kernel
theorem dX3_digest_27 : decode cX3_digest 27 = .ok (.iload_n 3, 1) := by decide +kernel
theorem dX3_digest_28 : decode cX3_digest 28 = .ok (.invokevirtual 96, 3) := by decide +kernel
theorem dX3_digest_31 : decode cX3_digest 31 = .ok (.i2l, 1) := by decide +kernel
theorem dX3_digest_32 : decode cX3_digest 32 = .ok (.ladd, 1) := by decide +kernel
theorem dX3_digest_33 : decode cX3_digest 33 = .ok (.lstore_n 1, 1) := by decide +kernel
theorem dX3_digest_34 : decode cX3_digest 34 = .ok (.iinc 3 1, 3) := by decide +kernel
theorem dX3_digest_37 : decode cX3_digest 37 = .ok (.goto (-25), 3) := by decide +kernel
theorem dX3_digest_40 : decode cX3_digest 40 = .ok (.ldc2_w 229, 3) := by decide +kernel
theorem dX3_digest_43 : decode cX3_digest 43 = .ok (.lload_n 1, 1) := by decide +kernel
theorem dX3_digest_44 : decode cX3_digest 44 = .ok (.lmul, 1) := by decide +kernel
theorem dX3_digest_45 : decode cX3_digest 45 = .ok (.aload_n 0, 1) := by decide +kernel
theorem dX3_digest_46 : decode cX3_digest 46 = .ok (.getfield 10, 3) := by decide +kernel
theorem dX3_digest_49 : decode cX3_digest 49 = .ok (.getfield 99, 3) := by decide +kernel
theorem dX3_digest_52 : decode cX3_digest 52 = .ok (.ifCond .eq 7, 3) := by decide +kernel
theorem dX3_digest_55 : decode cX3_digest 55 = .ok (.iconst 1, 1) := by decide +kernel
theorem dX3_digest_56 : decode cX3_digest 56 = .ok (.goto 4, 3) := by decide +kernel
theorem dX3_digest_59 : decode cX3_digest 59 = .ok (.iconst 0, 1) := by decide +kernel
theorem dX3_digest_60 : decode cX3_digest 60 = .ok (.i2l, 1) := by decide +kernel
theorem dX3_digest_61 : decode cX3_digest 61 = .ok (.ladd, 1) := by decide +kernel
theorem dX3_digest_62 : decode cX3_digest 62 = .ok (.lstore_n 1, 1) := by decide +kernel
theorem dX3_digest_63 : decode cX3_digest 63 = .ok (.iconst 0, 1) := by decide +kernel
theorem dX3_digest_64 : decode cX3_digest 64 = .ok (.istore_n 3, 1) := by decide +kernel
theorem dX3_digest_65 : decode cX3_digest 65 = .ok (.iload_n 3, 1) := by decide +kernel
theorem dX3_digest_66 : decode cX3_digest 66 = .ok (.bipush 7, 2) := by decide +kernel
theorem dX3_digest_68 : decode cX3_digest 68 = .ok (.if_icmp .gt 25, 3) := by decide +kernel
theorem dX3_digest_71 : decode cX3_digest 71 = .ok (.ldc2_w 229, 3) := by decide +kernel
theorem dX3_digest_74 : decode cX3_digest 74 = .ok (.lload_n 1, 1) := by decide +kernel
theorem dX3_digest_75 : decode cX3_digest 75 = .ok (.lmul, 1) := by decide +kernel
theorem dX3_digest_76 : decode cX3_digest 76 = .ok (.aload_n 0, 1) := by decide +kernel
theorem dX3_digest_77 : decode cX3_digest 77 = .ok (.getfield 10, 3) := by decide +kernel
theorem dX3_digest_80 : decode cX3_digest 80 = .ok (.iload_n 3, 1) := by decide +kernel
theorem dX3_digest_81 : decode cX3_digest 81 = .ok (.invokevirtual 162, 3) := by decide +kernel
theorem dX3_digest_84 : decode cX3_digest 84 = .ok (.i2l, 1) := by decide +kernel
theorem dX3_digest_85 : decode cX3_digest 85 = .ok (.ladd, 1) := by decide +kernel
theorem dX3_digest_86 : decode cX3_digest 86 = .ok (.lstore_n 1, 1) := by decide +kernel
theorem dX3_digest_87 : decode cX3_digest 87 = .ok (.iinc 3 1, 3) := by decide +kernel
theorem dX3_digest_90 : decode cX3_digest 90 = .ok (.goto (-25), 3) := by decide +kernel
theorem dX3_digest_93 : decode cX3_digest 93 = .ok (.iconst 0, 1) := by decide +kernel
theorem dX3_digest_94 : decode cX3_digest 94 = .ok (.istore_n 3, 1) := by decide +kernel
theorem dX3_digest_95 : decode cX3_digest 95 = .ok (.iload_n 3, 1) := by decide +kernel
theorem dX3_digest_96 : decode cX3_digest 96 = .ok (.bipush 17, 2) := by decide +kernel
theorem dX3_digest_98 : decode cX3_digest 98 = .ok (.if_icmp .gt 25, 3) := by decide +kernel
theorem dX3_digest_101 : decode cX3_digest 101 = .ok (.ldc2_w 229, 3) := by decide +kernel
theorem dX3_digest_104 : decode cX3_digest 104 = .ok (.lload_n 1, 1) := by decide +kernel
theorem dX3_digest_105 : decode cX3_digest 105 = .ok (.lmul, 1) := by decide +kernel
theorem dX3_digest_106 : decode cX3_digest 106 = .ok (.aload_n 0, 1) := by decide +kernel
theorem dX3_digest_107 : decode cX3_digest 107 = .ok (.getfield 10, 3) := by decide +kernel
theorem dX3_digest_110 : decode cX3_digest 110 = .ok (.iload_n 3, 1) := by decide +kernel
theorem dX3_digest_111 : decode cX3_digest 111 = .ok (.invokevirtual 176, 3) := by decide +kernel
theorem dX3_digest_114 : decode cX3_digest 114 = .ok (.i2l, 1) := by decide +kernel
theorem dX3_digest_115 : decode cX3_digest 115 = .ok (.ladd, 1) := by decide +kernel
theorem dX3_digest_116 : decode cX3_digest 116 = .ok (.lstore_n 1, 1) := by decide +kernel
theorem dX3_digest_117 : decode cX3_digest 117 = .ok (.iinc 3 1, 3) := by decide +kernel
theorem dX3_digest_120 : decode cX3_digest 120 = .ok (.goto (-25), 3) := by decide +kernel
theorem dX3_digest_123 : decode cX3_digest 123 = .ok (.aload_n 0, 1) := by decide +kernel
theorem dX3_digest_124 : decode cX3_digest 124 = .ok (.getfield 10, 3) := by decide +kernel
theorem dX3_digest_127 : decode cX3_digest 127 = .ok (.getfield 41, 3) := by decide +kernel
theorem dX3_digest_130 : decode cX3_digest 130 = .ok (.lload_n 1, 1) := by decide +kernel
theorem dX3_digest_131 : decode cX3_digest 131 = .ok (.invokevirtual 231, 3) := by decide +kernel
theorem dX3_digest_134 : decode cX3_digest 134 = .ok (.lstore_n 1, 1) := by decide +kernel
theorem dX3_digest_135 : decode cX3_digest 135 = .ok (.aload_n 0, 1) := by decide +kernel
theorem dX3_digest_136 : decode cX3_digest 136 = .ok (.getfield 10, 3) := by decide +kernel
theorem dX3_digest_139 : decode cX3_digest 139 = .ok (.getfield 51, 3) := by decide +kernel
theorem dX3_digest_142 : decode cX3_digest 142 = .ok (.lload_n 1, 1) := by decide +kernel
theorem dX3_digest_143 : decode cX3_digest 143 = .ok (.invokevirtual 231, 3) := by decide +kernel
theorem dX3_digest_146 : decode cX3_digest 146 = .ok (.lstore_n 1, 1) := by decide +kernel
theorem dX3_digest_147 : decode cX3_digest 147 = .ok (.ldc2_w 229, 3) := by decide +kernel
theorem dX3_digest_150 : decode cX3_digest 150 = .ok (.lload_n 1, 1) := by decide +kernel
theorem dX3_digest_151 : decode cX3_digest 151 = .ok (.lmul, 1) := by decide +kernel
theorem dX3_digest_152 : decode cX3_digest 152 = .ok (.aload_n 0, 1) := by decide +kernel
theorem dX3_digest_153 : decode cX3_digest 153 = .ok (.getfield 22, 3) := by decide +kernel
theorem dX3_digest_156 : decode cX3_digest 156 = .ok (.invokevirtual 221, 3) := by decide +kernel
theorem dX3_digest_159 : decode cX3_digest 159 = .ok (.i2l, 1) := by decide +kernel
theorem dX3_digest_160 : decode cX3_digest 160 = .ok (.ladd, 1) := by decide +kernel
theorem dX3_digest_161 : decode cX3_digest 161 = .ok (.lreturn, 1) := by decide +kernel
theorem dX4_init_0 : decode cX4_init 0 = .ok (.aload_n 0, 1) := by decide +kernel
theorem dX4_init_1 : decode cX4_init 1 = .ok (.invokespecial 1, 3) := by decide +kernel
theorem dX4_init_4 : decode cX4_init 4 = .ok (.aload_n 0, 1) := by decide +kernel
theorem dX4_init_5 : decode cX4_init 5 = .ok (.sipush 1203, 3) := by decide +kernel
theorem dX4_init_8 : decode cX4_init 8 = .ok (.newarray .int, 2) := by decide +kernel
theorem dX4_init_10 : decode cX4_init 10 = .ok (.putfield 7, 3) := by decide +kernel
theorem dX4_init_13 : decode cX4_init 13 = .ok (.aload_n 0, 1) := by decide +kernel
theorem dX4_init_14 : decode cX4_init 14 = .ok (.sipush 4812, 3) := by decide +kernel
theorem dX4_init_17 : decode cX4_init 17 = .ok (.newarray .int, 2) := by decide +kernel
theorem dX4_init_19 : decode cX4_init 19 = .ok (.putfield 13, 3) := by decide +kernel
theorem dX4_init_22 : decode cX4_init 22 = .ok (.aload_n 0, 1) := by decide +kernel
theorem dX4_init_23 : decode cX4_init 23 = .ok (.sipush 1203, 3) := by decide +kernel
theorem dX4_init_26 : decode cX4_init 26 = .ok (.newarray .int, 2) := by decide +kernel
theorem dX4_init_28 : decode cX4_init 28 = .ok (.putfield 16, 3) := by decide +kernel
theorem dX4_init_31 : decode cX4_init 31 = .ok (.aload_n 0, 1) := by decide +kernel
theorem dX4_init_32 : decode cX4_init 32 = .ok (.bipush 80, 2) := by decide +kernel
theorem dX4_init_34 : decode cX4_init 34 = .ok (.newarray .int, 2) := by decide +kernel
theorem dX4_init_36 : decode cX4_init 36 = .ok (.putfield 19, 3) := by decide +kernel
theorem dX4_init_39 : decode cX4_init 39 = .ok (.aload_n 0, 1) := by decide +kernel
theorem dX4_init_40 : decode cX4_init 40 = .ok (.getfield 7, 3) := by decide +kernel
theorem dX4_init_43 : decode cX4_init 43 = .ok (.iconst 0, 1) := by decide +kernel
theorem dX4_init_44 : decode cX4_init 44 = .ok (.iconst 5, 1) := by decide +kernel
theorem dX4_init_45 : decode cX4_init 45 = .ok (.iastore, 1) := by decide +kernel
theorem dX4_init_46 : decode cX4_init 46 = .ok (.aload_n 0, 1) := by decide +kernel
theorem dX4_init_47 : decode cX4_init 47 = .ok (.getfield 7, 3) := by decide +kernel
theorem dX4_init_50 : decode cX4_init 50 = .ok (.iconst 1, 1) := by decide +kernel
theorem dX4_init_51 : decode cX4_init 51 = .ok (.bipush 8, 2) := by decide +kernel
theorem dX4_init_53 : decode cX4_init 53 = .ok (.iastore, 1) := by decide +kernel
theorem dX4_init_54 : decode cX4_init 54 = .ok (.aload_n 0, 1) := by decide +kernel
theorem dX4_init_55 : decode cX4_init 55 = .ok (.getfield 7, 3) := by decide +kernel
theorem dX4_init_58 : decode cX4_init 58 = .ok (.iconst 2, 1) := by decide +kernel
theorem dX4_init_59 : decode cX4_init 59 = .ok (.iconst 4, 1) := by decide +kernel
theorem dX4_init_60 : decode cX4_init 60 = .ok (.iastore, 1) := by decide +kernel
theorem dX4_init_61 : decode cX4_init 61 = .ok (.aload_n 0, 1) := by decide +kernel
theorem dX4_init_62 : decode cX4_init 62 = .ok (.getfield 7, 3) := by decide +kernel
theorem dX4_init_65 : decode cX4_init 65 = .ok (.iconst 3, 1) := by decide +kernel
theorem dX4_init_66 : decode cX4_init 66 = .ok (.bipush 10, 2) := by decide +kernel
theorem dX4_init_68 : decode cX4_init 68 = .ok (.iastore, 1) := by decide +kernel
theorem dX4_init_69 : decode cX4_init 69 = .ok (.aload_n 0, 1) := by decide +kernel
theorem dX4_init_70 : decode cX4_init 70 = .ok (.getfield 7, 3) := by decide +kernel
theorem dX4_init_73 : decode cX4_init 73 = .ok (.iconst 4, 1) := by decide +kernel
