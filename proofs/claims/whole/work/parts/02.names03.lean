theorem dX1_staysInRegister_149 : decode cX1_staysInRegister 149 = .ok (.ireturn, 1) := by decide +kernel
set_option maxRecDepth 20000 in
theorem ggX1_labelerActs_X1_setting : GoodIn wsX1_labelerActs wsX1_setting := goodIn_r _ [8, 9, 48, 49, 50, 51, 52, 53, 54, 55, 56, 57, 58, 59, 60, 61, 62, 63] (by decide +kernel) (by decide +kernel)
set_option maxRecDepth 20000 in
theorem gX1_labelerActs_X1_setting : GoodIn wsX1_labelerActs (wsV RX1 84 RX1 yX1_setting wsX1_setting) := goodIn_app (goodIn_of _ (by decide +kernel)) ggX1_labelerActs_X1_setting
set_option maxRecDepth 20000 in
theorem ggX1_labelerActs_X2_put : GoodIn wsX1_labelerActs wsX2_put := goodIn_r _ [14, 15, 16, 64, 65, 66, 67] (by decide +kernel) (by decide +kernel)
set_option maxRecDepth 20000 in
theorem gX1_labelerActs_X2_put : GoodIn wsX1_labelerActs (wsV RX1 108 RX2 yX2_put wsX2_put) := goodIn_app (goodIn_of _ (by decide +kernel)) ggX1_labelerActs_X2_put
set_option maxRecDepth 20000 in
theorem ggX1_labelerActs_X1_putSetting : GoodIn wsX1_labelerActs wsX1_putSetting := goodIn_r _ [20, 9, 48, 49, 50, 51, 52, 53, 54, 55, 56, 57, 58, 59, 60, 61, 62, 63] (by decide +kernel) (by decide +kernel)
set_option maxRecDepth 20000 in
theorem gX1_labelerActs_X1_putSetting : GoodIn wsX1_labelerActs (wsV RX1 174 RX1 yX1_putSetting wsX1_putSetting) := goodIn_app (goodIn_of _ (by decide +kernel)) ggX1_labelerActs_X1_putSetting
set_option maxRecDepth 20000 in
theorem ggX1_labelerActs_X1_itemAt : GoodIn wsX1_labelerActs wsX1_itemAt := goodIn_r _ [24, 3, 25, 26, 27, 28, 29, 30, 31, 7, 32, 33, 4, 5, 6, 8, 9, 34, 35, 36, 13, 37, 38, 39, 40, 41, 42, 15, 16, 48, 49, 50, 51, 52, 53, 54, 55, 56, 57, 58, 59, 60, 61, 62, 63, 64, 65, 66, 67] (by decide +kernel) (by decide +kernel)
set_option maxRecDepth 20000 in
theorem gX1_labelerActs_X1_itemAt : GoodIn wsX1_labelerActs (wsV RX1 177 RX1 yX1_itemAt wsX1_itemAt) := goodIn_app (goodIn_of _ (by decide +kernel)) ggX1_labelerActs_X1_itemAt
set_option maxRecDepth 20000 in
theorem ggX1_labelerActs_X1_count : GoodIn wsX1_labelerActs wsX1_count := goodIn_r _ [46, 47, 48, 49, 50, 51, 52, 53, 54, 55, 56, 57, 58, 59, 60, 61, 62, 63] (by decide +kernel) (by decide +kernel)
set_option maxRecDepth 20000 in
theorem gX1_labelerActs_X1_count : GoodIn wsX1_labelerActs (wsV RX1 102 RX1 yX1_count wsX1_count) := goodIn_app (goodIn_of _ (by decide +kernel)) ggX1_labelerActs_X1_count
theorem dX1_labelerActs_0 : decode cX1_labelerActs 0 = .ok (.aload_n 0, 1) := by decide +kernel
theorem dX1_labelerActs_1 : decode cX1_labelerActs 1 = .ok (.getfield 53, 3) := by decide +kernel
theorem dX1_labelerActs_4 : decode cX1_labelerActs 4 = .ok (.ifCond .ne 12, 3) := by decide +kernel
theorem dX1_labelerActs_7 : decode cX1_labelerActs 7 = .ok (.aload_n 0, 1) := by decide +kernel
theorem dX1_labelerActs_8 : decode cX1_labelerActs 8 = .ok (.bipush 6, 2) := by decide +kernel
theorem dX1_labelerActs_10 : decode cX1_labelerActs 10 = .ok (.invokevirtual 84, 3) := by decide +kernel
theorem dX1_labelerActs_13 : decode cX1_labelerActs 13 = .ok (.ifCond .ne 14, 3) := by decide +kernel
theorem dX1_labelerActs_16 : decode cX1_labelerActs 16 = .ok (.aload_n 0, 1) := by decide +kernel
theorem dX1_labelerActs_17 : decode cX1_labelerActs 17 = .ok (.getfield 30, 3) := by decide +kernel
theorem dX1_labelerActs_20 : decode cX1_labelerActs 20 = .ok (.iload_n 1, 1) := by decide +kernel
theorem dX1_labelerActs_21 : decode cX1_labelerActs 21 = .ok (.iconst 3, 1) := by decide +kernel
theorem dX1_labelerActs_22 : decode cX1_labelerActs 22 = .ok (.iconst 1, 1) := by decide +kernel
theorem dX1_labelerActs_23 : decode cX1_labelerActs 23 = .ok (.invokevirtual 108, 3) := by decide +kernel
theorem dX1_labelerActs_26 : decode cX1_labelerActs 26 = .ok (.return_, 1) := by decide +kernel
theorem dX1_labelerActs_27 : decode cX1_labelerActs 27 = .ok (.aload_n 0, 1) := by decide +kernel
theorem dX1_labelerActs_28 : decode cX1_labelerActs 28 = .ok (.bipush 6, 2) := by decide +kernel
theorem dX1_labelerActs_30 : decode cX1_labelerActs 30 = .ok (.aload_n 0, 1) := by decide +kernel
theorem dX1_labelerActs_31 : decode cX1_labelerActs 31 = .ok (.bipush 6, 2) := by decide +kernel
theorem dX1_labelerActs_33 : decode cX1_labelerActs 33 = .ok (.invokevirtual 84, 3) := by decide +kernel
theorem dX1_labelerActs_36 : decode cX1_labelerActs 36 = .ok (.iconst 1, 1) := by decide +kernel
theorem dX1_labelerActs_37 : decode cX1_labelerActs 37 = .ok (.isub, 1) := by decide +kernel
theorem dX1_labelerActs_38 : decode cX1_labelerActs 38 = .ok (.invokevirtual 174, 3) := by decide +kernel
theorem dX1_labelerActs_41 : decode cX1_labelerActs 41 = .ok (.aload_n 0, 1) := by decide +kernel
theorem dX1_labelerActs_42 : decode cX1_labelerActs 42 = .ok (.iconst 0, 1) := by decide +kernel
theorem dX1_labelerActs_43 : decode cX1_labelerActs 43 = .ok (.invokevirtual 177, 3) := by decide +kernel
theorem dX1_labelerActs_46 : decode cX1_labelerActs 46 = .ok (.istore_n 2, 1) := by decide +kernel
theorem dX1_labelerActs_47 : decode cX1_labelerActs 47 = .ok (.iload_n 2, 1) := by decide +kernel
theorem dX1_labelerActs_48 : decode cX1_labelerActs 48 = .ok (.iconst (-1), 1) := by decide +kernel
theorem dX1_labelerActs_49 : decode cX1_labelerActs 49 = .ok (.if_icmp .ne 11, 3) := by decide +kernel
theorem dX1_labelerActs_52 : decode cX1_labelerActs 52 = .ok (.aload_n 0, 1) := by decide +kernel
theorem dX1_labelerActs_53 : decode cX1_labelerActs 53 = .ok (.iconst 5, 1) := by decide +kernel
theorem dX1_labelerActs_54 : decode cX1_labelerActs 54 = .ok (.invokevirtual 102, 3) := by decide +kernel
theorem dX1_labelerActs_57 : decode cX1_labelerActs 57 = .ok (.goto 13, 3) := by decide +kernel
theorem dX1_labelerActs_60 : decode cX1_labelerActs 60 = .ok (.aload_n 0, 1) := by decide +kernel
theorem dX1_labelerActs_61 : decode cX1_labelerActs 61 = .ok (.getfield 26, 3) := by decide +kernel
theorem dX1_labelerActs_64 : decode cX1_labelerActs 64 = .ok (.iload_n 2, 1) := by decide +kernel
theorem dX1_labelerActs_65 : decode cX1_labelerActs 65 = .ok (.iconst 3, 1) := by decide +kernel
theorem dX1_labelerActs_66 : decode cX1_labelerActs 66 = .ok (.iconst 1, 1) := by decide +kernel
theorem dX1_labelerActs_67 : decode cX1_labelerActs 67 = .ok (.invokevirtual 108, 3) := by decide +kernel
theorem dX1_labelerActs_70 : decode cX1_labelerActs 70 = .ok (.return_, 1) := by decide +kernel
set_option maxRecDepth 20000 in
theorem ggX1_cameraActs_X1_setting : GoodIn wsX1_cameraActs wsX1_setting := goodIn_r _ [8, 9, 50, 51, 52, 53, 54, 55, 56, 57, 58, 59, 60, 61, 62, 63, 64, 65] (by decide +kernel) (by decide +kernel)
set_option maxRecDepth 20000 in
theorem gX1_cameraActs_X1_setting : GoodIn wsX1_cameraActs (wsV RX1 84 RX1 yX1_setting wsX1_setting) := goodIn_app (goodIn_of _ (by decide +kernel)) ggX1_cameraActs_X1_setting
set_option maxRecDepth 20000 in
theorem ggX1_cameraActs_X2_addRow : GoodIn wsX1_cameraActs wsX2_addRow := goodIn_r _ [14, 15, 16, 17, 18, 19, 20, 13, 21, 22, 66, 67, 68, 69] (by decide +kernel) (by decide +kernel)
set_option maxRecDepth 20000 in
theorem gX1_cameraActs_X2_addRow : GoodIn wsX1_cameraActs (wsV RX1 105 RX2 yX2_addRow wsX2_addRow) := goodIn_app (goodIn_of _ (by decide +kernel)) ggX1_cameraActs_X2_addRow
set_option maxRecDepth 20000 in
theorem ggX1_cameraActs_X2_get : GoodIn wsX1_cameraActs wsX2_get := goodIn_r _ [26, 17, 22, 66, 67, 68, 69] (by decide +kernel) (by decide +kernel)
set_option maxRecDepth 20000 in
theorem gX1_cameraActs_X2_get : GoodIn wsX1_cameraActs (wsV RX1 124 RX2 yX2_get wsX2_get) := goodIn_app (goodIn_of _ (by decide +kernel)) ggX1_cameraActs_X2_get
set_option maxRecDepth 20000 in
theorem ggX1_cameraActs_X2_put : GoodIn wsX1_cameraActs wsX2_put := goodIn_r _ [21, 17, 22, 66, 67, 68, 69] (by decide +kernel) (by decide +kernel)
set_option maxRecDepth 20000 in
theorem gX1_cameraActs_X2_put : GoodIn wsX1_cameraActs (wsV RX1 108 RX2 yX2_put wsX2_put) := goodIn_app (goodIn_of _ (by decide +kernel)) ggX1_cameraActs_X2_put
set_option maxRecDepth 20000 in
theorem ggX1_cameraActs_X1_itemAt : GoodIn wsX1_cameraActs wsX1_itemAt := goodIn_r _ [31, 32, 33, 34, 35, 36, 37, 38, 39, 7, 40, 41, 4, 5, 6, 8, 9, 42, 43, 44, 13, 45, 15, 23, 24, 25, 26, 17, 22, 50, 51, 52, 53, 54, 55, 56, 57, 58, 59, 60, 61, 62, 63, 64, 65, 66, 67, 68, 69] (by decide +kernel) (by decide +kernel)
set_option maxRecDepth 20000 in
theorem gX1_cameraActs_X1_itemAt : GoodIn wsX1_cameraActs (wsV RX1 177 RX1 yX1_itemAt wsX1_itemAt) := goodIn_app (goodIn_of _ (by decide +kernel)) ggX1_cameraActs_X1_itemAt
set_option maxRecDepth 20000 in
theorem ggX1_cameraActs_X1_seen : GoodIn wsX1_cameraActs wsX1_seen := goodIn_r _ [49, 32, 23, 24, 25, 13, 26, 17, 22, 50, 51, 52, 53, 54, 55, 56, 57, 58, 59, 60, 61, 62, 63, 64, 65, 66, 67, 68, 69] (by decide +kernel) (by decide +kernel)
set_option maxRecDepth 20000 in
theorem gX1_cameraActs_X1_seen : GoodIn wsX1_cameraActs (wsV RX1 180 RX1 yX1_seen wsX1_seen) := goodIn_app (goodIn_of _ (by decide +kernel)) ggX1_cameraActs_X1_seen
theorem dX1_cameraActs_0 : decode cX1_cameraActs 0 = .ok (.aload_n 0, 1) := by decide +kernel
theorem dX1_cameraActs_1 : decode cX1_cameraActs 1 = .ok (.getfield 33, 3) := by decide +kernel
theorem dX1_cameraActs_4 : decode cX1_cameraActs 4 = .ok (.aload_n 0, 1) := by decide +kernel
theorem dX1_cameraActs_5 : decode cX1_cameraActs 5 = .ok (.getfield 42, 3) := by decide +kernel
theorem dX1_cameraActs_8 : decode cX1_cameraActs 8 = .ok (.aload_n 0, 1) := by decide +kernel
theorem dX1_cameraActs_9 : decode cX1_cameraActs 9 = .ok (.iconst 1, 1) := by decide +kernel
theorem dX1_cameraActs_10 : decode cX1_cameraActs 10 = .ok (.invokevirtual 84, 3) := by decide +kernel
theorem dX1_cameraActs_13 : decode cX1_cameraActs 13 = .ok (.iadd, 1) := by decide +kernel
theorem dX1_cameraActs_14 : decode cX1_cameraActs 14 = .ok (.invokevirtual 105, 3) := by decide +kernel
theorem dX1_cameraActs_17 : decode cX1_cameraActs 17 = .ok (.istore_n 3, 1) := by decide +kernel
theorem dX1_cameraActs_18 : decode cX1_cameraActs 18 = .ok (.aload_n 0, 1) := by decide +kernel
theorem dX1_cameraActs_19 : decode cX1_cameraActs 19 = .ok (.getfield 33, 3) := by decide +kernel
theorem dX1_cameraActs_22 : decode cX1_cameraActs 22 = .ok (.iload_n 3, 1) := by decide +kernel
theorem dX1_cameraActs_23 : decode cX1_cameraActs 23 = .ok (.iconst 1, 1) := by decide +kernel
theorem dX1_cameraActs_24 : decode cX1_cameraActs 24 = .ok (.aload_n 0, 1) := by decide +kernel
theorem dX1_cameraActs_25 : decode cX1_cameraActs 25 = .ok (.getfield 30, 3) := by decide +kernel
theorem dX1_cameraActs_28 : decode cX1_cameraActs 28 = .ok (.iload_n 1, 1) := by decide +kernel
theorem dX1_cameraActs_29 : decode cX1_cameraActs 29 = .ok (.iconst 0, 1) := by decide +kernel
theorem dX1_cameraActs_30 : decode cX1_cameraActs 30 = .ok (.invokevirtual 124, 3) := by decide +kernel
theorem dX1_cameraActs_33 : decode cX1_cameraActs 33 = .ok (.invokevirtual 108, 3) := by decide +kernel
theorem dX1_cameraActs_36 : decode cX1_cameraActs 36 = .ok (.aload_n 0, 1) := by decide +kernel
theorem dX1_cameraActs_37 : decode cX1_cameraActs 37 = .ok (.getfield 33, 3) := by decide +kernel
theorem dX1_cameraActs_40 : decode cX1_cameraActs 40 = .ok (.iload_n 3, 1) := by decide +kernel
theorem dX1_cameraActs_41 : decode cX1_cameraActs 41 = .ok (.iconst 2, 1) := by decide +kernel
theorem dX1_cameraActs_42 : decode cX1_cameraActs 42 = .ok (.iload_n 2, 1) := by decide +kernel
theorem dX1_cameraActs_43 : decode cX1_cameraActs 43 = .ok (.ifCond .eq 7, 3) := by decide +kernel
theorem dX1_cameraActs_46 : decode cX1_cameraActs 46 = .ok (.iconst 1, 1) := by decide +kernel
theorem dX1_cameraActs_47 : decode cX1_cameraActs 47 = .ok (.goto 4, 3) := by decide +kernel
theorem dX1_cameraActs_50 : decode cX1_cameraActs 50 = .ok (.iconst 0, 1) := by decide +kernel
theorem dX1_cameraActs_51 : decode cX1_cameraActs 51 = .ok (.invokevirtual 108, 3) := by decide +kernel
theorem dX1_cameraActs_54 : decode cX1_cameraActs 54 = .ok (.aload_n 0, 1) := by decide +kernel
theorem dX1_cameraActs_55 : decode cX1_cameraActs 55 = .ok (.getfield 33, 3) := by decide +kernel
theorem dX1_cameraActs_58 : decode cX1_cameraActs 58 = .ok (.iload_n 3, 1) := by decide +kernel
theorem dX1_cameraActs_59 : decode cX1_cameraActs 59 = .ok (.iconst 3, 1) := by decide +kernel
theorem dX1_cameraActs_60 : decode cX1_cameraActs 60 = .ok (.aload_n 0, 1) := by decide +kernel
theorem dX1_cameraActs_61 : decode cX1_cameraActs 61 = .ok (.aload_n 0, 1) := by decide +kernel
theorem dX1_cameraActs_62 : decode cX1_cameraActs 62 = .ok (.iload_n 2, 1) := by decide +kernel
theorem dX1_cameraActs_63 : decode cX1_cameraActs 63 = .ok (.ifCond .eq 7, 3) := by decide +kernel
theorem dX1_cameraActs_66 : decode cX1_cameraActs 66 = .ok (.iconst 2, 1) := by decide +kernel
theorem dX1_cameraActs_67 : decode cX1_cameraActs 67 = .ok (.goto 4, 3) := by decide +kernel
theorem dX1_cameraActs_70 : decode cX1_cameraActs 70 = .ok (.iconst 1, 1) := by decide +kernel
theorem dX1_cameraActs_71 : decode cX1_cameraActs 71 = .ok (.invokevirtual 177, 3) := by decide +kernel
theorem dX1_cameraActs_74 : decode cX1_cameraActs 74 = .ok (.iload_n 2, 1) := by decide +kernel
theorem dX1_cameraActs_75 : decode cX1_cameraActs 75 = .ok (.invokevirtual 180, 3) := by decide +kernel
theorem dX1_cameraActs_78 : decode cX1_cameraActs 78 = .ok (.invokevirtual 108, 3) := by decide +kernel
theorem dX1_cameraActs_81 : decode cX1_cameraActs 81 = .ok (.return_, 1) := by decide +kernel
set_option maxRecDepth 20000 in
theorem ggX1_seen_X2_get : GoodIn wsX1_seen wsX2_get := goodIn_r _ [6, 7, 8, 25, 26, 27, 28] (by decide +kernel) (by decide +kernel)
set_option maxRecDepth 20000 in
theorem gX1_seen_X2_get : GoodIn wsX1_seen (wsV RX1 124 RX2 yX2_get wsX2_get) := goodIn_app (goodIn_of _ (by decide +kernel)) ggX1_seen_X2_get
theorem dX1_seen_0 : decode cX1_seen 0 = .ok (.iload_n 1, 1) := by decide +kernel
theorem dX1_seen_1 : decode cX1_seen 1 = .ok (.iconst (-1), 1) := by decide +kernel
theorem dX1_seen_2 : decode cX1_seen 2 = .ok (.if_icmp .eq 15, 3) := by decide +kernel
theorem dX1_seen_5 : decode cX1_seen 5 = .ok (.aload_n 0, 1) := by decide +kernel
theorem dX1_seen_6 : decode cX1_seen 6 = .ok (.getfield 26, 3) := by decide +kernel
theorem dX1_seen_9 : decode cX1_seen 9 = .ok (.iload_n 1, 1) := by decide +kernel
theorem dX1_seen_10 : decode cX1_seen 10 = .ok (.iconst 3, 1) := by decide +kernel
theorem dX1_seen_11 : decode cX1_seen 11 = .ok (.invokevirtual 124, 3) := by decide +kernel
theorem dX1_seen_14 : decode cX1_seen 14 = .ok (.ifCond .ne 5, 3) := by decide +kernel
theorem dX1_seen_17 : decode cX1_seen 17 = .ok (.iconst 2, 1) := by decide +kernel
theorem dX1_seen_18 : decode cX1_seen 18 = .ok (.ireturn, 1) := by decide +kernel
theorem dX1_seen_19 : decode cX1_seen 19 = .ok (.aload_n 0, 1) := by decide +kernel
theorem dX1_seen_20 : decode cX1_seen 20 = .ok (.getfield 26, 3) := by decide +kernel
theorem dX1_seen_23 : decode cX1_seen 23 = .ok (.iload_n 1, 1) := by decide +kernel
theorem dX1_seen_24 : decode cX1_seen 24 = .ok (.iconst 2, 1) := by decide +kernel
theorem dX1_seen_25 : decode cX1_seen 25 = .ok (.invokevirtual 124, 3) := by decide +kernel
theorem dX1_seen_28 : decode cX1_seen 28 = .ok (.tableswitch 46 0 3 #[32, 46, 34, 44], 32) := by decide +kernel
theorem dX1_seen_60 : decode cX1_seen 60 = .ok (.iconst 1, 1) := by decide +kernel
theorem dX1_seen_61 : decode cX1_seen 61 = .ok (.ireturn, 1) := by decide +kernel
theorem dX1_seen_62 : decode cX1_seen 62 = .ok (.iload_n 2, 1) := by decide +kernel
theorem dX1_seen_63 : decode cX1_seen 63 = .ok (.ifCond .eq 7, 3) := by decide +kernel
theorem dX1_seen_66 : decode cX1_seen 66 = .ok (.iconst 1, 1) := by decide +kernel
theorem dX1_seen_67 : decode cX1_seen 67 = .ok (.goto 4, 3) := by decide +kernel
theorem dX1_seen_70 : decode cX1_seen 70 = .ok (.iconst 3, 1) := by decide +kernel
theorem dX1_seen_71 : decode cX1_seen 71 = .ok (.ireturn, 1) := by decide +kernel
theorem dX1_seen_72 : decode cX1_seen 72 = .ok (.iconst 3, 1) := by decide +kernel
theorem dX1_seen_73 : decode cX1_seen 73 = .ok (.ireturn, 1) := by decide +kernel
theorem dX1_seen_74 : decode cX1_seen 74 = .ok (.iconst 2, 1) := by decide +kernel
theorem dX1_seen_75 : decode cX1_seen 75 = .ok (.ireturn, 1) := by decide +kernel
set_option maxRecDepth 20000 in
theorem ggX1_mayPass_X2_get : GoodIn wsX1_mayPass wsX2_get := goodIn_r _ [6, 7, 8, 25, 26, 27, 28] (by decide +kernel) (by decide +kernel)
set_option maxRecDepth 20000 in
theorem gX1_mayPass_X2_get : GoodIn wsX1_mayPass (wsV RX1 124 RX2 yX2_get wsX2_get) := goodIn_app (goodIn_of _ (by decide +kernel)) ggX1_mayPass_X2_get
theorem dX1_mayPass_0 : decode cX1_mayPass 0 = .ok (.aload_n 0, 1) := by decide +kernel
theorem dX1_mayPass_1 : decode cX1_mayPass 1 = .ok (.getfield 30, 3) := by decide +kernel
theorem dX1_mayPass_4 : decode cX1_mayPass 4 = .ok (.iload_n 1, 1) := by decide +kernel
theorem dX1_mayPass_5 : decode cX1_mayPass 5 = .ok (.iconst 2, 1) := by decide +kernel
theorem dX1_mayPass_6 : decode cX1_mayPass 6 = .ok (.invokevirtual 124, 3) := by decide +kernel
theorem dX1_mayPass_9 : decode cX1_mayPass 9 = .ok (.iconst 1, 1) := by decide +kernel
theorem dX1_mayPass_10 : decode cX1_mayPass 10 = .ok (.if_icmp .ne 19, 3) := by decide +kernel
theorem dX1_mayPass_13 : decode cX1_mayPass 13 = .ok (.aload_n 0, 1) := by decide +kernel
theorem dX1_mayPass_14 : decode cX1_mayPass 14 = .ok (.getfield 30, 3) := by decide +kernel
theorem dX1_mayPass_17 : decode cX1_mayPass 17 = .ok (.iload_n 1, 1) := by decide +kernel
theorem dX1_mayPass_18 : decode cX1_mayPass 18 = .ok (.iconst 3, 1) := by decide +kernel
theorem dX1_mayPass_19 : decode cX1_mayPass 19 = .ok (.invokevirtual 124, 3) := by decide +kernel
theorem dX1_mayPass_22 : decode cX1_mayPass 22 = .ok (.ifCond .ne 7, 3) := by decide +kernel
theorem dX1_mayPass_25 : decode cX1_mayPass 25 = .ok (.iconst 1, 1) := by decide +kernel
theorem dX1_mayPass_26 : decode cX1_mayPass 26 = .ok (.goto 4, 3) := by decide +kernel
theorem dX1_mayPass_29 : decode cX1_mayPass 29 = .ok (.iconst 0, 1) := by decide +kernel
theorem dX1_mayPass_30 : decode cX1_mayPass 30 = .ok (.ireturn, 1) := by decide +kernel
set_option maxRecDepth 20000 in
theorem ggX1_pass_X2_put : GoodIn wsX1_pass wsX2_put := goodIn_r _ [7, 8, 9, 26, 27, 28, 29] (by decide +kernel) (by decide +kernel)
set_option maxRecDepth 20000 in
theorem gX1_pass_X2_put : GoodIn wsX1_pass (wsV RX1 108 RX2 yX2_put wsX2_put) := goodIn_app (goodIn_of _ (by decide +kernel)) ggX1_pass_X2_put
theorem dX1_pass_0 : decode cX1_pass 0 = .ok (.aload_n 0, 1) := by decide +kernel
theorem dX1_pass_1 : decode cX1_pass 1 = .ok (.getfield 30, 3) := by decide +kernel
theorem dX1_pass_4 : decode cX1_pass 4 = .ok (.iload_n 1, 1) := by decide +kernel
theorem dX1_pass_5 : decode cX1_pass 5 = .ok (.iconst 4, 1) := by decide +kernel
theorem dX1_pass_6 : decode cX1_pass 6 = .ok (.iconst 1, 1) := by decide +kernel
theorem dX1_pass_7 : decode cX1_pass 7 = .ok (.invokevirtual 108, 3) := by decide +kernel
theorem dX1_pass_10 : decode cX1_pass 10 = .ok (.aload_n 0, 1) := by decide +kernel
theorem dX1_pass_11 : decode cX1_pass 11 = .ok (.iconst 0, 1) := by decide +kernel
theorem dX1_pass_12 : decode cX1_pass 12 = .ok (.putfield 56, 3) := by decide +kernel
theorem dX1_pass_15 : decode cX1_pass 15 = .ok (.return_, 1) := by decide +kernel
set_option maxRecDepth 20000 in
theorem ggX1_reject_X1_causeOf : GoodIn wsX1_reject wsX1_causeOf := goodIn_r _ [11, 12, 13, 14, 15, 16, 17, 18, 19, 73, 74, 75, 76, 77, 78, 79, 80, 81, 82, 83, 84, 85, 86, 87, 88, 89, 90, 91, 92] (by decide +kernel) (by decide +kernel)
set_option maxRecDepth 20000 in
theorem gX1_reject_X1_causeOf : GoodIn wsX1_reject (wsV RX1 184 RX1 yX1_causeOf wsX1_causeOf) := goodIn_app (goodIn_of _ (by decide +kernel)) ggX1_reject_X1_causeOf
set_option maxRecDepth 20000 in
theorem ggX1_reject_X1_count : GoodIn wsX1_reject wsX1_count := goodIn_r _ [23, 24, 73, 74, 75, 76, 77, 78, 79, 80, 81, 82, 83, 84, 85, 86, 87, 88] (by decide +kernel) (by decide +kernel)
set_option maxRecDepth 20000 in
theorem gX1_reject_X1_count : GoodIn wsX1_reject (wsV RX1 102 RX1 yX1_count wsX1_count) := goodIn_app (goodIn_of _ (by decide +kernel)) ggX1_reject_X1_count
set_option maxRecDepth 20000 in
theorem ggX1_reject_X1_leaveRegister : GoodIn wsX1_reject wsX1_leaveRegister := goodIn_r _ [28, 12, 29, 30, 13, 14, 15, 16, 17, 18, 19, 20, 21, 22, 10, 23, 24, 31, 32, 33, 34, 35, 73, 74, 75, 76, 77, 78, 79, 80, 81, 82, 83, 84, 85, 86, 87, 88, 89, 90, 91, 92] (by decide +kernel) (by decide +kernel)
set_option maxRecDepth 20000 in
theorem gX1_reject_X1_leaveRegister : GoodIn wsX1_reject (wsV RX1 171 RX1 yX1_leaveRegister wsX1_leaveRegister) := goodIn_app (goodIn_of _ (by decide +kernel)) ggX1_reject_X1_leaveRegister
set_option maxRecDepth 20000 in
theorem ggX1_reject_X1_itemAt : GoodIn wsX1_reject wsX1_itemAt := goodIn_r _ [39, 1, 40, 41, 42, 43, 44, 45, 46, 10, 47, 48, 49, 50, 51, 52, 53, 54, 55, 56, 16, 57, 35, 13, 14, 15, 17, 18, 19, 73, 74, 75, 76, 77, 78, 79, 80, 81, 82, 83, 84, 85, 86, 87, 88, 89, 90, 91, 92] (by decide +kernel) (by decide +kernel)
set_option maxRecDepth 20000 in
theorem gX1_reject_X1_itemAt : GoodIn wsX1_reject (wsV RX1 177 RX1 yX1_itemAt wsX1_itemAt) := goodIn_app (goodIn_of _ (by decide +kernel)) ggX1_reject_X1_itemAt
set_option maxRecDepth 20000 in
theorem ggX1_reject_X2_removeRow : GoodIn wsX1_reject wsX2_removeRow := goodIn_r _ [34, 35, 18, 19, 89, 90, 91, 92] (by decide +kernel) (by decide +kernel)
set_option maxRecDepth 20000 in
theorem gX1_reject_X2_removeRow : GoodIn wsX1_reject (wsV RX1 142 RX2 yX2_removeRow wsX2_removeRow) := goodIn_app (goodIn_of _ (by decide +kernel)) ggX1_reject_X2_removeRow
set_option maxRecDepth 20000 in
theorem ggX1_reject_X1_setting : GoodIn wsX1_reject wsX1_setting := goodIn_r _ [52, 53, 73, 74, 75, 76, 77, 78, 79, 80, 81, 82, 83, 84, 85, 86, 87, 88] (by decide +kernel) (by decide +kernel)
set_option maxRecDepth 20000 in
theorem gX1_reject_X1_setting : GoodIn wsX1_reject (wsV RX1 84 RX1 yX1_setting wsX1_setting) := goodIn_app (goodIn_of _ (by decide +kernel)) ggX1_reject_X1_setting
set_option maxRecDepth 20000 in
theorem ggX1_reject_X2_addRow : GoodIn wsX1_reject wsX2_addRow := goodIn_r _ [61, 35, 62, 18, 63, 64, 65, 16, 66, 19, 89, 90, 91, 92] (by decide +kernel) (by decide +kernel)
set_option maxRecDepth 20000 in
theorem gX1_reject_X2_addRow : GoodIn wsX1_reject (wsV RX1 105 RX2 yX2_addRow wsX2_addRow) := goodIn_app (goodIn_of _ (by decide +kernel)) ggX1_reject_X2_addRow
set_option maxRecDepth 20000 in
theorem ggX1_reject_X1_raise : GoodIn wsX1_reject wsX1_raise := goodIn_r _ [70, 71, 72, 20, 21, 22, 10, 23, 24, 73, 74, 75, 76, 77, 78, 79, 80, 81, 82, 83, 84, 85, 86, 87, 88] (by decide +kernel) (by decide +kernel)
set_option maxRecDepth 20000 in
theorem gX1_reject_X1_raise : GoodIn wsX1_reject (wsV RX1 139 RX1 yX1_raise wsX1_raise) := goodIn_app (goodIn_of _ (by decide +kernel)) ggX1_reject_X1_raise
theorem dX1_reject_0 : decode cX1_reject 0 = .ok (.aload_n 0, 1) := by decide +kernel
theorem dX1_reject_1 : decode cX1_reject 1 = .ok (.aload_n 0, 1) := by decide +kernel
theorem dX1_reject_2 : decode cX1_reject 2 = .ok (.iload_n 1, 1) := by decide +kernel
theorem dX1_reject_3 : decode cX1_reject 3 = .ok (.invokevirtual 184, 3) := by decide +kernel
theorem dX1_reject_6 : decode cX1_reject 6 = .ok (.invokevirtual 102, 3) := by decide +kernel
theorem dX1_reject_9 : decode cX1_reject 9 = .ok (.aload_n 0, 1) := by decide +kernel
theorem dX1_reject_10 : decode cX1_reject 10 = .ok (.iload_n 1, 1) := by decide +kernel
theorem dX1_reject_11 : decode cX1_reject 11 = .ok (.iconst 2, 1) := by decide +kernel
theorem dX1_reject_12 : decode cX1_reject 12 = .ok (.invokevirtual 171, 3) := by decide +kernel
theorem dX1_reject_15 : decode cX1_reject 15 = .ok (.aload_n 0, 1) := by decide +kernel
theorem dX1_reject_16 : decode cX1_reject 16 = .ok (.iconst 3, 1) := by decide +kernel
theorem dX1_reject_17 : decode cX1_reject 17 = .ok (.invokevirtual 177, 3) := by decide +kernel
theorem dX1_reject_20 : decode cX1_reject 20 = .ok (.istore_n 2, 1) := by decide +kernel
theorem dX1_reject_21 : decode cX1_reject 21 = .ok (.iload_n 2, 1) := by decide +kernel
theorem dX1_reject_22 : decode cX1_reject 22 = .ok (.iconst (-1), 1) := by decide +kernel
theorem dX1_reject_23 : decode cX1_reject 23 = .ok (.if_icmp .eq 39, 3) := by decide +kernel
theorem dX1_reject_26 : decode cX1_reject 26 = .ok (.aload_n 0, 1) := by decide +kernel
theorem dX1_reject_27 : decode cX1_reject 27 = .ok (.getfield 26, 3) := by decide +kernel
theorem dX1_reject_30 : decode cX1_reject 30 = .ok (.iload_n 2, 1) := by decide +kernel
theorem dX1_reject_31 : decode cX1_reject 31 = .ok (.invokevirtual 142, 3) := by decide +kernel
theorem dX1_reject_34 : decode cX1_reject 34 = .ok (.aload_n 0, 1) := by decide +kernel
theorem dX1_reject_35 : decode cX1_reject 35 = .ok (.getfield 36, 3) := by decide +kernel
theorem dX1_reject_38 : decode cX1_reject 38 = .ok (.aload_n 0, 1) := by decide +kernel
theorem dX1_reject_39 : decode cX1_reject 39 = .ok (.getfield 42, 3) := by decide +kernel
theorem dX1_reject_42 : decode cX1_reject 42 = .ok (.aload_n 0, 1) := by decide +kernel
theorem dX1_reject_43 : decode cX1_reject 43 = .ok (.iconst 2, 1) := by decide +kernel
theorem dX1_reject_44 : decode cX1_reject 44 = .ok (.invokevirtual 84, 3) := by decide +kernel
theorem dX1_reject_47 : decode cX1_reject 47 = .ok (.iadd, 1) := by decide +kernel
theorem dX1_reject_48 : decode cX1_reject 48 = .ok (.invokevirtual 105, 3) := by decide +kernel
theorem dX1_reject_51 : decode cX1_reject 51 = .ok (.pop, 1) := by decide +kernel
theorem dX1_reject_52 : decode cX1_reject 52 = .ok (.aload_n 0, 1) := by decide +kernel
theorem dX1_reject_53 : decode cX1_reject 53 = .ok (.dup, 1) := by decide +kernel
theorem dX1_reject_54 : decode cX1_reject 54 = .ok (.getfield 59, 3) := by decide +kernel
theorem dX1_reject_57 : decode cX1_reject 57 = .ok (.iconst 1, 1) := by decide +kernel
theorem dX1_reject_58 : decode cX1_reject 58 = .ok (.iadd, 1) := by decide +kernel
theorem dX1_reject_59 : decode cX1_reject 59 = .ok (.putfield 59, 3) := by decide +kernel
theorem dX1_reject_62 : decode cX1_reject 62 = .ok (.aload_n 0, 1) := by decide +kernel
theorem dX1_reject_63 : decode cX1_reject 63 = .ok (.getfield 39, 3) := by decide +kernel
theorem dX1_reject_66 : decode cX1_reject 66 = .ok (.aload_n 0, 1) := by decide +kernel
theorem dX1_reject_67 : decode cX1_reject 67 = .ok (.getfield 42, 3) := by decide +kernel
theorem dX1_reject_70 : decode cX1_reject 70 = .ok (.aload_n 0, 1) := by decide +kernel
theorem dX1_reject_71 : decode cX1_reject 71 = .ok (.iconst 3, 1) := by decide +kernel
theorem dX1_reject_72 : decode cX1_reject 72 = .ok (.invokevirtual 84, 3) := by decide +kernel
theorem dX1_reject_75 : decode cX1_reject 75 = .ok (.iadd, 1) := by decide +kernel
theorem dX1_reject_76 : decode cX1_reject 76 = .ok (.invokevirtual 105, 3) := by decide +kernel
theorem dX1_reject_79 : decode cX1_reject 79 = .ok (.pop, 1) := by decide +kernel
theorem dX1_reject_80 : decode cX1_reject 80 = .ok (.aload_n 0, 1) := by decide +kernel
theorem dX1_reject_81 : decode cX1_reject 81 = .ok (.dup, 1) := by decide +kernel
theorem dX1_reject_82 : decode cX1_reject 82 = .ok (.getfield 56, 3) := by decide +kernel
theorem dX1_reject_85 : decode cX1_reject 85 = .ok (.iconst 1, 1) := by decide +kernel
theorem dX1_reject_86 : decode cX1_reject 86 = .ok (.iadd, 1) := by decide +kernel
theorem dX1_reject_87 : decode cX1_reject 87 = .ok (.putfield 56, 3) := by decide +kernel
theorem dX1_reject_90 : decode cX1_reject 90 = .ok (.aload_n 0, 1) := by decide +kernel
theorem dX1_reject_91 : decode cX1_reject 91 = .ok (.getfield 56, 3) := by decide +kernel
theorem dX1_reject_94 : decode cX1_reject 94 = .ok (.aload_n 0, 1) := by decide +kernel
theorem dX1_reject_95 : decode cX1_reject 95 = .ok (.iconst 4, 1) := by decide +kernel
theorem dX1_reject_96 : decode cX1_reject 96 = .ok (.invokevirtual 84, 3) := by decide +kernel
theorem dX1_reject_99 : decode cX1_reject 99 = .ok (.if_icmp .lt 13, 3) := by decide +kernel
theorem dX1_reject_102 : decode cX1_reject 102 = .ok (.aload_n 0, 1) := by decide +kernel
theorem dX1_reject_103 : decode cX1_reject 103 = .ok (.iconst 1, 1) := by decide +kernel
theorem dX1_reject_104 : decode cX1_reject 104 = .ok (.invokevirtual 139, 3) := by decide +kernel
theorem dX1_reject_107 : decode cX1_reject 107 = .ok (.aload_n 0, 1) := by decide +kernel
theorem dX1_reject_108 : decode cX1_reject 108 = .ok (.iconst 0, 1) := by decide +kernel
theorem dX1_reject_109 : decode cX1_reject 109 = .ok (.putfield 56, 3) := by decide +kernel
theorem dX1_reject_112 : decode cX1_reject 112 = .ok (.return_, 1) := by decide +kernel
set_option maxRecDepth 20000 in
theorem ggX1_causeOf_X2_get : GoodIn wsX1_causeOf wsX2_get := goodIn_r _ [6, 7, 8, 25, 26, 27, 28] (by decide +kernel) (by decide +kernel)
set_option maxRecDepth 20000 in
theorem gX1_causeOf_X2_get : GoodIn wsX1_causeOf (wsV RX1 124 RX2 yX2_get wsX2_get) := goodIn_app (goodIn_of _ (by decide +kernel)) ggX1_causeOf_X2_get
theorem dX1_causeOf_0 : decode cX1_causeOf 0 = .ok (.aload_n 0, 1) := by decide +kernel
theorem dX1_causeOf_1 : decode cX1_causeOf 1 = .ok (.getfield 30, 3) := by decide +kernel
theorem dX1_causeOf_4 : decode cX1_causeOf 4 = .ok (.iload_n 1, 1) := by decide +kernel
theorem dX1_causeOf_5 : decode cX1_causeOf 5 = .ok (.iconst 3, 1) := by decide +kernel
theorem dX1_causeOf_6 : decode cX1_causeOf 6 = .ok (.invokevirtual 124, 3) := by decide +kernel
theorem dX1_causeOf_9 : decode cX1_causeOf 9 = .ok (.iconst 1, 1) := by decide +kernel
theorem dX1_causeOf_10 : decode cX1_causeOf 10 = .ok (.if_icmp .ne 6, 3) := by decide +kernel
theorem dX1_causeOf_13 : decode cX1_causeOf 13 = .ok (.bipush 10, 2) := by decide +kernel
theorem dX1_causeOf_15 : decode cX1_causeOf 15 = .ok (.ireturn, 1) := by decide +kernel
theorem dX1_causeOf_16 : decode cX1_causeOf 16 = .ok (.aload_n 0, 1) := by decide +kernel
theorem dX1_causeOf_17 : decode cX1_causeOf 17 = .ok (.getfield 30, 3) := by decide +kernel
theorem dX1_causeOf_20 : decode cX1_causeOf 20 = .ok (.iload_n 1, 1) := by decide +kernel
theorem dX1_causeOf_21 : decode cX1_causeOf 21 = .ok (.iconst 2, 1) := by decide +kernel
theorem dX1_causeOf_22 : decode cX1_causeOf 22 = .ok (.invokevirtual 124, 3) := by decide +kernel
theorem dX1_causeOf_25 : decode cX1_causeOf 25 = .ok (.lookupswitch 33 #[(2, 27), (3, 30)], 27) := by decide +kernel
theorem dX1_causeOf_52 : decode cX1_causeOf 52 = .ok (.bipush 11, 2) := by decide +kernel
theorem dX1_causeOf_54 : decode cX1_causeOf 54 = .ok (.ireturn, 1) := by decide +kernel
theorem dX1_causeOf_55 : decode cX1_causeOf 55 = .ok (.bipush 12, 2) := by decide +kernel
theorem dX1_causeOf_57 : decode cX1_causeOf 57 = .ok (.ireturn, 1) := by decide +kernel
theorem dX1_causeOf_58 : decode cX1_causeOf 58 = .ok (.bipush 13, 2) := by decide +kernel
theorem dX1_causeOf_60 : decode cX1_causeOf 60 = .ok (.ireturn, 1) := by decide +kernel
set_option maxRecDepth 20000 in
theorem ggX1_leaveRegister_X2_get : GoodIn wsX1_leaveRegister wsX2_get := goodIn_r _ [8, 9, 10, 38, 39, 40, 41] (by decide +kernel) (by decide +kernel)
set_option maxRecDepth 20000 in
theorem gX1_leaveRegister_X2_get : GoodIn wsX1_leaveRegister (wsV RX1 124 RX2 yX2_get wsX2_get) := goodIn_app (goodIn_of _ (by decide +kernel)) ggX1_leaveRegister_X2_get
set_option maxRecDepth 20000 in
theorem ggX1_leaveRegister_X1_count : GoodIn wsX1_leaveRegister wsX1_count := goodIn_r _ [15, 16, 22, 23, 24, 25, 26, 27, 28, 29, 30, 31, 32, 33, 34, 35, 36, 37] (by decide +kernel) (by decide +kernel)
set_option maxRecDepth 20000 in
theorem gX1_leaveRegister_X1_count : GoodIn wsX1_leaveRegister (wsV RX1 102 RX1 yX1_count wsX1_count) := goodIn_app (goodIn_of _ (by decide +kernel)) ggX1_leaveRegister_X1_count
set_option maxRecDepth 20000 in
theorem ggX1_leaveRegister_X2_removeRow : GoodIn wsX1_leaveRegister wsX2_removeRow := goodIn_r _ [20, 21, 9, 10, 38, 39, 40, 41] (by decide +kernel) (by decide +kernel)
set_option maxRecDepth 20000 in
theorem gX1_leaveRegister_X2_removeRow : GoodIn wsX1_leaveRegister (wsV RX1 142 RX2 yX2_removeRow wsX2_removeRow) := goodIn_app (goodIn_of _ (by decide +kernel)) ggX1_leaveRegister_X2_removeRow
theorem dX1_leaveRegister_0 : decode cX1_leaveRegister 0 = .ok (.aload_n 0, 1) := by decide +kernel
theorem dX1_leaveRegister_1 : decode cX1_leaveRegister 1 = .ok (.getfield 30, 3) := by decide +kernel
theorem dX1_leaveRegister_4 : decode cX1_leaveRegister 4 = .ok (.iload_n 1, 1) := by decide +kernel
theorem dX1_leaveRegister_5 : decode cX1_leaveRegister 5 = .ok (.iconst 0, 1) := by decide +kernel
theorem dX1_leaveRegister_6 : decode cX1_leaveRegister 6 = .ok (.invokevirtual 124, 3) := by decide +kernel
theorem dX1_leaveRegister_9 : decode cX1_leaveRegister 9 = .ok (.aload_n 0, 1) := by decide +kernel
theorem dX1_leaveRegister_10 : decode cX1_leaveRegister 10 = .ok (.getfield 62, 3) := by decide +kernel
theorem dX1_leaveRegister_13 : decode cX1_leaveRegister 13 = .ok (.if_icmp .ne 8, 3) := by decide +kernel
theorem dX1_leaveRegister_16 : decode cX1_leaveRegister 16 = .ok (.aload_n 0, 1) := by decide +kernel
theorem dX1_leaveRegister_17 : decode cX1_leaveRegister 17 = .ok (.iload_n 2, 1) := by decide +kernel
theorem dX1_leaveRegister_18 : decode cX1_leaveRegister 18 = .ok (.putfield 65, 3) := by decide +kernel
theorem dX1_leaveRegister_21 : decode cX1_leaveRegister 21 = .ok (.aload_n 0, 1) := by decide +kernel
theorem dX1_leaveRegister_22 : decode cX1_leaveRegister 22 = .ok (.iload_n 2, 1) := by decide +kernel
theorem dX1_leaveRegister_23 : decode cX1_leaveRegister 23 = .ok (.invokevirtual 102, 3) := by decide +kernel
theorem dX1_leaveRegister_26 : decode cX1_leaveRegister 26 = .ok (.aload_n 0, 1) := by decide +kernel
theorem dX1_leaveRegister_27 : decode cX1_leaveRegister 27 = .ok (.getfield 30, 3) := by decide +kernel
theorem dX1_leaveRegister_30 : decode cX1_leaveRegister 30 = .ok (.iload_n 1, 1) := by decide +kernel
theorem dX1_leaveRegister_31 : decode cX1_leaveRegister 31 = .ok (.invokevirtual 142, 3) := by decide +kernel
theorem dX1_leaveRegister_34 : decode cX1_leaveRegister 34 = .ok (.return_, 1) := by decide +kernel
set_option maxRecDepth 20000 in
theorem ggX1_leaveBelt_X2_removeRow : GoodIn wsX1_leaveBelt wsX2_removeRow := goodIn_r _ [7, 8, 9, 10, 69, 70, 71, 72] (by decide +kernel) (by decide +kernel)
set_option maxRecDepth 20000 in
theorem gX1_leaveBelt_X2_removeRow : GoodIn wsX1_leaveBelt (wsV RX1 142 RX2 yX2_removeRow wsX2_removeRow) := goodIn_app (goodIn_of _ (by decide +kernel)) ggX1_leaveBelt_X2_removeRow
set_option maxRecDepth 20000 in
theorem ggX1_leaveBelt_X1_count : GoodIn wsX1_leaveBelt wsX1_count := goodIn_r _ [15, 16, 53, 54, 55, 56, 57, 58, 59, 60, 61, 62, 63, 64, 65, 66, 67, 68] (by decide +kernel) (by decide +kernel)
set_option maxRecDepth 20000 in
theorem gX1_leaveBelt_X1_count : GoodIn wsX1_leaveBelt (wsV RX1 102 RX1 yX1_count wsX1_count) := goodIn_app (goodIn_of _ (by decide +kernel)) ggX1_leaveBelt_X1_count
set_option maxRecDepth 20000 in
theorem ggX1_leaveBelt_X1_recordForExit : GoodIn wsX1_leaveBelt wsX1_recordForExit := goodIn_r _ [20, 2, 21, 22, 23, 24, 25, 26, 27, 14, 28, 29, 30, 31, 32, 33, 34, 35, 36, 37, 6, 38, 8, 39, 40, 41, 42, 9, 10, 53, 54, 55, 56, 57, 58, 59, 60, 61, 62, 63, 64, 65, 66, 67, 68, 69, 70, 71, 72] (by decide +kernel) (by decide +kernel)
set_option maxRecDepth 20000 in
theorem gX1_leaveBelt_X1_recordForExit : GoodIn wsX1_leaveBelt (wsV RX1 187 RX1 yX1_recordForExit wsX1_recordForExit) := goodIn_app (goodIn_of _ (by decide +kernel)) ggX1_leaveBelt_X1_recordForExit
set_option maxRecDepth 20000 in
theorem ggX1_leaveBelt_X1_raise : GoodIn wsX1_leaveBelt wsX1_raise := goodIn_r _ [46, 47, 48, 11, 12, 13, 14, 15, 16, 53, 54, 55, 56, 57, 58, 59, 60, 61, 62, 63, 64, 65, 66, 67, 68] (by decide +kernel) (by decide +kernel)
set_option maxRecDepth 20000 in
theorem gX1_leaveBelt_X1_raise : GoodIn wsX1_leaveBelt (wsV RX1 139 RX1 yX1_raise wsX1_raise) := goodIn_app (goodIn_of _ (by decide +kernel)) ggX1_leaveBelt_X1_raise
set_option maxRecDepth 20000 in
theorem ggX1_leaveBelt_X2_put : GoodIn wsX1_leaveBelt wsX2_put := goodIn_r _ [52, 9, 10, 69, 70, 71, 72] (by decide +kernel) (by decide +kernel)
set_option maxRecDepth 20000 in
theorem gX1_leaveBelt_X2_put : GoodIn wsX1_leaveBelt (wsV RX1 108 RX2 yX2_put wsX2_put) := goodIn_app (goodIn_of _ (by decide +kernel)) ggX1_leaveBelt_X2_put
theorem dX1_leaveBelt_0 : decode cX1_leaveBelt 0 = .ok (.aload_n 0, 1) := by decide +kernel
theorem dX1_leaveBelt_1 : decode cX1_leaveBelt 1 = .ok (.getfield 26, 3) := by decide +kernel
theorem dX1_leaveBelt_4 : decode cX1_leaveBelt 4 = .ok (.iload_n 1, 1) := by decide +kernel
theorem dX1_leaveBelt_5 : decode cX1_leaveBelt 5 = .ok (.invokevirtual 142, 3) := by decide +kernel
theorem dX1_leaveBelt_8 : decode cX1_leaveBelt 8 = .ok (.aload_n 0, 1) := by decide +kernel
theorem dX1_leaveBelt_9 : decode cX1_leaveBelt 9 = .ok (.bipush 8, 2) := by decide +kernel
theorem dX1_leaveBelt_11 : decode cX1_leaveBelt 11 = .ok (.invokevirtual 102, 3) := by decide +kernel
theorem dX1_leaveBelt_14 : decode cX1_leaveBelt 14 = .ok (.aload_n 0, 1) := by decide +kernel
theorem dX1_leaveBelt_15 : decode cX1_leaveBelt 15 = .ok (.invokevirtual 187, 3) := by decide +kernel
theorem dX1_leaveBelt_18 : decode cX1_leaveBelt 18 = .ok (.istore_n 2, 1) := by decide +kernel
theorem dX1_leaveBelt_19 : decode cX1_leaveBelt 19 = .ok (.iload_n 2, 1) := by decide +kernel
theorem dX1_leaveBelt_20 : decode cX1_leaveBelt 20 = .ok (.iconst (-1), 1) := by decide +kernel
theorem dX1_leaveBelt_21 : decode cX1_leaveBelt 21 = .ok (.if_icmp .ne 17, 3) := by decide +kernel
theorem dX1_leaveBelt_24 : decode cX1_leaveBelt 24 = .ok (.aload_n 0, 1) := by decide +kernel
theorem dX1_leaveBelt_25 : decode cX1_leaveBelt 25 = .ok (.bipush 9, 2) := by decide +kernel
theorem dX1_leaveBelt_27 : decode cX1_leaveBelt 27 = .ok (.invokevirtual 102, 3) := by decide +kernel
theorem dX1_leaveBelt_30 : decode cX1_leaveBelt 30 = .ok (.aload_n 0, 1) := by decide +kernel
theorem dX1_leaveBelt_31 : decode cX1_leaveBelt 31 = .ok (.iconst 4, 1) := by decide +kernel
theorem dX1_leaveBelt_32 : decode cX1_leaveBelt 32 = .ok (.invokevirtual 139, 3) := by decide +kernel
theorem dX1_leaveBelt_35 : decode cX1_leaveBelt 35 = .ok (.goto 13, 3) := by decide +kernel
theorem dX1_leaveBelt_38 : decode cX1_leaveBelt 38 = .ok (.aload_n 0, 1) := by decide +kernel
theorem dX1_leaveBelt_39 : decode cX1_leaveBelt 39 = .ok (.getfield 30, 3) := by decide +kernel
theorem dX1_leaveBelt_42 : decode cX1_leaveBelt 42 = .ok (.iload_n 2, 1) := by decide +kernel
theorem dX1_leaveBelt_43 : decode cX1_leaveBelt 43 = .ok (.iconst 5, 1) := by decide +kernel
theorem dX1_leaveBelt_44 : decode cX1_leaveBelt 44 = .ok (.iconst 1, 1) := by decide +kernel
theorem dX1_leaveBelt_45 : decode cX1_leaveBelt 45 = .ok (.invokevirtual 108, 3) := by decide +kernel
theorem dX1_leaveBelt_48 : decode cX1_leaveBelt 48 = .ok (.return_, 1) := by decide +kernel
set_option maxRecDepth 20000 in
theorem ggX1_itemAt_X1_place : GoodIn wsX1_itemAt wsX1_place := goodIn_r _ [10, 11, 29, 30, 31, 32, 33, 34, 35, 36, 37, 38, 39, 40, 41, 42, 43, 44] (by decide +kernel) (by decide +kernel)
set_option maxRecDepth 20000 in
theorem gX1_itemAt_X1_place : GoodIn wsX1_itemAt (wsV RX1 88 RX1 yX1_place wsX1_place) := goodIn_app (goodIn_of _ (by decide +kernel)) ggX1_itemAt_X1_place
set_option maxRecDepth 20000 in
theorem ggX1_itemAt_X1_setting : GoodIn wsX1_itemAt wsX1_setting := goodIn_r _ [15, 16, 29, 30, 31, 32, 33, 34, 35, 36, 37, 38, 39, 40, 41, 42, 43, 44] (by decide +kernel) (by decide +kernel)
set_option maxRecDepth 20000 in
theorem gX1_itemAt_X1_setting : GoodIn wsX1_itemAt (wsV RX1 84 RX1 yX1_setting wsX1_setting) := goodIn_app (goodIn_of _ (by decide +kernel)) ggX1_itemAt_X1_setting
set_option maxRecDepth 20000 in
theorem ggX1_itemAt_X2_count : GoodIn wsX1_itemAt wsX2_count := goodIn_r _ [21, 22, 45, 46, 47, 48] (by decide +kernel) (by decide +kernel)
set_option maxRecDepth 20000 in
theorem gX1_itemAt_X2_count : GoodIn wsX1_itemAt (wsV RX1 91 RX2 yX2_count wsX2_count) := goodIn_app (goodIn_of _ (by decide +kernel)) ggX1_itemAt_X2_count
set_option maxRecDepth 20000 in
theorem ggX1_itemAt_X2_get : GoodIn wsX1_itemAt wsX2_get := goodIn_r _ [26, 27, 28, 45, 46, 47, 48] (by decide +kernel) (by decide +kernel)
set_option maxRecDepth 20000 in
theorem gX1_itemAt_X2_get : GoodIn wsX1_itemAt (wsV RX1 124 RX2 yX2_get wsX2_get) := goodIn_app (goodIn_of _ (by decide +kernel)) ggX1_itemAt_X2_get
theorem dX1_itemAt_0 : decode cX1_itemAt 0 = .ok (.aload_n 0, 1) := by decide +kernel
theorem dX1_itemAt_1 : decode cX1_itemAt 1 = .ok (.iload_n 1, 1) := by decide +kernel
theorem dX1_itemAt_2 : decode cX1_itemAt 2 = .ok (.invokevirtual 88, 3) := by decide +kernel
theorem dX1_itemAt_5 : decode cX1_itemAt 5 = .ok (.istore_n 2, 1) := by decide +kernel
theorem dX1_itemAt_6 : decode cX1_itemAt 6 = .ok (.iconst (-1), 1) := by decide +kernel
theorem dX1_itemAt_7 : decode cX1_itemAt 7 = .ok (.istore_n 3, 1) := by decide +kernel
theorem dX1_itemAt_8 : decode cX1_itemAt 8 = .ok (.aload_n 0, 1) := by decide +kernel
theorem dX1_itemAt_9 : decode cX1_itemAt 9 = .ok (.iconst 5, 1) := by decide +kernel
theorem dX1_itemAt_10 : decode cX1_itemAt 10 = .ok (.invokevirtual 84, 3) := by decide +kernel
theorem dX1_itemAt_13 : decode cX1_itemAt 13 = .ok (.iconst 1, 1) := by decide +kernel
theorem dX1_itemAt_14 : decode cX1_itemAt 14 = .ok (.iadd, 1) := by decide +kernel
theorem dX1_itemAt_15 : decode cX1_itemAt 15 = .ok (.istore 4, 2) := by decide +kernel
theorem dX1_itemAt_17 : decode cX1_itemAt 17 = .ok (.iconst 0, 1) := by decide +kernel
theorem dX1_itemAt_18 : decode cX1_itemAt 18 = .ok (.istore 5, 2) := by decide +kernel
theorem dX1_itemAt_20 : decode cX1_itemAt 20 = .ok (.iload 5, 2) := by decide +kernel
theorem dX1_itemAt_22 : decode cX1_itemAt 22 = .ok (.aload_n 0, 1) := by decide +kernel
theorem dX1_itemAt_23 : decode cX1_itemAt 23 = .ok (.getfield 26, 3) := by decide +kernel
theorem dX1_itemAt_26 : decode cX1_itemAt 26 = .ok (.invokevirtual 91, 3) := by decide +kernel
theorem dX1_itemAt_29 : decode cX1_itemAt 29 = .ok (.if_icmp .ge 40, 3) := by decide +kernel
theorem dX1_itemAt_32 : decode cX1_itemAt 32 = .ok (.aload_n 0, 1) := by decide +kernel
theorem dX1_itemAt_33 : decode cX1_itemAt 33 = .ok (.getfield 26, 3) := by decide +kernel
theorem dX1_itemAt_36 : decode cX1_itemAt 36 = .ok (.iload 5, 2) := by decide +kernel
theorem dX1_itemAt_38 : decode cX1_itemAt 38 = .ok (.iconst 1, 1) := by decide +kernel
theorem dX1_itemAt_39 : decode cX1_itemAt 39 = .ok (.invokevirtual 124, 3) := by decide +kernel
theorem dX1_itemAt_42 : decode cX1_itemAt 42 = .ok (.iload_n 2, 1) := by decide +kernel
theorem dX1_itemAt_43 : decode cX1_itemAt 43 = .ok (.isub, 1) := by decide +kernel
theorem dX1_itemAt_44 : decode cX1_itemAt 44 = .ok (.invokestatic 190, 3) := by decide +kernel
theorem dX1_itemAt_47 : decode cX1_itemAt 47 = .ok (.istore 6, 2) := by decide +kernel
theorem dX1_itemAt_49 : decode cX1_itemAt 49 = .ok (.iload 6, 2) := by decide +kernel
theorem dX1_itemAt_51 : decode cX1_itemAt 51 = .ok (.iload 4, 2) := by decide +kernel
theorem dX1_itemAt_53 : decode cX1_itemAt 53 = .ok (.if_icmp .ge 10, 3) := by decide +kernel
theorem dX1_itemAt_56 : decode cX1_itemAt 56 = .ok (.iload 5, 2) := by decide +kernel
theorem dX1_itemAt_58 : decode cX1_itemAt 58 = .ok (.istore_n 3, 1) := by decide +kernel
theorem dX1_itemAt_59 : decode cX1_itemAt 59 = .ok (.iload 6, 2) := by decide +kernel
theorem dX1_itemAt_61 : decode cX1_itemAt 61 = .ok (.istore 4, 2) := by decide +kernel
theorem dX1_itemAt_63 : decode cX1_itemAt 63 = .ok (.iinc 5 1, 3) := by decide +kernel
theorem dX1_itemAt_66 : decode cX1_itemAt 66 = .ok (.goto (-46), 3) := by decide +kernel
theorem dX1_itemAt_69 : decode cX1_itemAt 69 = .ok (.iload_n 3, 1) := by decide +kernel
theorem dX1_itemAt_70 : decode cX1_itemAt 70 = .ok (.ireturn, 1) := by decide +kernel
set_option maxRecDepth 20000 in
theorem ggX1_recordForExit_X1_place : GoodIn wsX1_recordForExit wsX1_place := goodIn_r _ [10, 11, 29, 30, 31, 32, 33, 34, 35, 36, 37, 38, 39, 40, 41, 42, 43, 44] (by decide +kernel) (by decide +kernel)
set_option maxRecDepth 20000 in
theorem gX1_recordForExit_X1_place : GoodIn wsX1_recordForExit (wsV RX1 88 RX1 yX1_place wsX1_place) := goodIn_app (goodIn_of _ (by decide +kernel)) ggX1_recordForExit_X1_place
set_option maxRecDepth 20000 in
theorem ggX1_recordForExit_X1_setting : GoodIn wsX1_recordForExit wsX1_setting := goodIn_r _ [15, 16, 29, 30, 31, 32, 33, 34, 35, 36, 37, 38, 39, 40, 41, 42, 43, 44] (by decide +kernel) (by decide +kernel)
set_option maxRecDepth 20000 in
theorem gX1_recordForExit_X1_setting : GoodIn wsX1_recordForExit (wsV RX1 84 RX1 yX1_setting wsX1_setting) := goodIn_app (goodIn_of _ (by decide +kernel)) ggX1_recordForExit_X1_setting
set_option maxRecDepth 20000 in
theorem ggX1_recordForExit_X2_count : GoodIn wsX1_recordForExit wsX2_count := goodIn_r _ [21, 22, 45, 46, 47, 48] (by decide +kernel) (by decide +kernel)
set_option maxRecDepth 20000 in
theorem gX1_recordForExit_X2_count : GoodIn wsX1_recordForExit (wsV RX1 91 RX2 yX2_count wsX2_count) := goodIn_app (goodIn_of _ (by decide +kernel)) ggX1_recordForExit_X2_count
set_option maxRecDepth 20000 in
theorem ggX1_recordForExit_X2_get : GoodIn wsX1_recordForExit wsX2_get := goodIn_r _ [26, 27, 28, 45, 46, 47, 48] (by decide +kernel) (by decide +kernel)
set_option maxRecDepth 20000 in
theorem gX1_recordForExit_X2_get : GoodIn wsX1_recordForExit (wsV RX1 124 RX2 yX2_get wsX2_get) := goodIn_app (goodIn_of _ (by decide +kernel)) ggX1_recordForExit_X2_get
theorem dX1_recordForExit_0 : decode cX1_recordForExit 0 = .ok (.aload_n 0, 1) := by decide +kernel
theorem dX1_recordForExit_1 : decode cX1_recordForExit 1 = .ok (.iconst 4, 1) := by decide +kernel
theorem dX1_recordForExit_2 : decode cX1_recordForExit 2 = .ok (.invokevirtual 88, 3) := by decide +kernel
theorem dX1_recordForExit_5 : decode cX1_recordForExit 5 = .ok (.istore_n 1, 1) := by decide +kernel
theorem dX1_recordForExit_6 : decode cX1_recordForExit 6 = .ok (.iconst (-1), 1) := by decide +kernel
theorem dX1_recordForExit_7 : decode cX1_recordForExit 7 = .ok (.istore_n 2, 1) := by decide +kernel
theorem dX1_recordForExit_8 : decode cX1_recordForExit 8 = .ok (.aload_n 0, 1) := by decide +kernel
theorem dX1_recordForExit_9 : decode cX1_recordForExit 9 = .ok (.iconst 5, 1) := by decide +kernel
theorem dX1_recordForExit_10 : decode cX1_recordForExit 10 = .ok (.invokevirtual 84, 3) := by decide +kernel
theorem dX1_recordForExit_13 : decode cX1_recordForExit 13 = .ok (.iconst 1, 1) := by decide +kernel
theorem dX1_recordForExit_14 : decode cX1_recordForExit 14 = .ok (.iadd, 1) := by decide +kernel
theorem dX1_recordForExit_15 : decode cX1_recordForExit 15 = .ok (.istore_n 3, 1) := by decide +kernel
theorem dX1_recordForExit_16 : decode cX1_recordForExit 16 = .ok (.iconst 0, 1) := by decide +kernel
theorem dX1_recordForExit_17 : decode cX1_recordForExit 17 = .ok (.istore 4, 2) := by decide +kernel
theorem dX1_recordForExit_19 : decode cX1_recordForExit 19 = .ok (.iload 4, 2) := by decide +kernel
theorem dX1_recordForExit_21 : decode cX1_recordForExit 21 = .ok (.aload_n 0, 1) := by decide +kernel
theorem dX1_recordForExit_22 : decode cX1_recordForExit 22 = .ok (.getfield 30, 3) := by decide +kernel
theorem dX1_recordForExit_25 : decode cX1_recordForExit 25 = .ok (.invokevirtual 91, 3) := by decide +kernel
theorem dX1_recordForExit_28 : decode cX1_recordForExit 28 = .ok (.if_icmp .ge 77, 3) := by decide +kernel
theorem dX1_recordForExit_31 : decode cX1_recordForExit 31 = .ok (.aload_n 0, 1) := by decide +kernel
theorem dX1_recordForExit_32 : decode cX1_recordForExit 32 = .ok (.getfield 30, 3) := by decide +kernel
theorem dX1_recordForExit_35 : decode cX1_recordForExit 35 = .ok (.iload 4, 2) := by decide +kernel
theorem dX1_recordForExit_37 : decode cX1_recordForExit 37 = .ok (.iconst 1, 1) := by decide +kernel
theorem dX1_recordForExit_38 : decode cX1_recordForExit 38 = .ok (.invokevirtual 124, 3) := by decide +kernel
theorem dX1_recordForExit_41 : decode cX1_recordForExit 41 = .ok (.iload_n 1, 1) := by decide +kernel
theorem dX1_recordForExit_42 : decode cX1_recordForExit 42 = .ok (.isub, 1) := by decide +kernel
theorem dX1_recordForExit_43 : decode cX1_recordForExit 43 = .ok (.invokestatic 190, 3) := by decide +kernel
theorem dX1_recordForExit_46 : decode cX1_recordForExit 46 = .ok (.istore 5, 2) := by decide +kernel
theorem dX1_recordForExit_48 : decode cX1_recordForExit 48 = .ok (.aload_n 0, 1) := by decide +kernel
theorem dX1_recordForExit_49 : decode cX1_recordForExit 49 = .ok (.getfield 30, 3) := by decide +kernel
theorem dX1_recordForExit_52 : decode cX1_recordForExit 52 = .ok (.iload 4, 2) := by decide +kernel
theorem dX1_recordForExit_54 : decode cX1_recordForExit 54 = .ok (.iconst 4, 1) := by decide +kernel
theorem dX1_recordForExit_55 : decode cX1_recordForExit 55 = .ok (.invokevirtual 124, 3) := by decide +kernel
theorem dX1_recordForExit_58 : decode cX1_recordForExit 58 = .ok (.iconst 1, 1) := by decide +kernel
theorem dX1_recordForExit_59 : decode cX1_recordForExit 59 = .ok (.if_icmp .ne 20, 3) := by decide +kernel
theorem dX1_recordForExit_62 : decode cX1_recordForExit 62 = .ok (.aload_n 0, 1) := by decide +kernel
theorem dX1_recordForExit_63 : decode cX1_recordForExit 63 = .ok (.getfield 30, 3) := by decide +kernel
theorem dX1_recordForExit_66 : decode cX1_recordForExit 66 = .ok (.iload 4, 2) := by decide +kernel
theorem dX1_recordForExit_68 : decode cX1_recordForExit 68 = .ok (.iconst 5, 1) := by decide +kernel
theorem dX1_recordForExit_69 : decode cX1_recordForExit 69 = .ok (.invokevirtual 124, 3) := by decide +kernel
theorem dX1_recordForExit_72 : decode cX1_recordForExit 72 = .ok (.ifCond .ne 7, 3) := by decide +kernel
theorem dX1_recordForExit_75 : decode cX1_recordForExit 75 = .ok (.iconst 1, 1) := by decide +kernel
theorem dX1_recordForExit_76 : decode cX1_recordForExit 76 = .ok (.goto 4, 3) := by decide +kernel
theorem dX1_recordForExit_79 : decode cX1_recordForExit 79 = .ok (.iconst 0, 1) := by decide +kernel
theorem dX1_recordForExit_80 : decode cX1_recordForExit 80 = .ok (.istore 6, 2) := by decide +kernel
theorem dX1_recordForExit_82 : decode cX1_recordForExit 82 = .ok (.iload 6, 2) := by decide +kernel
theorem dX1_recordForExit_84 : decode cX1_recordForExit 84 = .ok (.ifCond .eq 15, 3) := by decide +kernel
theorem dX1_recordForExit_87 : decode cX1_recordForExit 87 = .ok (.iload 5, 2) := by decide +kernel
theorem dX1_recordForExit_89 : decode cX1_recordForExit 89 = .ok (.iload_n 3, 1) := by decide +kernel
theorem dX1_recordForExit_90 : decode cX1_recordForExit 90 = .ok (.if_icmp .ge 9, 3) := by decide +kernel
theorem dX1_recordForExit_93 : decode cX1_recordForExit 93 = .ok (.iload 4, 2) := by decide +kernel
theorem dX1_recordForExit_95 : decode cX1_recordForExit 95 = .ok (.istore_n 2, 1) := by decide +kernel
theorem dX1_recordForExit_96 : decode cX1_recordForExit 96 = .ok (.iload 5, 2) := by decide +kernel
theorem dX1_recordForExit_98 : decode cX1_recordForExit 98 = .ok (.istore_n 3, 1) := by decide +kernel
theorem dX1_recordForExit_99 : decode cX1_recordForExit 99 = .ok (.iinc 4 1, 3) := by decide +kernel
theorem dX1_recordForExit_102 : decode cX1_recordForExit 102 = .ok (.goto (-83), 3) := by decide +kernel
theorem dX1_recordForExit_105 : decode cX1_recordForExit 105 = .ok (.iload_n 2, 1) := by decide +kernel
theorem dX1_recordForExit_106 : decode cX1_recordForExit 106 = .ok (.ireturn, 1) := by decide +kernel
theorem dX2_init_0 : decode cX2_init 0 = .ok (.aload_n 0, 1) := by decide +kernel
theorem dX2_init_1 : decode cX2_init 1 = .ok (.invokespecial 3, 3) := by decide +kernel
theorem dX2_init_4 : decode cX2_init 4 = .ok (.aload_n 0, 1) := by decide +kernel
theorem dX2_init_5 : decode cX2_init 5 = .ok (.iconst 0, 1) := by decide +kernel
theorem dX2_init_6 : decode cX2_init 6 = .ok (.putfield 9, 3) := by decide +kernel
theorem dX2_init_9 : decode cX2_init 9 = .ok (.aload_n 0, 1) := by decide +kernel
theorem dX2_init_10 : decode cX2_init 10 = .ok (.iconst 1, 1) := by decide +kernel
theorem dX2_init_11 : decode cX2_init 11 = .ok (.iload_n 1, 1) := by decide +kernel
theorem dX2_init_12 : decode cX2_init 12 = .ok (.invokestatic 15, 3) := by decide +kernel
theorem dX2_init_15 : decode cX2_init 15 = .ok (.putfield 21, 3) := by decide +kernel
theorem dX2_init_18 : decode cX2_init 18 = .ok (.aload_n 0, 1) := by decide +kernel
theorem dX2_init_19 : decode cX2_init 19 = .ok (.iconst 1, 1) := by decide +kernel
theorem dX2_init_20 : decode cX2_init 20 = .ok (.iload_n 2, 1) := by decide +kernel
theorem dX2_init_21 : decode cX2_init 21 = .ok (.invokestatic 15, 3) := by decide +kernel
theorem dX2_init_24 : decode cX2_init 24 = .ok (.putfield 24, 3) := by decide +kernel
theorem dX2_init_27 : decode cX2_init 27 = .ok (.aload_n 0, 1) := by decide +kernel
theorem dX2_init_28 : decode cX2_init 28 = .ok (.aload_n 0, 1) := by decide +kernel
theorem dX2_init_29 : decode cX2_init 29 = .ok (.getfield 21, 3) := by decide +kernel
theorem dX2_init_32 : decode cX2_init 32 = .ok (.aload_n 0, 1) := by decide +kernel
theorem dX2_init_33 : decode cX2_init 33 = .ok (.getfield 24, 3) := by decide +kernel
theorem dX2_init_36 : decode cX2_init 36 = .ok (.imul, 1) := by decide +kernel
theorem dX2_init_37 : decode cX2_init 37 = .ok (.newarray .int, 2) := by decide +kernel
theorem dX2_init_39 : decode cX2_init 39 = .ok (.putfield 27, 3) := by decide +kernel
theorem dX2_init_42 : decode cX2_init 42 = .ok (.return_, 1) := by decide +kernel
theorem dX2_copyFrom_0 : decode cX2_copyFrom 0 = .ok (.aload_n 0, 1) := by decide +kernel
theorem dX2_copyFrom_1 : decode cX2_copyFrom 1 = .ok (.getfield 27, 3) := by decide +kernel
theorem dX2_copyFrom_4 : decode cX2_copyFrom 4 = .ok (.arraylength, 1) := by decide +kernel
theorem dX2_copyFrom_5 : decode cX2_copyFrom 5 = .ok (.aload_n 1, 1) := by decide +kernel
theorem dX2_copyFrom_6 : decode cX2_copyFrom 6 = .ok (.getfield 27, 3) := by decide +kernel
theorem dX2_copyFrom_9 : decode cX2_copyFrom 9 = .ok (.arraylength, 1) := by decide +kernel
theorem dX2_copyFrom_10 : decode cX2_copyFrom 10 = .ok (.if_icmp .ne 29, 3) := by decide +kernel
theorem dX2_copyFrom_13 : decode cX2_copyFrom 13 = .ok (.aload_n 1, 1) := by decide +kernel
theorem dX2_copyFrom_14 : decode cX2_copyFrom 14 = .ok (.getfield 27, 3) := by decide +kernel
theorem dX2_copyFrom_17 : decode cX2_copyFrom 17 = .ok (.iconst 0, 1) := by decide +kernel
theorem dX2_copyFrom_18 : decode cX2_copyFrom 18 = .ok (.aload_n 0, 1) := by decide +kernel
theorem dX2_copyFrom_19 : decode cX2_copyFrom 19 = .ok (.getfield 27, 3) := by decide +kernel
theorem dX2_copyFrom_22 : decode cX2_copyFrom 22 = .ok (.iconst 0, 1) := by decide +kernel
theorem dX2_copyFrom_23 : decode cX2_copyFrom 23 = .ok (.aload_n 0, 1) := by decide +kernel
theorem dX2_copyFrom_24 : decode cX2_copyFrom 24 = .ok (.getfield 27, 3) := by decide +kernel
theorem dX2_copyFrom_27 : decode cX2_copyFrom 27 = .ok (.arraylength, 1) := by decide +kernel
theorem dX2_copyFrom_28 : decode cX2_copyFrom 28 = .ok (.invokestatic 31, 3) := by decide +kernel
theorem dX2_copyFrom_31 : decode cX2_copyFrom 31 = .ok (.aload_n 0, 1) := by decide +kernel
theorem dX2_copyFrom_32 : decode cX2_copyFrom 32 = .ok (.aload_n 1, 1) := by decide +kernel
theorem dX2_copyFrom_33 : decode cX2_copyFrom 33 = .ok (.getfield 9, 3) := by decide +kernel
theorem dX2_copyFrom_36 : decode cX2_copyFrom 36 = .ok (.putfield 9, 3) := by decide +kernel
theorem dX2_copyFrom_39 : decode cX2_copyFrom 39 = .ok (.return_, 1) := by decide +kernel
theorem dX2_count_0 : decode cX2_count 0 = .ok (.aload_n 0, 1) := by decide +kernel
theorem dX2_count_1 : decode cX2_count 1 = .ok (.getfield 9, 3) := by decide +kernel
theorem dX2_count_4 : decode cX2_count 4 = .ok (.ireturn, 1) := by decide +kernel
theorem dX2_get_0 : decode cX2_get 0 = .ok (.iload_n 1, 1) := by decide +kernel
theorem dX2_get_1 : decode cX2_get 1 = .ok (.aload_n 0, 1) := by decide +kernel
theorem dX2_get_2 : decode cX2_get 2 = .ok (.getfield 21, 3) := by decide +kernel
theorem dX2_get_5 : decode cX2_get 5 = .ok (.imul, 1) := by decide +kernel
theorem dX2_get_6 : decode cX2_get 6 = .ok (.iload_n 2, 1) := by decide +kernel
theorem dX2_get_7 : decode cX2_get 7 = .ok (.iadd, 1) := by decide +kernel
theorem dX2_get_8 : decode cX2_get 8 = .ok (.istore_n 3, 1) := by decide +kernel
theorem dX2_get_9 : decode cX2_get 9 = .ok (.iload_n 3, 1) := by decide +kernel
theorem dX2_get_10 : decode cX2_get 10 = .ok (.ifCond .lt 21, 3) := by decide +kernel
theorem dX2_get_13 : decode cX2_get 13 = .ok (.iload_n 3, 1) := by decide +kernel
theorem dX2_get_14 : decode cX2_get 14 = .ok (.aload_n 0, 1) := by decide +kernel
theorem dX2_get_15 : decode cX2_get 15 = .ok (.getfield 27, 3) := by decide +kernel
theorem dX2_get_18 : decode cX2_get 18 = .ok (.arraylength, 1) := by decide +kernel
theorem dX2_get_19 : decode cX2_get 19 = .ok (.if_icmp .ge 12, 3) := by decide +kernel
theorem dX2_get_22 : decode cX2_get 22 = .ok (.aload_n 0, 1) := by decide +kernel
theorem dX2_get_23 : decode cX2_get 23 = .ok (.getfield 27, 3) := by decide +kernel
theorem dX2_get_26 : decode cX2_get 26 = .ok (.iload_n 3, 1) := by decide +kernel
theorem dX2_get_27 : decode cX2_get 27 = .ok (.iaload, 1) := by decide +kernel
theorem dX2_get_28 : decode cX2_get 28 = .ok (.goto 4, 3) := by decide +kernel
theorem dX2_get_31 : decode cX2_get 31 = .ok (.iconst 0, 1) := by decide +kernel
theorem dX2_get_32 : decode cX2_get 32 = .ok (.ireturn, 1) := by decide +kernel
theorem dX2_put_0 : decode cX2_put 0 = .ok (.iload_n 1, 1) := by decide +kernel
theorem dX2_put_1 : decode cX2_put 1 = .ok (.aload_n 0, 1) := by decide +kernel
theorem dX2_put_2 : decode cX2_put 2 = .ok (.getfield 21, 3) := by decide +kernel
theorem dX2_put_5 : decode cX2_put 5 = .ok (.imul, 1) := by decide +kernel
theorem dX2_put_6 : decode cX2_put 6 = .ok (.iload_n 2, 1) := by decide +kernel
theorem dX2_put_7 : decode cX2_put 7 = .ok (.iadd, 1) := by decide +kernel
theorem dX2_put_8 : decode cX2_put 8 = .ok (.istore 4, 2) := by decide +kernel
theorem dX2_put_10 : decode cX2_put 10 = .ok (.iload 4, 2) := by decide +kernel
theorem dX2_put_12 : decode cX2_put 12 = .ok (.ifCond .lt 21, 3) := by decide +kernel
theorem dX2_put_15 : decode cX2_put 15 = .ok (.iload 4, 2) := by decide +kernel
theorem dX2_put_17 : decode cX2_put 17 = .ok (.aload_n 0, 1) := by decide +kernel
theorem dX2_put_18 : decode cX2_put 18 = .ok (.getfield 27, 3) := by decide +kernel
theorem dX2_put_21 : decode cX2_put 21 = .ok (.arraylength, 1) := by decide +kernel
theorem dX2_put_22 : decode cX2_put 22 = .ok (.if_icmp .ge 11, 3) := by decide +kernel
theorem dX2_put_25 : decode cX2_put 25 = .ok (.aload_n 0, 1) := by decide +kernel
theorem dX2_put_26 : decode cX2_put 26 = .ok (.getfield 27, 3) := by decide +kernel
theorem dX2_put_29 : decode cX2_put 29 = .ok (.iload 4, 2) := by decide +kernel
theorem dX2_put_31 : decode cX2_put 31 = .ok (.iload_n 3, 1) := by decide +kernel
theorem dX2_put_32 : decode cX2_put 32 = .ok (.iastore, 1) := by decide +kernel
theorem dX2_put_33 : decode cX2_put 33 = .ok (.return_, 1) := by decide +kernel
set_option maxRecDepth 20000 in
theorem ggX2_addRow_X2_put : GoodIn wsX2_addRow wsX2_put := goodIn_r _ [8, 3, 9, 10, 11, 12, 13] (by decide +kernel) (by decide +kernel)
set_option maxRecDepth 20000 in
theorem gX2_addRow_X2_put : GoodIn wsX2_addRow (wsV RX2 37 RX2 yX2_put wsX2_put) := goodIn_app (goodIn_of _ (by decide +kernel)) ggX2_addRow_X2_put
theorem dX2_addRow_0 : decode cX2_addRow 0 = .ok (.aload_n 0, 1) := by decide +kernel
theorem dX2_addRow_1 : decode cX2_addRow 1 = .ok (.getfield 9, 3) := by decide +kernel
theorem dX2_addRow_4 : decode cX2_addRow 4 = .ok (.aload_n 0, 1) := by decide +kernel
theorem dX2_addRow_5 : decode cX2_addRow 5 = .ok (.getfield 24, 3) := by decide +kernel
theorem dX2_addRow_8 : decode cX2_addRow 8 = .ok (.if_icmp .lt 5, 3) := by decide +kernel
theorem dX2_addRow_11 : decode cX2_addRow 11 = .ok (.iconst (-1), 1) := by decide +kernel
theorem dX2_addRow_12 : decode cX2_addRow 12 = .ok (.ireturn, 1) := by decide +kernel
theorem dX2_addRow_13 : decode cX2_addRow 13 = .ok (.aload_n 0, 1) := by decide +kernel
theorem dX2_addRow_14 : decode cX2_addRow 14 = .ok (.getfield 9, 3) := by decide +kernel
theorem dX2_addRow_17 : decode cX2_addRow 17 = .ok (.istore_n 2, 1) := by decide +kernel
theorem dX2_addRow_18 : decode cX2_addRow 18 = .ok (.aload_n 0, 1) := by decide +kernel
theorem dX2_addRow_19 : decode cX2_addRow 19 = .ok (.dup, 1) := by decide +kernel
theorem dX2_addRow_20 : decode cX2_addRow 20 = .ok (.getfield 9, 3) := by decide +kernel
theorem dX2_addRow_23 : decode cX2_addRow 23 = .ok (.iconst 1, 1) := by decide +kernel
theorem dX2_addRow_24 : decode cX2_addRow 24 = .ok (.iadd, 1) := by decide +kernel
theorem dX2_addRow_25 : decode cX2_addRow 25 = .ok (.putfield 9, 3) := by decide +kernel
theorem dX2_addRow_28 : decode cX2_addRow 28 = .ok (.aload_n 0, 1) := by decide +kernel
theorem dX2_addRow_29 : decode cX2_addRow 29 = .ok (.iload_n 2, 1) := by decide +kernel
theorem dX2_addRow_30 : decode cX2_addRow 30 = .ok (.iconst 0, 1) := by decide +kernel
theorem dX2_addRow_31 : decode cX2_addRow 31 = .ok (.iload_n 1, 1) := by decide +kernel
theorem dX2_addRow_32 : decode cX2_addRow 32 = .ok (.invokevirtual 37, 3) := by decide +kernel
theorem dX2_addRow_35 : decode cX2_addRow 35 = .ok (.iconst 1, 1) := by decide +kernel
theorem dX2_addRow_36 : decode cX2_addRow 36 = .ok (.istore_n 3, 1) := by decide +kernel
theorem dX2_addRow_37 : decode cX2_addRow 37 = .ok (.iload_n 3, 1) := by decide +kernel
theorem dX2_addRow_38 : decode cX2_addRow 38 = .ok (.aload_n 0, 1) := by decide +kernel
theorem dX2_addRow_39 : decode cX2_addRow 39 = .ok (.getfield 21, 3) := by decide +kernel
theorem dX2_addRow_42 : decode cX2_addRow 42 = .ok (.if_icmp .ge 16, 3) := by decide +kernel
theorem dX2_addRow_45 : decode cX2_addRow 45 = .ok (.aload_n 0, 1) := by decide +kernel
theorem dX2_addRow_46 : decode cX2_addRow 46 = .ok (.iload_n 2, 1) := by decide +kernel
theorem dX2_addRow_47 : decode cX2_addRow 47 = .ok (.iload_n 3, 1) := by decide +kernel
theorem dX2_addRow_48 : decode cX2_addRow 48 = .ok (.iconst 0, 1) := by decide +kernel
theorem dX2_addRow_49 : decode cX2_addRow 49 = .ok (.invokevirtual 37, 3) := by decide +kernel
theorem dX2_addRow_52 : decode cX2_addRow 52 = .ok (.iinc 3 1, 3) := by decide +kernel
theorem dX2_addRow_55 : decode cX2_addRow 55 = .ok (.goto (-18), 3) := by decide +kernel
theorem dX2_addRow_58 : decode cX2_addRow 58 = .ok (.iload_n 2, 1) := by decide +kernel
theorem dX2_addRow_59 : decode cX2_addRow 59 = .ok (.ireturn, 1) := by decide +kernel
theorem dX2_removeRow_0 : decode cX2_removeRow 0 = .ok (.iload_n 1, 1) := by decide +kernel
theorem dX2_removeRow_1 : decode cX2_removeRow 1 = .ok (.ifCond .lt 11, 3) := by decide +kernel
theorem dX2_removeRow_4 : decode cX2_removeRow 4 = .ok (.iload_n 1, 1) := by decide +kernel
theorem dX2_removeRow_5 : decode cX2_removeRow 5 = .ok (.aload_n 0, 1) := by decide +kernel
theorem dX2_removeRow_6 : decode cX2_removeRow 6 = .ok (.getfield 9, 3) := by decide +kernel
theorem dX2_removeRow_9 : decode cX2_removeRow 9 = .ok (.if_icmp .lt 4, 3) := by decide +kernel
theorem dX2_removeRow_12 : decode cX2_removeRow 12 = .ok (.return_, 1) := by decide +kernel
theorem dX2_removeRow_13 : decode cX2_removeRow 13 = .ok (.aload_n 0, 1) := by decide +kernel
theorem dX2_removeRow_14 : decode cX2_removeRow 14 = .ok (.dup, 1) := by decide +kernel
theorem dX2_removeRow_15 : decode cX2_removeRow 15 = .ok (.getfield 9, 3) := by decide +kernel
theorem dX2_removeRow_18 : decode cX2_removeRow 18 = .ok (.iconst 1, 1) := by decide +kernel
theorem dX2_removeRow_19 : decode cX2_removeRow 19 = .ok (.isub, 1) := by decide +kernel
theorem dX2_removeRow_20 : decode cX2_removeRow 20 = .ok (.putfield 9, 3) := by decide +kernel
theorem dX2_removeRow_23 : decode cX2_removeRow 23 = .ok (.iload_n 1, 1) := by decide +kernel
theorem dX2_removeRow_24 : decode cX2_removeRow 24 = .ok (.aload_n 0, 1) := by decide +kernel
theorem dX2_removeRow_25 : decode cX2_removeRow 25 = .ok (.getfield 21, 3) := by decide +kernel
theorem dX2_removeRow_28 : decode cX2_removeRow 28 = .ok (.imul, 1) := by decide +kernel
theorem dX2_removeRow_29 : decode cX2_removeRow 29 = .ok (.istore_n 2, 1) := by decide +kernel
theorem dX2_removeRow_30 : decode cX2_removeRow 30 = .ok (.iload_n 2, 1) := by decide +kernel
theorem dX2_removeRow_31 : decode cX2_removeRow 31 = .ok (.aload_n 0, 1) := by decide +kernel
theorem dX2_removeRow_32 : decode cX2_removeRow 32 = .ok (.getfield 9, 3) := by decide +kernel
theorem dX2_removeRow_35 : decode cX2_removeRow 35 = .ok (.aload_n 0, 1) := by decide +kernel
theorem dX2_removeRow_36 : decode cX2_removeRow 36 = .ok (.getfield 21, 3) := by decide +kernel
theorem dX2_removeRow_39 : decode cX2_removeRow 39 = .ok (.imul, 1) := by decide +kernel
theorem dX2_removeRow_40 : decode cX2_removeRow 40 = .ok (.if_icmp .ge 40, 3) := by decide +kernel
theorem dX2_removeRow_43 : decode cX2_removeRow 43 = .ok (.iload_n 2, 1) := by decide +kernel
theorem dX2_removeRow_44 : decode cX2_removeRow 44 = .ok (.aload_n 0, 1) := by decide +kernel
theorem dX2_removeRow_45 : decode cX2_removeRow 45 = .ok (.getfield 21, 3) := by decide +kernel
theorem dX2_removeRow_48 : decode cX2_removeRow 48 = .ok (.iadd, 1) := by decide +kernel
theorem dX2_removeRow_49 : decode cX2_removeRow 49 = .ok (.aload_n 0, 1) := by decide +kernel
theorem dX2_removeRow_50 : decode cX2_removeRow 50 = .ok (.getfield 27, 3) := by decide +kernel
theorem dX2_removeRow_53 : decode cX2_removeRow 53 = .ok (.arraylength, 1) := by decide +kernel
theorem dX2_removeRow_54 : decode cX2_removeRow 54 = .ok (.if_icmp .ge 26, 3) := by decide +kernel
theorem dX2_removeRow_57 : decode cX2_removeRow 57 = .ok (.aload_n 0, 1) := by decide +kernel
theorem dX2_removeRow_58 : decode cX2_removeRow 58 = .ok (.getfield 27, 3) := by decide +kernel
theorem dX2_removeRow_61 : decode cX2_removeRow 61 = .ok (.iload_n 2, 1) := by decide +kernel
theorem dX2_removeRow_62 : decode cX2_removeRow 62 = .ok (.aload_n 0, 1) := by decide +kernel
theorem dX2_removeRow_63 : decode cX2_removeRow 63 = .ok (.getfield 27, 3) := by decide +kernel
theorem dX2_removeRow_66 : decode cX2_removeRow 66 = .ok (.iload_n 2, 1) := by decide +kernel
theorem dX2_removeRow_67 : decode cX2_removeRow 67 = .ok (.aload_n 0, 1) := by decide +kernel
theorem dX2_removeRow_68 : decode cX2_removeRow 68 = .ok (.getfield 21, 3) := by decide +kernel
theorem dX2_removeRow_71 : decode cX2_removeRow 71 = .ok (.iadd, 1) := by decide +kernel
theorem dX2_removeRow_72 : decode cX2_removeRow 72 = .ok (.iaload, 1) := by decide +kernel
theorem dX2_removeRow_73 : decode cX2_removeRow 73 = .ok (.iastore, 1) := by decide +kernel
theorem dX2_removeRow_74 : decode cX2_removeRow 74 = .ok (.iinc 2 1, 3) := by decide +kernel
theorem dX2_removeRow_77 : decode cX2_removeRow 77 = .ok (.goto (-47), 3) := by decide +kernel
theorem dX2_removeRow_80 : decode cX2_removeRow 80 = .ok (.return_, 1) := by decide +kernel
set_option maxRecDepth 20000 in
theorem ggX2_removeRowsOf_X2_get : GoodIn wsX2_removeRowsOf wsX2_get := goodIn_r _ [6, 7, 8, 13, 14, 15, 16] (by decide +kernel) (by decide +kernel)
set_option maxRecDepth 20000 in
theorem gX2_removeRowsOf_X2_get : GoodIn wsX2_removeRowsOf (wsV RX2 41 RX2 yX2_get wsX2_get) := goodIn_app (goodIn_of _ (by decide +kernel)) ggX2_removeRowsOf_X2_get
set_option maxRecDepth 20000 in
theorem ggX2_removeRowsOf_X2_removeRow : GoodIn wsX2_removeRowsOf wsX2_removeRow := goodIn_r _ [12, 1, 7, 8, 13, 14, 15, 16] (by decide +kernel) (by decide +kernel)
set_option maxRecDepth 20000 in
theorem gX2_removeRowsOf_X2_removeRow : GoodIn wsX2_removeRowsOf (wsV RX2 44 RX2 yX2_removeRow wsX2_removeRow) := goodIn_app (goodIn_of _ (by decide +kernel)) ggX2_removeRowsOf_X2_removeRow
theorem dX2_removeRowsOf_0 : decode cX2_removeRowsOf 0 = .ok (.aload_n 0, 1) := by decide +kernel
theorem dX2_removeRowsOf_1 : decode cX2_removeRowsOf 1 = .ok (.getfield 9, 3) := by decide +kernel
theorem dX2_removeRowsOf_4 : decode cX2_removeRowsOf 4 = .ok (.iconst 1, 1) := by decide +kernel
theorem dX2_removeRowsOf_5 : decode cX2_removeRowsOf 5 = .ok (.isub, 1) := by decide +kernel
theorem dX2_removeRowsOf_6 : decode cX2_removeRowsOf 6 = .ok (.istore_n 2, 1) := by decide +kernel
theorem dX2_removeRowsOf_7 : decode cX2_removeRowsOf 7 = .ok (.iload_n 2, 1) := by decide +kernel
theorem dX2_removeRowsOf_8 : decode cX2_removeRowsOf 8 = .ok (.ifCond .lt 24, 3) := by decide +kernel
theorem dX2_removeRowsOf_11 : decode cX2_removeRowsOf 11 = .ok (.aload_n 0, 1) := by decide +kernel
theorem dX2_removeRowsOf_12 : decode cX2_removeRowsOf 12 = .ok (.iload_n 2, 1) := by decide +kernel
theorem dX2_removeRowsOf_13 : decode cX2_removeRowsOf 13 = .ok (.iconst 0, 1) := by decide +kernel
theorem dX2_removeRowsOf_14 : decode cX2_removeRowsOf 14 = .ok (.invokevirtual 41, 3) := by decide +kernel
theorem dX2_removeRowsOf_17 : decode cX2_removeRowsOf 17 = .ok (.iload_n 1, 1) := by decide +kernel
theorem dX2_removeRowsOf_18 : decode cX2_removeRowsOf 18 = .ok (.if_icmp .ne 8, 3) := by decide +kernel
theorem dX2_removeRowsOf_21 : decode cX2_removeRowsOf 21 = .ok (.aload_n 0, 1) := by decide +kernel
theorem dX2_removeRowsOf_22 : decode cX2_removeRowsOf 22 = .ok (.iload_n 2, 1) := by decide +kernel
theorem dX2_removeRowsOf_23 : decode cX2_removeRowsOf 23 = .ok (.invokevirtual 44, 3) := by decide +kernel
theorem dX2_removeRowsOf_26 : decode cX2_removeRowsOf 26 = .ok (.iinc 2 (-1), 3) := by decide +kernel
theorem dX2_removeRowsOf_29 : decode cX2_removeRowsOf 29 = .ok (.goto (-22), 3) := by decide +kernel
theorem dX2_removeRowsOf_32 : decode cX2_removeRowsOf 32 = .ok (.return_, 1) := by decide +kernel
set_option maxRecDepth 20000 in
theorem ggX2_find_X2_get : GoodIn wsX2_find wsX2_get := goodIn_r _ [6, 7, 8, 9, 10, 11, 12] (by decide +kernel) (by decide +kernel)
set_option maxRecDepth 20000 in
theorem gX2_find_X2_get : GoodIn wsX2_find (wsV RX2 41 RX2 yX2_get wsX2_get) := goodIn_app (goodIn_of _ (by decide +kernel)) ggX2_find_X2_get
theorem dX2_find_0 : decode cX2_find 0 = .ok (.iconst 0, 1) := by decide +kernel
theorem dX2_find_1 : decode cX2_find 1 = .ok (.istore_n 2, 1) := by decide +kernel
theorem dX2_find_2 : decode cX2_find 2 = .ok (.iload_n 2, 1) := by decide +kernel
theorem dX2_find_3 : decode cX2_find 3 = .ok (.aload_n 0, 1) := by decide +kernel
theorem dX2_find_4 : decode cX2_find 4 = .ok (.getfield 9, 3) := by decide +kernel
theorem dX2_find_7 : decode cX2_find 7 = .ok (.if_icmp .ge 21, 3) := by decide +kernel
theorem dX2_find_10 : decode cX2_find 10 = .ok (.aload_n 0, 1) := by decide +kernel
theorem dX2_find_11 : decode cX2_find 11 = .ok (.iload_n 2, 1) := by decide +kernel
theorem dX2_find_12 : decode cX2_find 12 = .ok (.iconst 0, 1) := by decide +kernel
theorem dX2_find_13 : decode cX2_find 13 = .ok (.invokevirtual 41, 3) := by decide +kernel
theorem dX2_find_16 : decode cX2_find 16 = .ok (.iload_n 1, 1) := by decide +kernel
theorem dX2_find_17 : decode cX2_find 17 = .ok (.if_icmp .ne 5, 3) := by decide +kernel
theorem dX2_find_20 : decode cX2_find 20 = .ok (.iload_n 2, 1) := by decide +kernel
theorem dX2_find_21 : decode cX2_find 21 = .ok (.ireturn, 1) := by decide +kernel
theorem dX2_find_22 : decode cX2_find 22 = .ok (.iinc 2 1, 3) := by decide +kernel
theorem dX2_find_25 : decode cX2_find 25 = .ok (.goto (-23), 3) := by decide +kernel
theorem dX2_find_28 : decode cX2_find 28 = .ok (.iconst (-1), 1) := by decide +kernel
theorem dX2_find_29 : decode cX2_find 29 = .ok (.ireturn, 1) := by decide +kernel
set_option maxRecDepth 20000 in
theorem ggX2_hasBelow_X2_get : GoodIn wsX2_hasBelow wsX2_get := goodIn_r _ [6, 7, 8, 9, 10, 11, 12] (by decide +kernel) (by decide +kernel)
set_option maxRecDepth 20000 in
theorem gX2_hasBelow_X2_get : GoodIn wsX2_hasBelow (wsV RX2 41 RX2 yX2_get wsX2_get) := goodIn_app (goodIn_of _ (by decide +kernel)) ggX2_hasBelow_X2_get
theorem dX2_hasBelow_0 : decode cX2_hasBelow 0 = .ok (.iconst 0, 1) := by decide +kernel
theorem dX2_hasBelow_1 : decode cX2_hasBelow 1 = .ok (.istore_n 3, 1) := by decide +kernel
theorem dX2_hasBelow_2 : decode cX2_hasBelow 2 = .ok (.iload_n 3, 1) := by decide +kernel
theorem dX2_hasBelow_3 : decode cX2_hasBelow 3 = .ok (.aload_n 0, 1) := by decide +kernel
theorem dX2_hasBelow_4 : decode cX2_hasBelow 4 = .ok (.getfield 9, 3) := by decide +kernel
theorem dX2_hasBelow_7 : decode cX2_hasBelow 7 = .ok (.if_icmp .ge 21, 3) := by decide +kernel
theorem dX2_hasBelow_10 : decode cX2_hasBelow 10 = .ok (.aload_n 0, 1) := by decide +kernel
theorem dX2_hasBelow_11 : decode cX2_hasBelow 11 = .ok (.iload_n 3, 1) := by decide +kernel
theorem dX2_hasBelow_12 : decode cX2_hasBelow 12 = .ok (.iload_n 1, 1) := by decide +kernel
theorem dX2_hasBelow_13 : decode cX2_hasBelow 13 = .ok (.invokevirtual 41, 3) := by decide +kernel
theorem dX2_hasBelow_16 : decode cX2_hasBelow 16 = .ok (.iload_n 2, 1) := by decide +kernel
theorem dX2_hasBelow_17 : decode cX2_hasBelow 17 = .ok (.if_icmp .ge 5, 3) := by decide +kernel
theorem dX2_hasBelow_20 : decode cX2_hasBelow 20 = .ok (.iconst 1, 1) := by decide +kernel
theorem dX2_hasBelow_21 : decode cX2_hasBelow 21 = .ok (.ireturn, 1) := by decide +kernel
theorem dX2_hasBelow_22 : decode cX2_hasBelow 22 = .ok (.iinc 3 1, 3) := by decide +kernel
theorem dX2_hasBelow_25 : decode cX2_hasBelow 25 = .ok (.goto (-23), 3) := by decide +kernel
theorem dX2_hasBelow_28 : decode cX2_hasBelow 28 = .ok (.iconst 0, 1) := by decide +kernel
theorem dX2_hasBelow_29 : decode cX2_hasBelow 29 = .ok (.ireturn, 1) := by decide +kernel
set_option maxRecDepth 20000 in
theorem ggX2_increase_X2_get : GoodIn wsX2_increase wsX2_get := goodIn_r _ [6, 7, 8, 13, 14, 15, 16] (by decide +kernel) (by decide +kernel)
set_option maxRecDepth 20000 in
theorem gX2_increase_X2_get : GoodIn wsX2_increase (wsV RX2 41 RX2 yX2_get wsX2_get) := goodIn_app (goodIn_of _ (by decide +kernel)) ggX2_increase_X2_get
set_option maxRecDepth 20000 in
theorem ggX2_increase_X2_put : GoodIn wsX2_increase wsX2_put := goodIn_r _ [12, 7, 8, 13, 14, 15, 16] (by decide +kernel) (by decide +kernel)
set_option maxRecDepth 20000 in
theorem gX2_increase_X2_put : GoodIn wsX2_increase (wsV RX2 37 RX2 yX2_put wsX2_put) := goodIn_app (goodIn_of _ (by decide +kernel)) ggX2_increase_X2_put
theorem dX2_increase_0 : decode cX2_increase 0 = .ok (.iconst 0, 1) := by decide +kernel
theorem dX2_increase_1 : decode cX2_increase 1 = .ok (.istore_n 2, 1) := by decide +kernel
theorem dX2_increase_2 : decode cX2_increase 2 = .ok (.iload_n 2, 1) := by decide +kernel
theorem dX2_increase_3 : decode cX2_increase 3 = .ok (.aload_n 0, 1) := by decide +kernel
theorem dX2_increase_4 : decode cX2_increase 4 = .ok (.getfield 9, 3) := by decide +kernel
theorem dX2_increase_7 : decode cX2_increase 7 = .ok (.if_icmp .ge 23, 3) := by decide +kernel
theorem dX2_increase_10 : decode cX2_increase 10 = .ok (.aload_n 0, 1) := by decide +kernel
theorem dX2_increase_11 : decode cX2_increase 11 = .ok (.iload_n 2, 1) := by decide +kernel
theorem dX2_increase_12 : decode cX2_increase 12 = .ok (.iload_n 1, 1) := by decide +kernel
theorem dX2_increase_13 : decode cX2_increase 13 = .ok (.aload_n 0, 1) := by decide +kernel
theorem dX2_increase_14 : decode cX2_increase 14 = .ok (.iload_n 2, 1) := by decide +kernel
theorem dX2_increase_15 : decode cX2_increase 15 = .ok (.iload_n 1, 1) := by decide +kernel
theorem dX2_increase_16 : decode cX2_increase 16 = .ok (.invokevirtual 41, 3) := by decide +kernel
theorem dX2_increase_19 : decode cX2_increase 19 = .ok (.iconst 1, 1) := by decide +kernel
theorem dX2_increase_20 : decode cX2_increase 20 = .ok (.iadd, 1) := by decide +kernel
theorem dX2_increase_21 : decode cX2_increase 21 = .ok (.invokevirtual 37, 3) := by decide +kernel
theorem dX2_increase_24 : decode cX2_increase 24 = .ok (.iinc 2 1, 3) := by decide +kernel
theorem dX2_increase_27 : decode cX2_increase 27 = .ok (.goto (-25), 3) := by decide +kernel
theorem dX2_increase_30 : decode cX2_increase 30 = .ok (.return_, 1) := by decide +kernel
set_option maxRecDepth 20000 in
theorem ggX2_mixInto_X2_get : GoodIn wsX2_mixInto wsX2_get := goodIn_r _ [8, 2, 9, 10, 11, 12, 13] (by decide +kernel) (by decide +kernel)
set_option maxRecDepth 20000 in
theorem gX2_mixInto_X2_get : GoodIn wsX2_mixInto (wsV RX2 41 RX2 yX2_get wsX2_get) := goodIn_app (goodIn_of _ (by decide +kernel)) ggX2_mixInto_X2_get
theorem dX2_mixInto_0 : decode cX2_mixInto 0 = .ok (.lload_n 1, 1) := by decide +kernel
theorem dX2_mixInto_1 : decode cX2_mixInto 1 = .ok (.lstore_n 3, 1) := by decide +kernel
theorem dX2_mixInto_2 : decode cX2_mixInto 2 = .ok (.iconst 0, 1) := by decide +kernel
theorem dX2_mixInto_3 : decode cX2_mixInto 3 = .ok (.istore 5, 2) := by decide +kernel
theorem dX2_mixInto_5 : decode cX2_mixInto 5 = .ok (.iload 5, 2) := by decide +kernel
theorem dX2_mixInto_7 : decode cX2_mixInto 7 = .ok (.aload_n 0, 1) := by decide +kernel
theorem dX2_mixInto_8 : decode cX2_mixInto 8 = .ok (.getfield 9, 3) := by decide +kernel
theorem dX2_mixInto_11 : decode cX2_mixInto 11 = .ok (.if_icmp .ge 43, 3) := by decide +kernel
theorem dX2_mixInto_14 : decode cX2_mixInto 14 = .ok (.iconst 0, 1) := by decide +kernel
theorem dX2_mixInto_15 : decode cX2_mixInto 15 = .ok (.istore 6, 2) := by decide +kernel
theorem dX2_mixInto_17 : decode cX2_mixInto 17 = .ok (.iload 6, 2) := by decide +kernel
theorem dX2_mixInto_19 : decode cX2_mixInto 19 = .ok (.aload_n 0, 1) := by decide +kernel
theorem dX2_mixInto_20 : decode cX2_mixInto 20 = .ok (.getfield 21, 3) := by decide +kernel
theorem dX2_mixInto_23 : decode cX2_mixInto 23 = .ok (.if_icmp .ge 25, 3) := by decide +kernel
theorem dX2_mixInto_26 : decode cX2_mixInto 26 = .ok (.ldc2_w 48, 3) := by decide +kernel
theorem dX2_mixInto_29 : decode cX2_mixInto 29 = .ok (.lload_n 3, 1) := by decide +kernel
theorem dX2_mixInto_30 : decode cX2_mixInto 30 = .ok (.lmul, 1) := by decide +kernel
theorem dX2_mixInto_31 : decode cX2_mixInto 31 = .ok (.aload_n 0, 1) := by decide +kernel
theorem dX2_mixInto_32 : decode cX2_mixInto 32 = .ok (.iload 5, 2) := by decide +kernel
theorem dX2_mixInto_34 : decode cX2_mixInto 34 = .ok (.iload 6, 2) := by decide +kernel
theorem dX2_mixInto_36 : decode cX2_mixInto 36 = .ok (.invokevirtual 41, 3) := by decide +kernel
theorem dX2_mixInto_39 : decode cX2_mixInto 39 = .ok (.i2l, 1) := by decide +kernel
theorem dX2_mixInto_40 : decode cX2_mixInto 40 = .ok (.ladd, 1) := by decide +kernel
theorem dX2_mixInto_41 : decode cX2_mixInto 41 = .ok (.lstore_n 3, 1) := by decide +kernel
theorem dX2_mixInto_42 : decode cX2_mixInto 42 = .ok (.iinc 6 1, 3) := by decide +kernel
theorem dX2_mixInto_45 : decode cX2_mixInto 45 = .ok (.goto (-28), 3) := by decide +kernel
theorem dX2_mixInto_48 : decode cX2_mixInto 48 = .ok (.iinc 5 1, 3) := by decide +kernel
theorem dX2_mixInto_51 : decode cX2_mixInto 51 = .ok (.goto (-46), 3) := by decide +kernel
theorem dX2_mixInto_54 : decode cX2_mixInto 54 = .ok (.lload_n 3, 1) := by decide +kernel
theorem dX2_mixInto_55 : decode cX2_mixInto 55 = .ok (.lreturn, 1) := by decide +kernel
set_option maxRecDepth 20000 in
theorem ggX3_init_X1_init : GoodIn wsX3_init wsX1_init := goodIn_r _ [18, 19, 2, 3, 20, 21, 22, 23, 24, 25, 26, 27, 28, 29, 30, 31, 32, 33, 34, 35, 36, 37, 38, 39, 40, 41, 42, 43, 44, 45, 46, 47, 48, 49, 50, 51, 61, 62, 63, 64, 65, 66, 67, 68, 69, 70, 71, 72, 73, 74, 75, 76, 85, 86, 87, 88] (by decide +kernel) (by decide +kernel)
set_option maxRecDepth 20000 in
theorem gX3_init_X1_init : GoodIn wsX3_init (wsX1_init) := ggX3_init_X1_init
set_option maxRecDepth 20000 in
theorem ggX3_init_X0_init : GoodIn wsX3_init wsX0_init := goodIn_r _ [54, 55, 2, 3, 56, 57, 58, 59, 5, 6, 60, 17, 18, 19, 20, 21, 22, 23, 24, 25, 26, 27, 28, 29, 30, 31, 32, 33, 34, 35, 36, 37, 38, 39, 40, 41, 42, 43, 44, 45, 46, 47, 48, 49, 50, 51, 82, 83, 84, 61, 62, 63, 64, 65, 66, 67, 68, 69, 70, 71, 72, 73, 74, 75, 76, 85, 86, 87, 88] (by decide +kernel) (by decide +kernel)
set_option maxRecDepth 20000 in
theorem gX3_init_X0_init : GoodIn wsX3_init (wsX0_init) := ggX3_init_X0_init
theorem dX3_init_0 : decode cX3_init 0 = .ok (.aload_n 0, 1) := by decide +kernel
theorem dX3_init_1 : decode cX3_init 1 = .ok (.invokespecial 1, 3) := by decide +kernel
theorem dX3_init_4 : decode cX3_init 4 = .ok (.aload_n 0, 1) := by decide +kernel
theorem dX3_init_5 : decode cX3_init 5 = .ok (.new 7, 3) := by decide +kernel
theorem dX3_init_8 : decode cX3_init 8 = .ok (.dup, 1) := by decide +kernel
theorem dX3_init_9 : decode cX3_init 9 = .ok (.invokespecial 9, 3) := by decide +kernel
theorem dX3_init_12 : decode cX3_init 12 = .ok (.putfield 10, 3) := by decide +kernel
theorem dX3_init_15 : decode cX3_init 15 = .ok (.aload_n 0, 1) := by decide +kernel
theorem dX3_init_16 : decode cX3_init 16 = .ok (.new 7, 3) := by decide +kernel
theorem dX3_init_19 : decode cX3_init 19 = .ok (.dup, 1) := by decide +kernel
theorem dX3_init_20 : decode cX3_init 20 = .ok (.invokespecial 9, 3) := by decide +kernel
theorem dX3_init_23 : decode cX3_init 23 = .ok (.putfield 16, 3) := by decide +kernel
theorem dX3_init_26 : decode cX3_init 26 = .ok (.aload_n 0, 1) := by decide +kernel
theorem dX3_init_27 : decode cX3_init 27 = .ok (.new 19, 3) := by decide +kernel
theorem dX3_init_30 : decode cX3_init 30 = .ok (.dup, 1) := by decide +kernel
theorem dX3_init_31 : decode cX3_init 31 = .ok (.invokespecial 21, 3) := by decide +kernel
theorem dX3_init_34 : decode cX3_init 34 = .ok (.putfield 22, 3) := by decide +kernel
theorem dX3_init_37 : decode cX3_init 37 = .ok (.aload_n 0, 1) := by decide +kernel
theorem dX3_init_38 : decode cX3_init 38 = .ok (.bipush 80, 2) := by decide +kernel
theorem dX3_init_40 : decode cX3_init 40 = .ok (.newarray .byte, 2) := by decide +kernel
theorem dX3_init_42 : decode cX3_init 42 = .ok (.putfield 26, 3) := by decide +kernel
theorem dX3_init_45 : decode cX3_init 45 = .ok (.aload_n 0, 1) := by decide +kernel
theorem dX3_init_46 : decode cX3_init 46 = .ok (.iconst 0, 1) := by decide +kernel
theorem dX3_init_47 : decode cX3_init 47 = .ok (.putfield 30, 3) := by decide +kernel
theorem dX3_init_50 : decode cX3_init 50 = .ok (.return_, 1) := by decide +kernel
set_option maxRecDepth 20000 in
theorem ggX3_setPlaces_X2_count : GoodIn wsX3_setPlaces wsX2_count := goodIn_r _ [11, 12, 95, 96, 97, 98] (by decide +kernel) (by decide +kernel)
set_option maxRecDepth 20000 in
theorem gX3_setPlaces_X2_count : GoodIn wsX3_setPlaces (wsV RX3 45 RX2 yX2_count wsX2_count) := goodIn_app (goodIn_of _ (by decide +kernel)) ggX3_setPlaces_X2_count
set_option maxRecDepth 20000 in
theorem ggX3_setPlaces_X0_save : GoodIn wsX3_setPlaces wsX0_save := goodIn_r _ [17, 18, 19, 20, 16, 21, 22, 23, 24, 25, 26, 27, 28, 29, 30, 31, 32, 33, 34, 35, 36, 37, 38, 39, 40, 41, 42, 43, 44, 45, 46, 47, 48, 49, 50, 51, 52, 53, 54, 55, 56, 57, 58, 10, 59, 60, 61, 12, 62, 63, 64, 65, 99, 100, 101, 79, 80, 81, 82, 83, 84, 85, 86, 87, 88, 89, 90, 91, 92, 93, 94, 95, 96, 97, 98] (by decide +kernel) (by decide +kernel)
set_option maxRecDepth 20000 in
theorem gX3_setPlaces_X0_save : GoodIn wsX3_setPlaces (wsV RX3 59 RX0 yX0_save wsX0_save) := goodIn_app (goodIn_of _ (by decide +kernel)) ggX3_setPlaces_X0_save
set_option maxRecDepth 20000 in
theorem ggX3_setPlaces_X1_place : GoodIn wsX3_setPlaces wsX1_place := goodIn_r _ [69, 43, 79, 80, 81, 82, 83, 84, 85, 86, 87, 88, 89, 90, 91, 92, 93, 94] (by decide +kernel) (by decide +kernel)
set_option maxRecDepth 20000 in
theorem gX3_setPlaces_X1_place : GoodIn wsX3_setPlaces (wsV RX3 63 RX1 yX1_place wsX1_place) := goodIn_app (goodIn_of _ (by decide +kernel)) ggX3_setPlaces_X1_place
set_option maxRecDepth 20000 in
theorem ggX3_setPlaces_X1_putPlace : GoodIn wsX3_setPlaces wsX1_putPlace := goodIn_r _ [73, 43, 79, 80, 81, 82, 83, 84, 85, 86, 87, 88, 89, 90, 91, 92, 93, 94] (by decide +kernel) (by decide +kernel)
set_option maxRecDepth 20000 in
theorem gX3_setPlaces_X1_putPlace : GoodIn wsX3_setPlaces (wsV RX3 67 RX1 yX1_putPlace wsX1_putPlace) := goodIn_app (goodIn_of _ (by decide +kernel)) ggX3_setPlaces_X1_putPlace
theorem dX3_setPlaces_0 : decode cX3_setPlaces 0 = .ok (.iload_n 1, 1) := by decide +kernel
theorem dX3_setPlaces_1 : decode cX3_setPlaces 1 = .ok (.iload_n 2, 1) := by decide +kernel
theorem dX3_setPlaces_2 : decode cX3_setPlaces 2 = .ok (.if_icmp .ge 25, 3) := by decide +kernel
theorem dX3_setPlaces_5 : decode cX3_setPlaces 5 = .ok (.iload_n 2, 1) := by decide +kernel
theorem dX3_setPlaces_6 : decode cX3_setPlaces 6 = .ok (.iload_n 3, 1) := by decide +kernel
theorem dX3_setPlaces_7 : decode cX3_setPlaces 7 = .ok (.if_icmp .ge 20, 3) := by decide +kernel
theorem dX3_setPlaces_10 : decode cX3_setPlaces 10 = .ok (.iload_n 3, 1) := by decide +kernel
theorem dX3_setPlaces_11 : decode cX3_setPlaces 11 = .ok (.iload 4, 2) := by decide +kernel
theorem dX3_setPlaces_13 : decode cX3_setPlaces 13 = .ok (.if_icmp .ge 14, 3) := by decide +kernel
theorem dX3_setPlaces_16 : decode cX3_setPlaces 16 = .ok (.iload 4, 2) := by decide +kernel
theorem dX3_setPlaces_18 : decode cX3_setPlaces 18 = .ok (.iload 5, 2) := by decide +kernel
theorem dX3_setPlaces_20 : decode cX3_setPlaces 20 = .ok (.if_icmp .ge 7, 3) := by decide +kernel
theorem dX3_setPlaces_23 : decode cX3_setPlaces 23 = .ok (.iconst 1, 1) := by decide +kernel
theorem dX3_setPlaces_24 : decode cX3_setPlaces 24 = .ok (.goto 4, 3) := by decide +kernel
theorem dX3_setPlaces_27 : decode cX3_setPlaces 27 = .ok (.iconst 0, 1) := by decide +kernel
theorem dX3_setPlaces_28 : decode cX3_setPlaces 28 = .ok (.istore 6, 2) := by decide +kernel
theorem dX3_setPlaces_30 : decode cX3_setPlaces 30 = .ok (.iload 6, 2) := by decide +kernel
theorem dX3_setPlaces_32 : decode cX3_setPlaces 32 = .ok (.ifCond .eq 16, 3) := by decide +kernel
theorem dX3_setPlaces_35 : decode cX3_setPlaces 35 = .ok (.iload_n 1, 1) := by decide +kernel
theorem dX3_setPlaces_36 : decode cX3_setPlaces 36 = .ok (.iconst 1, 1) := by decide +kernel
theorem dX3_setPlaces_37 : decode cX3_setPlaces 37 = .ok (.if_icmp .lt 11, 3) := by decide +kernel
theorem dX3_setPlaces_40 : decode cX3_setPlaces 40 = .ok (.iload 5, 2) := by decide +kernel
theorem dX3_setPlaces_42 : decode cX3_setPlaces 42 = .ok (.sipush 1000, 3) := by decide +kernel
theorem dX3_setPlaces_45 : decode cX3_setPlaces 45 = .ok (.if_icmp .le 13, 3) := by decide +kernel
theorem dX3_setPlaces_48 : decode cX3_setPlaces 48 = .ok (.new 34, 3) := by decide +kernel
theorem dX3_setPlaces_51 : decode cX3_setPlaces 51 = .ok (.dup, 1) := by decide +kernel
theorem dX3_setPlaces_52 : decode cX3_setPlaces 52 = .ok (.ldc 36, 2) := by decide +kernel
theorem dX3_setPlaces_54 : decode cX3_setPlaces 54 = .ok (.invokespecial 38, 3) := by decide +kernel
theorem dX3_setPlaces_57 : decode cX3_setPlaces 57 = .ok (.athrow, 1) := by decide +kernel
theorem dX3_setPlaces_58 : decode cX3_setPlaces 58 = .ok (.aload_n 0, 1) := by decide +kernel
theorem dX3_setPlaces_59 : decode cX3_setPlaces 59 = .ok (.getfield 10, 3) := by decide +kernel
theorem dX3_setPlaces_62 : decode cX3_setPlaces 62 = .ok (.getfield 41, 3) := by decide +kernel
theorem dX3_setPlaces_65 : decode cX3_setPlaces 65 = .ok (.invokevirtual 45, 3) := by decide +kernel
theorem dX3_setPlaces_68 : decode cX3_setPlaces 68 = .ok (.ifCond .gt 16, 3) := by decide +kernel
theorem dX3_setPlaces_71 : decode cX3_setPlaces 71 = .ok (.aload_n 0, 1) := by decide +kernel
theorem dX3_setPlaces_72 : decode cX3_setPlaces 72 = .ok (.getfield 10, 3) := by decide +kernel
theorem dX3_setPlaces_75 : decode cX3_setPlaces 75 = .ok (.getfield 51, 3) := by decide +kernel
theorem dX3_setPlaces_78 : decode cX3_setPlaces 78 = .ok (.invokevirtual 45, 3) := by decide +kernel
theorem dX3_setPlaces_81 : decode cX3_setPlaces 81 = .ok (.ifCond .le 13, 3) := by decide +kernel
theorem dX3_setPlaces_84 : decode cX3_setPlaces 84 = .ok (.new 54, 3) := by decide +kernel
theorem dX3_setPlaces_87 : decode cX3_setPlaces 87 = .ok (.dup, 1) := by decide +kernel
theorem dX3_setPlaces_88 : decode cX3_setPlaces 88 = .ok (.ldc 56, 2) := by decide +kernel
theorem dX3_setPlaces_90 : decode cX3_setPlaces 90 = .ok (.invokespecial 58, 3) := by decide +kernel
theorem dX3_setPlaces_93 : decode cX3_setPlaces 93 = .ok (.athrow, 1) := by decide +kernel
theorem dX3_setPlaces_94 : decode cX3_setPlaces 94 = .ok (.aload_n 0, 1) := by decide +kernel
theorem dX3_setPlaces_95 : decode cX3_setPlaces 95 = .ok (.getfield 22, 3) := by decide +kernel
theorem dX3_setPlaces_98 : decode cX3_setPlaces 98 = .ok (.aload_n 0, 1) := by decide +kernel
theorem dX3_setPlaces_99 : decode cX3_setPlaces 99 = .ok (.getfield 10, 3) := by decide +kernel
theorem dX3_setPlaces_102 : decode cX3_setPlaces 102 = .ok (.invokevirtual 59, 3) := by decide +kernel
theorem dX3_setPlaces_105 : decode cX3_setPlaces 105 = .ok (.aload_n 0, 1) := by decide +kernel
theorem dX3_setPlaces_106 : decode cX3_setPlaces 106 = .ok (.getfield 10, 3) := by decide +kernel
theorem dX3_setPlaces_109 : decode cX3_setPlaces 109 = .ok (.iconst 4, 1) := by decide +kernel
theorem dX3_setPlaces_110 : decode cX3_setPlaces 110 = .ok (.invokevirtual 63, 3) := by decide +kernel
theorem dX3_setPlaces_113 : decode cX3_setPlaces 113 = .ok (.istore 7, 2) := by decide +kernel
theorem dX3_setPlaces_115 : decode cX3_setPlaces 115 = .ok (.aload_n 0, 1) := by decide +kernel
theorem dX3_setPlaces_116 : decode cX3_setPlaces 116 = .ok (.getfield 10, 3) := by decide +kernel
theorem dX3_setPlaces_119 : decode cX3_setPlaces 119 = .ok (.iconst 0, 1) := by decide +kernel
theorem dX3_setPlaces_120 : decode cX3_setPlaces 120 = .ok (.iload_n 1, 1) := by decide +kernel
theorem dX3_setPlaces_121 : decode cX3_setPlaces 121 = .ok (.invokevirtual 67, 3) := by decide +kernel
theorem dX3_setPlaces_124 : decode cX3_setPlaces 124 = .ok (.aload_n 0, 1) := by decide +kernel
theorem dX3_setPlaces_125 : decode cX3_setPlaces 125 = .ok (.getfield 10, 3) := by decide +kernel
theorem dX3_setPlaces_128 : decode cX3_setPlaces 128 = .ok (.iconst 1, 1) := by decide +kernel
theorem dX3_setPlaces_129 : decode cX3_setPlaces 129 = .ok (.iload_n 2, 1) := by decide +kernel
theorem dX3_setPlaces_130 : decode cX3_setPlaces 130 = .ok (.invokevirtual 67, 3) := by decide +kernel
theorem dX3_setPlaces_133 : decode cX3_setPlaces 133 = .ok (.aload_n 0, 1) := by decide +kernel
theorem dX3_setPlaces_134 : decode cX3_setPlaces 134 = .ok (.getfield 10, 3) := by decide +kernel
theorem dX3_setPlaces_137 : decode cX3_setPlaces 137 = .ok (.iconst 2, 1) := by decide +kernel
theorem dX3_setPlaces_138 : decode cX3_setPlaces 138 = .ok (.iload_n 3, 1) := by decide +kernel
theorem dX3_setPlaces_139 : decode cX3_setPlaces 139 = .ok (.invokevirtual 67, 3) := by decide +kernel
theorem dX3_setPlaces_142 : decode cX3_setPlaces 142 = .ok (.aload_n 0, 1) := by decide +kernel
theorem dX3_setPlaces_143 : decode cX3_setPlaces 143 = .ok (.getfield 10, 3) := by decide +kernel
theorem dX3_setPlaces_146 : decode cX3_setPlaces 146 = .ok (.iconst 3, 1) := by decide +kernel
theorem dX3_setPlaces_147 : decode cX3_setPlaces 147 = .ok (.iload 4, 2) := by decide +kernel
theorem dX3_setPlaces_149 : decode cX3_setPlaces 149 = .ok (.invokevirtual 67, 3) := by decide +kernel
theorem dX3_setPlaces_152 : decode cX3_setPlaces 152 = .ok (.aload_n 0, 1) := by decide +kernel
theorem dX3_setPlaces_153 : decode cX3_setPlaces 153 = .ok (.getfield 10, 3) := by decide +kernel
theorem dX3_setPlaces_156 : decode cX3_setPlaces 156 = .ok (.iconst 4, 1) := by decide +kernel
theorem dX3_setPlaces_157 : decode cX3_setPlaces 157 = .ok (.iload 5, 2) := by decide +kernel
theorem dX3_setPlaces_159 : decode cX3_setPlaces 159 = .ok (.invokevirtual 67, 3) := by decide +kernel
theorem dX3_setPlaces_162 : decode cX3_setPlaces 162 = .ok (.iload 7, 2) := by decide +kernel
theorem dX3_setPlaces_164 : decode cX3_setPlaces 164 = .ok (.ireturn, 1) := by decide +kernel
set_option maxRecDepth 20000 in
theorem ggX3_set_X3_least : GoodIn wsX3_set wsX3_least := goodIn_r _ [8, 9] (by decide +kernel) (by decide +kernel)
set_option maxRecDepth 20000 in
theorem gX3_set_X3_least : GoodIn wsX3_set (va_wsS RX3 73 yX3_least wsX3_least) := goodIn_app (goodIn_of _ (by decide +kernel)) ggX3_set_X3_least
set_option maxRecDepth 20000 in
theorem ggX3_set_X3_most : GoodIn wsX3_set wsX3_most := goodIn_r _ [12, 13] (by decide +kernel) (by decide +kernel)
set_option maxRecDepth 20000 in
theorem gX3_set_X3_most : GoodIn wsX3_set (va_wsS RX3 76 yX3_most wsX3_most) := goodIn_app (goodIn_of _ (by decide +kernel)) ggX3_set_X3_most
set_option maxRecDepth 20000 in
theorem ggX3_set_X0_save : GoodIn wsX3_set wsX0_save := goodIn_r _ [18, 19, 20, 21, 17, 22, 23, 24, 25, 26, 27, 28, 29, 30, 31, 32, 33, 34, 35, 36, 37, 38, 39, 40, 41, 42, 43, 44, 45, 46, 47, 48, 49, 50, 51, 52, 53, 54, 55, 56, 57, 58, 59, 60, 61, 62, 63, 64, 65, 66, 67, 68, 82, 83, 84, 85, 86, 87, 88, 89, 90, 91, 92, 93, 94, 95, 96, 97, 98, 99, 100, 101, 102, 103, 104] (by decide +kernel) (by decide +kernel)
set_option maxRecDepth 20000 in
theorem gX3_set_X0_save : GoodIn wsX3_set (wsV RX3 59 RX0 yX0_save wsX0_save) := goodIn_app (goodIn_of _ (by decide +kernel)) ggX3_set_X0_save
set_option maxRecDepth 20000 in
theorem ggX3_set_X1_setting : GoodIn wsX3_set wsX1_setting := goodIn_r _ [72, 35, 85, 86, 87, 88, 89, 90, 91, 92, 93, 94, 95, 96, 97, 98, 99, 100] (by decide +kernel) (by decide +kernel)
set_option maxRecDepth 20000 in
theorem gX3_set_X1_setting : GoodIn wsX3_set (wsV RX3 81 RX1 yX1_setting wsX1_setting) := goodIn_app (goodIn_of _ (by decide +kernel)) ggX3_set_X1_setting
set_option maxRecDepth 20000 in
theorem ggX3_set_X1_putSetting : GoodIn wsX3_set wsX1_putSetting := goodIn_r _ [76, 35, 85, 86, 87, 88, 89, 90, 91, 92, 93, 94, 95, 96, 97, 98, 99, 100] (by decide +kernel) (by decide +kernel)
set_option maxRecDepth 20000 in
theorem gX3_set_X1_putSetting : GoodIn wsX3_set (wsV RX3 84 RX1 yX1_putSetting wsX1_putSetting) := goodIn_app (goodIn_of _ (by decide +kernel)) ggX3_set_X1_putSetting
theorem dX3_set_0 : decode cX3_set 0 = .ok (.iload_n 1, 1) := by decide +kernel
theorem dX3_set_1 : decode cX3_set 1 = .ok (.ifCond .lt 9, 3) := by decide +kernel
theorem dX3_set_4 : decode cX3_set 4 = .ok (.iload_n 1, 1) := by decide +kernel
theorem dX3_set_5 : decode cX3_set 5 = .ok (.bipush 6, 2) := by decide +kernel
theorem dX3_set_7 : decode cX3_set 7 = .ok (.if_icmp .le 13, 3) := by decide +kernel
theorem dX3_set_10 : decode cX3_set 10 = .ok (.new 34, 3) := by decide +kernel
theorem dX3_set_13 : decode cX3_set 13 = .ok (.dup, 1) := by decide +kernel
theorem dX3_set_14 : decode cX3_set 14 = .ok (.ldc 71, 2) := by decide +kernel
theorem dX3_set_16 : decode cX3_set 16 = .ok (.invokespecial 38, 3) := by decide +kernel
theorem dX3_set_19 : decode cX3_set 19 = .ok (.athrow, 1) := by decide +kernel
theorem dX3_set_20 : decode cX3_set 20 = .ok (.iload_n 2, 1) := by decide +kernel
theorem dX3_set_21 : decode cX3_set 21 = .ok (.iload_n 1, 1) := by decide +kernel
theorem dX3_set_22 : decode cX3_set 22 = .ok (.invokestatic 73, 3) := by decide +kernel
theorem dX3_set_25 : decode cX3_set 25 = .ok (.if_icmp .lt 11, 3) := by decide +kernel
theorem dX3_set_28 : decode cX3_set 28 = .ok (.iload_n 2, 1) := by decide +kernel
theorem dX3_set_29 : decode cX3_set 29 = .ok (.iload_n 1, 1) := by decide +kernel
theorem dX3_set_30 : decode cX3_set 30 = .ok (.invokestatic 76, 3) := by decide +kernel
theorem dX3_set_33 : decode cX3_set 33 = .ok (.if_icmp .le 13, 3) := by decide +kernel
theorem dX3_set_36 : decode cX3_set 36 = .ok (.new 34, 3) := by decide +kernel
theorem dX3_set_39 : decode cX3_set 39 = .ok (.dup, 1) := by decide +kernel
theorem dX3_set_40 : decode cX3_set 40 = .ok (.ldc 79, 2) := by decide +kernel
theorem dX3_set_42 : decode cX3_set 42 = .ok (.invokespecial 38, 3) := by decide +kernel
theorem dX3_set_45 : decode cX3_set 45 = .ok (.athrow, 1) := by decide +kernel
theorem dX3_set_46 : decode cX3_set 46 = .ok (.aload_n 0, 1) := by decide +kernel
theorem dX3_set_47 : decode cX3_set 47 = .ok (.getfield 22, 3) := by decide +kernel
theorem dX3_set_50 : decode cX3_set 50 = .ok (.aload_n 0, 1) := by decide +kernel
theorem dX3_set_51 : decode cX3_set 51 = .ok (.getfield 10, 3) := by decide +kernel
theorem dX3_set_54 : decode cX3_set 54 = .ok (.invokevirtual 59, 3) := by decide +kernel
theorem dX3_set_57 : decode cX3_set 57 = .ok (.aload_n 0, 1) := by decide +kernel
theorem dX3_set_58 : decode cX3_set 58 = .ok (.getfield 10, 3) := by decide +kernel
theorem dX3_set_61 : decode cX3_set 61 = .ok (.iload_n 1, 1) := by decide +kernel
theorem dX3_set_62 : decode cX3_set 62 = .ok (.invokevirtual 81, 3) := by decide +kernel
theorem dX3_set_65 : decode cX3_set 65 = .ok (.istore_n 3, 1) := by decide +kernel
theorem dX3_set_66 : decode cX3_set 66 = .ok (.aload_n 0, 1) := by decide +kernel
theorem dX3_set_67 : decode cX3_set 67 = .ok (.getfield 10, 3) := by decide +kernel
theorem dX3_set_70 : decode cX3_set 70 = .ok (.iload_n 1, 1) := by decide +kernel
theorem dX3_set_71 : decode cX3_set 71 = .ok (.iload_n 2, 1) := by decide +kernel
theorem dX3_set_72 : decode cX3_set 72 = .ok (.invokevirtual 84, 3) := by decide +kernel
theorem dX3_set_75 : decode cX3_set 75 = .ok (.iload_n 3, 1) := by decide +kernel
theorem dX3_set_76 : decode cX3_set 76 = .ok (.ireturn, 1) := by decide +kernel
theorem dX3_least_0 : decode cX3_least 0 = .ok (.iload_n 0, 1) := by decide +kernel
theorem dX3_least_1 : decode cX3_least 1 = .ok (.ifCond .lt 19, 3) := by decide +kernel
theorem dX3_least_4 : decode cX3_least 4 = .ok (.iload_n 0, 1) := by decide +kernel
theorem dX3_least_5 : decode cX3_least 5 = .ok (.getstatic 87, 3) := by decide +kernel
theorem dX3_least_8 : decode cX3_least 8 = .ok (.arraylength, 1) := by decide +kernel
theorem dX3_least_9 : decode cX3_least 9 = .ok (.if_icmp .ge 11, 3) := by decide +kernel
theorem dX3_least_12 : decode cX3_least 12 = .ok (.getstatic 87, 3) := by decide +kernel
theorem dX3_least_15 : decode cX3_least 15 = .ok (.iload_n 0, 1) := by decide +kernel
theorem dX3_least_16 : decode cX3_least 16 = .ok (.iaload, 1) := by decide +kernel
theorem dX3_least_17 : decode cX3_least 17 = .ok (.goto 4, 3) := by decide +kernel
theorem dX3_least_20 : decode cX3_least 20 = .ok (.iconst 0, 1) := by decide +kernel
theorem dX3_least_21 : decode cX3_least 21 = .ok (.ireturn, 1) := by decide +kernel
theorem dX3_most_0 : decode cX3_most 0 = .ok (.iload_n 0, 1) := by decide +kernel
theorem dX3_most_1 : decode cX3_most 1 = .ok (.ifCond .lt 19, 3) := by decide +kernel
theorem dX3_most_4 : decode cX3_most 4 = .ok (.iload_n 0, 1) := by decide +kernel
theorem dX3_most_5 : decode cX3_most 5 = .ok (.getstatic 91, 3) := by decide +kernel
theorem dX3_most_8 : decode cX3_most 8 = .ok (.arraylength, 1) := by decide +kernel
theorem dX3_most_9 : decode cX3_most 9 = .ok (.if_icmp .ge 11, 3) := by decide +kernel
theorem dX3_most_12 : decode cX3_most 12 = .ok (.getstatic 91, 3) := by decide +kernel
theorem dX3_most_15 : decode cX3_most 15 = .ok (.iload_n 0, 1) := by decide +kernel
theorem dX3_most_16 : decode cX3_most 16 = .ok (.iaload, 1) := by decide +kernel
theorem dX3_most_17 : decode cX3_most 17 = .ok (.goto 4, 3) := by decide +kernel
theorem dX3_most_20 : decode cX3_most 20 = .ok (.iconst 0, 1) := by decide +kernel
theorem dX3_most_21 : decode cX3_most 21 = .ok (.ireturn, 1) := by decide +kernel
set_option maxRecDepth 20000 in
theorem ggX3_value_X1_valueOf : GoodIn wsX3_value wsX1_valueOf := goodIn_r _ [8, 9, 10, 11, 12, 13, 7, 14, 15, 16, 17, 18, 19, 25, 26, 27, 28, 29, 30, 31, 32, 33, 34, 35, 36, 37, 38, 39, 40] (by decide +kernel) (by decide +kernel)
set_option maxRecDepth 20000 in
theorem gX3_value_X1_valueOf : GoodIn wsX3_value (wsV RX3 96 RX1 yX1_valueOf wsX1_valueOf) := goodIn_app (goodIn_of _ (by decide +kernel)) ggX3_value_X1_valueOf
theorem dX3_value_0 : decode cX3_value 0 = .ok (.iload_n 1, 1) := by decide +kernel
theorem dX3_value_1 : decode cX3_value 1 = .ok (.ifCond .lt 9, 3) := by decide +kernel
theorem dX3_value_4 : decode cX3_value 4 = .ok (.iload_n 1, 1) := by decide +kernel
theorem dX3_value_5 : decode cX3_value 5 = .ok (.bipush 12, 2) := by decide +kernel
theorem dX3_value_7 : decode cX3_value 7 = .ok (.if_icmp .le 13, 3) := by decide +kernel
theorem dX3_value_10 : decode cX3_value 10 = .ok (.new 34, 3) := by decide +kernel
theorem dX3_value_13 : decode cX3_value 13 = .ok (.dup, 1) := by decide +kernel
theorem dX3_value_14 : decode cX3_value 14 = .ok (.ldc 94, 2) := by decide +kernel
theorem dX3_value_16 : decode cX3_value 16 = .ok (.invokespecial 38, 3) := by decide +kernel
theorem dX3_value_19 : decode cX3_value 19 = .ok (.athrow, 1) := by decide +kernel
theorem dX3_value_20 : decode cX3_value 20 = .ok (.aload_n 0, 1) := by decide +kernel
theorem dX3_value_21 : decode cX3_value 21 = .ok (.getfield 10, 3) := by decide +kernel
theorem dX3_value_24 : decode cX3_value 24 = .ok (.iload_n 1, 1) := by decide +kernel
theorem dX3_value_25 : decode cX3_value 25 = .ok (.invokevirtual 96, 3) := by decide +kernel
theorem dX3_value_28 : decode cX3_value 28 = .ok (.ireturn, 1) := by decide +kernel
set_option maxRecDepth 20000 in
theorem ggX3_jam_X0_save : GoodIn wsX3_jam wsX0_save := goodIn_r _ [7, 8, 9, 10, 6, 11, 12, 13, 14, 15, 16, 17, 18, 19, 20, 21, 22, 23, 24, 25, 26, 27, 28, 29, 30, 31, 32, 33, 34, 35, 36, 37, 38, 39, 40, 41, 42, 43, 44, 45, 46, 47, 48, 49, 50, 51, 52, 53, 54, 55, 56, 57, 79, 80, 81, 63, 64, 65, 66, 67, 68, 69, 70, 71, 72, 73, 74, 75, 76, 77, 78, 82, 83, 84, 85] (by decide +kernel) (by decide +kernel)
set_option maxRecDepth 20000 in
theorem gX3_jam_X0_save : GoodIn wsX3_jam (wsV RX3 59 RX0 yX0_save wsX0_save) := goodIn_app (goodIn_of _ (by decide +kernel)) ggX3_jam_X0_save
theorem dX3_jam_0 : decode cX3_jam 0 = .ok (.aload_n 0, 1) := by decide +kernel
theorem dX3_jam_1 : decode cX3_jam 1 = .ok (.getfield 22, 3) := by decide +kernel
theorem dX3_jam_4 : decode cX3_jam 4 = .ok (.aload_n 0, 1) := by decide +kernel
theorem dX3_jam_5 : decode cX3_jam 5 = .ok (.getfield 10, 3) := by decide +kernel
theorem dX3_jam_8 : decode cX3_jam 8 = .ok (.invokevirtual 59, 3) := by decide +kernel
theorem dX3_jam_11 : decode cX3_jam 11 = .ok (.aload_n 0, 1) := by decide +kernel
theorem dX3_jam_12 : decode cX3_jam 12 = .ok (.getfield 10, 3) := by decide +kernel
theorem dX3_jam_15 : decode cX3_jam 15 = .ok (.getfield 99, 3) := by decide +kernel
theorem dX3_jam_18 : decode cX3_jam 18 = .ok (.istore_n 2, 1) := by decide +kernel
theorem dX3_jam_19 : decode cX3_jam 19 = .ok (.aload_n 0, 1) := by decide +kernel
theorem dX3_jam_20 : decode cX3_jam 20 = .ok (.getfield 10, 3) := by decide +kernel
theorem dX3_jam_23 : decode cX3_jam 23 = .ok (.iload_n 1, 1) := by decide +kernel
theorem dX3_jam_24 : decode cX3_jam 24 = .ok (.putfield 99, 3) := by decide +kernel
theorem dX3_jam_27 : decode cX3_jam 27 = .ok (.iload_n 2, 1) := by decide +kernel
theorem dX3_jam_28 : decode cX3_jam 28 = .ok (.ireturn, 1) := by decide +kernel
set_option maxRecDepth 20000 in
theorem ggX3_start_X0_save : GoodIn wsX3_start wsX0_save := goodIn_r _ [9, 10, 11, 12, 8, 13, 14, 15, 16, 17, 18, 19, 20, 21, 22, 23, 24, 25, 26, 27, 28, 29, 30, 31, 32, 33, 34, 35, 36, 37, 38, 39, 40, 41, 42, 43, 44, 45, 46, 47, 48, 49, 50, 51, 52, 53, 54, 55, 56, 57, 58, 59, 85, 86, 87, 69, 70, 71, 72, 73, 74, 75, 76, 77, 78, 79, 80, 81, 82, 83, 84, 88, 89, 90, 91] (by decide +kernel) (by decide +kernel)
set_option maxRecDepth 20000 in
theorem gX3_start_X0_save : GoodIn wsX3_start (wsV RX3 59 RX0 yX0_save wsX0_save) := goodIn_app (goodIn_of _ (by decide +kernel)) ggX3_start_X0_save
set_option maxRecDepth 20000 in
theorem ggX3_start_X2_count : GoodIn wsX3_start wsX2_count := goodIn_r _ [63, 55, 88, 89, 90, 91] (by decide +kernel) (by decide +kernel)
set_option maxRecDepth 20000 in
theorem gX3_start_X2_count : GoodIn wsX3_start (wsV RX3 45 RX2 yX2_count wsX2_count) := goodIn_app (goodIn_of _ (by decide +kernel)) ggX3_start_X2_count
theorem dX3_start_0 : decode cX3_start 0 = .ok (.aload_n 0, 1) := by decide +kernel
theorem dX3_start_1 : decode cX3_start 1 = .ok (.getfield 10, 3) := by decide +kernel
theorem dX3_start_4 : decode cX3_start 4 = .ok (.getfield 103, 3) := by decide +kernel
