set_option maxRecDepth 20000 in
theorem ggX0_init_X1_init : GoodIn wsX0_init wsX1_init := goodIn_r _ [12, 13, 2, 3, 14, 15, 16, 17, 18, 19, 20, 21, 22, 23, 24, 25, 26, 27, 28, 29, 30, 31, 32, 33, 34, 35, 36, 37, 38, 39, 40, 41, 42, 43, 44, 45, 49, 50, 51, 52, 53, 54, 55, 56, 57, 58, 59, 60, 61, 62, 63, 64, 65, 66, 67, 68] (by decide +kernel) (by decide +kernel)
set_option maxRecDepth 20000 in
theorem gX0_init_X1_init : GoodIn wsX0_init (wsX1_init) := ggX0_init_X1_init
theorem dX0_init_0 : decode cX0_init 0 = .ok (.aload_n 0, 1) := by decide +kernel
theorem dX0_init_1 : decode cX0_init 1 = .ok (.invokespecial 3, 3) := by decide +kernel
theorem dX0_init_4 : decode cX0_init 4 = .ok (.aload_n 0, 1) := by decide +kernel
theorem dX0_init_5 : decode cX0_init 5 = .ok (.iconst 5, 1) := by decide +kernel
theorem dX0_init_6 : decode cX0_init 6 = .ok (.anewarray 9, 3) := by decide +kernel
theorem dX0_init_9 : decode cX0_init 9 = .ok (.putfield 11, 3) := by decide +kernel
theorem dX0_init_12 : decode cX0_init 12 = .ok (.aload_n 0, 1) := by decide +kernel
theorem dX0_init_13 : decode cX0_init 13 = .ok (.iconst 0, 1) := by decide +kernel
theorem dX0_init_14 : decode cX0_init 14 = .ok (.putfield 17, 3) := by decide +kernel
theorem dX0_init_17 : decode cX0_init 17 = .ok (.aload_n 0, 1) := by decide +kernel
theorem dX0_init_18 : decode cX0_init 18 = .ok (.iconst 0, 1) := by decide +kernel
theorem dX0_init_19 : decode cX0_init 19 = .ok (.putfield 21, 3) := by decide +kernel
theorem dX0_init_22 : decode cX0_init 22 = .ok (.iconst 0, 1) := by decide +kernel
theorem dX0_init_23 : decode cX0_init 23 = .ok (.istore_n 1, 1) := by decide +kernel
theorem dX0_init_24 : decode cX0_init 24 = .ok (.iload_n 1, 1) := by decide +kernel
theorem dX0_init_25 : decode cX0_init 25 = .ok (.aload_n 0, 1) := by decide +kernel
theorem dX0_init_26 : decode cX0_init 26 = .ok (.getfield 11, 3) := by decide +kernel
theorem dX0_init_29 : decode cX0_init 29 = .ok (.arraylength, 1) := by decide +kernel
theorem dX0_init_30 : decode cX0_init 30 = .ok (.if_icmp .ge 22, 3) := by decide +kernel
theorem dX0_init_33 : decode cX0_init 33 = .ok (.aload_n 0, 1) := by decide +kernel
theorem dX0_init_34 : decode cX0_init 34 = .ok (.getfield 11, 3) := by decide +kernel
theorem dX0_init_37 : decode cX0_init 37 = .ok (.iload_n 1, 1) := by decide +kernel
theorem dX0_init_38 : decode cX0_init 38 = .ok (.new 9, 3) := by decide +kernel
theorem dX0_init_41 : decode cX0_init 41 = .ok (.dup, 1) := by decide +kernel
theorem dX0_init_42 : decode cX0_init 42 = .ok (.invokespecial 24, 3) := by decide +kernel
theorem dX0_init_45 : decode cX0_init 45 = .ok (.aastore, 1) := by decide +kernel
theorem dX0_init_46 : decode cX0_init 46 = .ok (.iinc 1 1, 3) := by decide +kernel
theorem dX0_init_49 : decode cX0_init 49 = .ok (.goto (-25), 3) := by decide +kernel
theorem dX0_init_52 : decode cX0_init 52 = .ok (.return_, 1) := by decide +kernel
theorem dX0_count_0 : decode cX0_count 0 = .ok (.aload_n 0, 1) := by decide +kernel
theorem dX0_count_1 : decode cX0_count 1 = .ok (.getfield 21, 3) := by decide +kernel
theorem dX0_count_4 : decode cX0_count 4 = .ok (.ireturn, 1) := by decide +kernel
set_option maxRecDepth 20000 in
theorem ggX0_save_X0_prepare : GoodIn wsX0_save wsX0_prepare := goodIn_r _ [5, 6, 7, 8, 9, 4, 10, 11, 12, 13, 14, 15, 16, 17, 18, 19, 20, 21, 22, 23, 24, 25, 26, 27, 28, 29, 30, 31, 32, 33, 34, 35, 36, 37, 38, 39, 40, 41, 42, 43, 44, 45, 46, 47, 52, 53, 54, 55, 56, 57, 58, 59, 60, 61, 62, 63, 64, 65, 66, 67, 68, 69, 70, 71, 72, 73, 74] (by decide +kernel) (by decide +kernel)
set_option maxRecDepth 20000 in
theorem gX0_save_X0_prepare : GoodIn wsX0_save (wsV RX0 25 RX0 yX0_prepare wsX0_prepare) := goodIn_app (goodIn_of _ (by decide +kernel)) ggX0_save_X0_prepare
set_option maxRecDepth 20000 in
theorem ggX0_save_X0_keepPrepared : GoodIn wsX0_save wsX0_keepPrepared := goodIn_r _ [51, 6, 11, 52, 53, 54] (by decide +kernel) (by decide +kernel)
set_option maxRecDepth 20000 in
theorem gX0_save_X0_keepPrepared : GoodIn wsX0_save (wsV RX0 29 RX0 yX0_keepPrepared wsX0_keepPrepared) := goodIn_app (goodIn_of _ (by decide +kernel)) ggX0_save_X0_keepPrepared
theorem dX0_save_0 : decode cX0_save 0 = .ok (.aload_n 0, 1) := by decide +kernel
theorem dX0_save_1 : decode cX0_save 1 = .ok (.aload_n 1, 1) := by decide +kernel
theorem dX0_save_2 : decode cX0_save 2 = .ok (.invokevirtual 25, 3) := by decide +kernel
theorem dX0_save_5 : decode cX0_save 5 = .ok (.aload_n 0, 1) := by decide +kernel
theorem dX0_save_6 : decode cX0_save 6 = .ok (.invokevirtual 29, 3) := by decide +kernel
theorem dX0_save_9 : decode cX0_save 9 = .ok (.return_, 1) := by decide +kernel
set_option maxRecDepth 20000 in
theorem ggX0_prepare_X0_slotAt : GoodIn wsX0_prepare wsX0_slotAt := goodIn_r _ [6, 7, 8, 44, 45, 46] (by decide +kernel) (by decide +kernel)
set_option maxRecDepth 20000 in
theorem gX0_prepare_X0_slotAt : GoodIn wsX0_prepare (wsV RX0 32 RX0 yX0_slotAt wsX0_slotAt) := goodIn_app (goodIn_of _ (by decide +kernel)) ggX0_prepare_X0_slotAt
set_option maxRecDepth 20000 in
theorem ggX0_prepare_X1_copyFrom : GoodIn wsX0_prepare wsX1_copyFrom := goodIn_r _ [13, 14, 15, 16, 17, 18, 19, 20, 21, 22, 23, 24, 25, 26, 27, 28, 29, 30, 31, 32, 33, 34, 35, 36, 37, 38, 39, 40, 41, 42, 43, 47, 48, 49, 50, 51, 52, 53, 54, 55, 56, 57, 58, 59, 60, 61, 62, 63, 64, 65, 66] (by decide +kernel) (by decide +kernel)
set_option maxRecDepth 20000 in
theorem gX0_prepare_X1_copyFrom : GoodIn wsX0_prepare (wsV RX0 36 RX1 yX1_copyFrom wsX1_copyFrom) := goodIn_app (goodIn_of _ (by decide +kernel)) ggX0_prepare_X1_copyFrom
theorem dX0_prepare_0 : decode cX0_prepare 0 = .ok (.aload_n 0, 1) := by decide +kernel
theorem dX0_prepare_1 : decode cX0_prepare 1 = .ok (.aload_n 0, 1) := by decide +kernel
theorem dX0_prepare_2 : decode cX0_prepare 2 = .ok (.getfield 21, 3) := by decide +kernel
theorem dX0_prepare_5 : decode cX0_prepare 5 = .ok (.invokevirtual 32, 3) := by decide +kernel
theorem dX0_prepare_8 : decode cX0_prepare 8 = .ok (.astore_n 2, 1) := by decide +kernel
theorem dX0_prepare_9 : decode cX0_prepare 9 = .ok (.aload_n 2, 1) := by decide +kernel
theorem dX0_prepare_10 : decode cX0_prepare 10 = .ok (.ifnull 8, 3) := by decide +kernel
theorem dX0_prepare_13 : decode cX0_prepare 13 = .ok (.aload_n 2, 1) := by decide +kernel
theorem dX0_prepare_14 : decode cX0_prepare 14 = .ok (.aload_n 1, 1) := by decide +kernel
theorem dX0_prepare_15 : decode cX0_prepare 15 = .ok (.invokevirtual 36, 3) := by decide +kernel
theorem dX0_prepare_18 : decode cX0_prepare 18 = .ok (.return_, 1) := by decide +kernel
theorem dX0_keepPrepared_0 : decode cX0_keepPrepared 0 = .ok (.aload_n 0, 1) := by decide +kernel
theorem dX0_keepPrepared_1 : decode cX0_keepPrepared 1 = .ok (.getfield 21, 3) := by decide +kernel
theorem dX0_keepPrepared_4 : decode cX0_keepPrepared 4 = .ok (.iconst 4, 1) := by decide +kernel
theorem dX0_keepPrepared_5 : decode cX0_keepPrepared 5 = .ok (.if_icmp .ge 16, 3) := by decide +kernel
theorem dX0_keepPrepared_8 : decode cX0_keepPrepared 8 = .ok (.aload_n 0, 1) := by decide +kernel
theorem dX0_keepPrepared_9 : decode cX0_keepPrepared 9 = .ok (.dup, 1) := by decide +kernel
theorem dX0_keepPrepared_10 : decode cX0_keepPrepared 10 = .ok (.getfield 21, 3) := by decide +kernel
theorem dX0_keepPrepared_13 : decode cX0_keepPrepared 13 = .ok (.iconst 1, 1) := by decide +kernel
theorem dX0_keepPrepared_14 : decode cX0_keepPrepared 14 = .ok (.iadd, 1) := by decide +kernel
theorem dX0_keepPrepared_15 : decode cX0_keepPrepared 15 = .ok (.putfield 21, 3) := by decide +kernel
theorem dX0_keepPrepared_18 : decode cX0_keepPrepared 18 = .ok (.goto 15, 3) := by decide +kernel
theorem dX0_keepPrepared_21 : decode cX0_keepPrepared 21 = .ok (.aload_n 0, 1) := by decide +kernel
theorem dX0_keepPrepared_22 : decode cX0_keepPrepared 22 = .ok (.aload_n 0, 1) := by decide +kernel
theorem dX0_keepPrepared_23 : decode cX0_keepPrepared 23 = .ok (.getfield 17, 3) := by decide +kernel
theorem dX0_keepPrepared_26 : decode cX0_keepPrepared 26 = .ok (.iconst 1, 1) := by decide +kernel
theorem dX0_keepPrepared_27 : decode cX0_keepPrepared 27 = .ok (.iadd, 1) := by decide +kernel
theorem dX0_keepPrepared_28 : decode cX0_keepPrepared 28 = .ok (.iconst 5, 1) := by decide +kernel
theorem dX0_keepPrepared_29 : decode cX0_keepPrepared 29 = .ok (.irem, 1) := by decide +kernel
theorem dX0_keepPrepared_30 : decode cX0_keepPrepared 30 = .ok (.putfield 17, 3) := by decide +kernel
theorem dX0_keepPrepared_33 : decode cX0_keepPrepared 33 = .ok (.return_, 1) := by decide +kernel
set_option maxRecDepth 20000 in
theorem ggX0_bringBackPrepared_X0_slotAt : GoodIn wsX0_bringBackPrepared wsX0_slotAt := goodIn_r _ [6, 7, 8, 44, 45, 46] (by decide +kernel) (by decide +kernel)
set_option maxRecDepth 20000 in
theorem gX0_bringBackPrepared_X0_slotAt : GoodIn wsX0_bringBackPrepared (wsV RX0 32 RX0 yX0_slotAt wsX0_slotAt) := goodIn_app (goodIn_of _ (by decide +kernel)) ggX0_bringBackPrepared_X0_slotAt
set_option maxRecDepth 20000 in
theorem ggX0_bringBackPrepared_X1_copyFrom : GoodIn wsX0_bringBackPrepared wsX1_copyFrom := goodIn_r _ [13, 14, 15, 16, 17, 18, 19, 20, 21, 22, 23, 24, 25, 26, 27, 28, 29, 30, 31, 32, 33, 34, 35, 36, 37, 38, 39, 40, 41, 42, 43, 47, 48, 49, 50, 51, 52, 53, 54, 55, 56, 57, 58, 59, 60, 61, 62, 63, 64, 65, 66] (by decide +kernel) (by decide +kernel)
set_option maxRecDepth 20000 in
theorem gX0_bringBackPrepared_X1_copyFrom : GoodIn wsX0_bringBackPrepared (wsV RX0 36 RX1 yX1_copyFrom wsX1_copyFrom) := goodIn_app (goodIn_of _ (by decide +kernel)) ggX0_bringBackPrepared_X1_copyFrom
theorem dX0_bringBackPrepared_0 : decode cX0_bringBackPrepared 0 = .ok (.aload_n 0, 1) := by decide +kernel
theorem dX0_bringBackPrepared_1 : decode cX0_bringBackPrepared 1 = .ok (.aload_n 0, 1) := by decide +kernel
theorem dX0_bringBackPrepared_2 : decode cX0_bringBackPrepared 2 = .ok (.getfield 21, 3) := by decide +kernel
theorem dX0_bringBackPrepared_5 : decode cX0_bringBackPrepared 5 = .ok (.invokevirtual 32, 3) := by decide +kernel
theorem dX0_bringBackPrepared_8 : decode cX0_bringBackPrepared 8 = .ok (.astore_n 2, 1) := by decide +kernel
theorem dX0_bringBackPrepared_9 : decode cX0_bringBackPrepared 9 = .ok (.aload_n 2, 1) := by decide +kernel
theorem dX0_bringBackPrepared_10 : decode cX0_bringBackPrepared 10 = .ok (.ifnull 8, 3) := by decide +kernel
theorem dX0_bringBackPrepared_13 : decode cX0_bringBackPrepared 13 = .ok (.aload_n 1, 1) := by decide +kernel
theorem dX0_bringBackPrepared_14 : decode cX0_bringBackPrepared 14 = .ok (.aload_n 2, 1) := by decide +kernel
theorem dX0_bringBackPrepared_15 : decode cX0_bringBackPrepared 15 = .ok (.invokevirtual 36, 3) := by decide +kernel
theorem dX0_bringBackPrepared_18 : decode cX0_bringBackPrepared 18 = .ok (.return_, 1) := by decide +kernel
set_option maxRecDepth 20000 in
theorem ggX0_bringBackLatest_X0_bringBackPrepared : GoodIn wsX0_bringBackLatest wsX0_bringBackPrepared := goodIn_r _ [6, 1, 7, 8, 9, 5, 10, 11, 12, 13, 14, 15, 16, 17, 18, 19, 20, 21, 22, 23, 24, 25, 26, 27, 28, 29, 30, 31, 32, 33, 34, 35, 36, 37, 38, 39, 40, 41, 42, 43, 44, 45, 46, 47, 48, 49, 50, 51, 52, 53, 54, 55, 56, 57, 58, 59, 60, 61, 62, 63, 64, 65, 66, 67, 68, 69, 70] (by decide +kernel) (by decide +kernel)
set_option maxRecDepth 20000 in
theorem gX0_bringBackLatest_X0_bringBackPrepared : GoodIn wsX0_bringBackLatest (wsV RX0 39 RX0 yX0_bringBackPrepared wsX0_bringBackPrepared) := goodIn_app (goodIn_of _ (by decide +kernel)) ggX0_bringBackLatest_X0_bringBackPrepared
theorem dX0_bringBackLatest_0 : decode cX0_bringBackLatest 0 = .ok (.aload_n 0, 1) := by decide +kernel
theorem dX0_bringBackLatest_1 : decode cX0_bringBackLatest 1 = .ok (.getfield 21, 3) := by decide +kernel
theorem dX0_bringBackLatest_4 : decode cX0_bringBackLatest 4 = .ok (.ifCond .le 18, 3) := by decide +kernel
theorem dX0_bringBackLatest_7 : decode cX0_bringBackLatest 7 = .ok (.aload_n 0, 1) := by decide +kernel
theorem dX0_bringBackLatest_8 : decode cX0_bringBackLatest 8 = .ok (.dup, 1) := by decide +kernel
theorem dX0_bringBackLatest_9 : decode cX0_bringBackLatest 9 = .ok (.getfield 21, 3) := by decide +kernel
theorem dX0_bringBackLatest_12 : decode cX0_bringBackLatest 12 = .ok (.iconst 1, 1) := by decide +kernel
theorem dX0_bringBackLatest_13 : decode cX0_bringBackLatest 13 = .ok (.isub, 1) := by decide +kernel
theorem dX0_bringBackLatest_14 : decode cX0_bringBackLatest 14 = .ok (.putfield 21, 3) := by decide +kernel
theorem dX0_bringBackLatest_17 : decode cX0_bringBackLatest 17 = .ok (.aload_n 0, 1) := by decide +kernel
theorem dX0_bringBackLatest_18 : decode cX0_bringBackLatest 18 = .ok (.aload_n 1, 1) := by decide +kernel
theorem dX0_bringBackLatest_19 : decode cX0_bringBackLatest 19 = .ok (.invokevirtual 39, 3) := by decide +kernel
theorem dX0_bringBackLatest_22 : decode cX0_bringBackLatest 22 = .ok (.return_, 1) := by decide +kernel
theorem dX0_slotAt_0 : decode cX0_slotAt 0 = .ok (.aload_n 0, 1) := by decide +kernel
theorem dX0_slotAt_1 : decode cX0_slotAt 1 = .ok (.getfield 17, 3) := by decide +kernel
theorem dX0_slotAt_4 : decode cX0_slotAt 4 = .ok (.iload_n 1, 1) := by decide +kernel
theorem dX0_slotAt_5 : decode cX0_slotAt 5 = .ok (.iadd, 1) := by decide +kernel
theorem dX0_slotAt_6 : decode cX0_slotAt 6 = .ok (.iconst 5, 1) := by decide +kernel
theorem dX0_slotAt_7 : decode cX0_slotAt 7 = .ok (.irem, 1) := by decide +kernel
theorem dX0_slotAt_8 : decode cX0_slotAt 8 = .ok (.istore_n 2, 1) := by decide +kernel
theorem dX0_slotAt_9 : decode cX0_slotAt 9 = .ok (.iload_n 2, 1) := by decide +kernel
theorem dX0_slotAt_10 : decode cX0_slotAt 10 = .ok (.ifCond .lt 21, 3) := by decide +kernel
theorem dX0_slotAt_13 : decode cX0_slotAt 13 = .ok (.iload_n 2, 1) := by decide +kernel
theorem dX0_slotAt_14 : decode cX0_slotAt 14 = .ok (.aload_n 0, 1) := by decide +kernel
theorem dX0_slotAt_15 : decode cX0_slotAt 15 = .ok (.getfield 11, 3) := by decide +kernel
theorem dX0_slotAt_18 : decode cX0_slotAt 18 = .ok (.arraylength, 1) := by decide +kernel
theorem dX0_slotAt_19 : decode cX0_slotAt 19 = .ok (.if_icmp .ge 12, 3) := by decide +kernel
theorem dX0_slotAt_22 : decode cX0_slotAt 22 = .ok (.aload_n 0, 1) := by decide +kernel
theorem dX0_slotAt_23 : decode cX0_slotAt 23 = .ok (.getfield 11, 3) := by decide +kernel
theorem dX0_slotAt_26 : decode cX0_slotAt 26 = .ok (.iload_n 2, 1) := by decide +kernel
theorem dX0_slotAt_27 : decode cX0_slotAt 27 = .ok (.aaload, 1) := by decide +kernel
theorem dX0_slotAt_28 : decode cX0_slotAt 28 = .ok (.goto 4, 3) := by decide +kernel
theorem dX0_slotAt_31 : decode cX0_slotAt 31 = .ok (.aconst_null, 1) := by decide +kernel
theorem dX0_slotAt_32 : decode cX0_slotAt 32 = .ok (.areturn, 1) := by decide +kernel
set_option maxRecDepth 20000 in
theorem ggX1_init_X2_init : GoodIn wsX1_init wsX2_init := goodIn_r _ [26, 27, 2, 3, 28, 29, 30, 31, 32, 33, 34, 4, 35, 52, 53, 54, 55] (by decide +kernel) (by decide +kernel)
set_option maxRecDepth 20000 in
theorem gX1_init_X2_init : GoodIn wsX1_init (wsX2_init) := ggX1_init_X2_init
theorem dX1_init_0 : decode cX1_init 0 = .ok (.aload_n 0, 1) := by decide +kernel
theorem dX1_init_1 : decode cX1_init 1 = .ok (.invokespecial 3, 3) := by decide +kernel
theorem dX1_init_4 : decode cX1_init 4 = .ok (.aload_n 0, 1) := by decide +kernel
theorem dX1_init_5 : decode cX1_init 5 = .ok (.bipush 7, 2) := by decide +kernel
theorem dX1_init_7 : decode cX1_init 7 = .ok (.newarray .int, 2) := by decide +kernel
theorem dX1_init_9 : decode cX1_init 9 = .ok (.dup, 1) := by decide +kernel
theorem dX1_init_10 : decode cX1_init 10 = .ok (.iconst 0, 1) := by decide +kernel
theorem dX1_init_11 : decode cX1_init 11 = .ok (.iconst 5, 1) := by decide +kernel
theorem dX1_init_12 : decode cX1_init 12 = .ok (.iastore, 1) := by decide +kernel
theorem dX1_init_13 : decode cX1_init 13 = .ok (.dup, 1) := by decide +kernel
theorem dX1_init_14 : decode cX1_init 14 = .ok (.iconst 1, 1) := by decide +kernel
theorem dX1_init_15 : decode cX1_init 15 = .ok (.bipush 8, 2) := by decide +kernel
theorem dX1_init_17 : decode cX1_init 17 = .ok (.iastore, 1) := by decide +kernel
theorem dX1_init_18 : decode cX1_init 18 = .ok (.dup, 1) := by decide +kernel
theorem dX1_init_19 : decode cX1_init 19 = .ok (.iconst 2, 1) := by decide +kernel
theorem dX1_init_20 : decode cX1_init 20 = .ok (.iconst 4, 1) := by decide +kernel
theorem dX1_init_21 : decode cX1_init 21 = .ok (.iastore, 1) := by decide +kernel
theorem dX1_init_22 : decode cX1_init 22 = .ok (.dup, 1) := by decide +kernel
theorem dX1_init_23 : decode cX1_init 23 = .ok (.iconst 3, 1) := by decide +kernel
theorem dX1_init_24 : decode cX1_init 24 = .ok (.bipush 10, 2) := by decide +kernel
theorem dX1_init_26 : decode cX1_init 26 = .ok (.iastore, 1) := by decide +kernel
theorem dX1_init_27 : decode cX1_init 27 = .ok (.dup, 1) := by decide +kernel
theorem dX1_init_28 : decode cX1_init 28 = .ok (.iconst 4, 1) := by decide +kernel
theorem dX1_init_29 : decode cX1_init 29 = .ok (.iconst 5, 1) := by decide +kernel
theorem dX1_init_30 : decode cX1_init 30 = .ok (.iastore, 1) := by decide +kernel
theorem dX1_init_31 : decode cX1_init 31 = .ok (.dup, 1) := by decide +kernel
theorem dX1_init_32 : decode cX1_init 32 = .ok (.iconst 5, 1) := by decide +kernel
theorem dX1_init_33 : decode cX1_init 33 = .ok (.bipush 10, 2) := by decide +kernel
theorem dX1_init_35 : decode cX1_init 35 = .ok (.iastore, 1) := by decide +kernel
theorem dX1_init_36 : decode cX1_init 36 = .ok (.dup, 1) := by decide +kernel
theorem dX1_init_37 : decode cX1_init 37 = .ok (.bipush 6, 2) := by decide +kernel
theorem dX1_init_39 : decode cX1_init 39 = .ok (.bipush 50, 2) := by decide +kernel
theorem dX1_init_41 : decode cX1_init 41 = .ok (.iastore, 1) := by decide +kernel
theorem dX1_init_42 : decode cX1_init 42 = .ok (.putfield 9, 3) := by decide +kernel
theorem dX1_init_45 : decode cX1_init 45 = .ok (.aload_n 0, 1) := by decide +kernel
theorem dX1_init_46 : decode cX1_init 46 = .ok (.iconst 5, 1) := by decide +kernel
theorem dX1_init_47 : decode cX1_init 47 = .ok (.newarray .int, 2) := by decide +kernel
theorem dX1_init_49 : decode cX1_init 49 = .ok (.dup, 1) := by decide +kernel
theorem dX1_init_50 : decode cX1_init 50 = .ok (.iconst 0, 1) := by decide +kernel
theorem dX1_init_51 : decode cX1_init 51 = .ok (.bipush 100, 2) := by decide +kernel
theorem dX1_init_53 : decode cX1_init 53 = .ok (.iastore, 1) := by decide +kernel
theorem dX1_init_54 : decode cX1_init 54 = .ok (.dup, 1) := by decide +kernel
theorem dX1_init_55 : decode cX1_init 55 = .ok (.iconst 1, 1) := by decide +kernel
theorem dX1_init_56 : decode cX1_init 56 = .ok (.sipush 200, 3) := by decide +kernel
theorem dX1_init_59 : decode cX1_init 59 = .ok (.iastore, 1) := by decide +kernel
theorem dX1_init_60 : decode cX1_init 60 = .ok (.dup, 1) := by decide +kernel
theorem dX1_init_61 : decode cX1_init 61 = .ok (.iconst 2, 1) := by decide +kernel
theorem dX1_init_62 : decode cX1_init 62 = .ok (.sipush 260, 3) := by decide +kernel
theorem dX1_init_65 : decode cX1_init 65 = .ok (.iastore, 1) := by decide +kernel
theorem dX1_init_66 : decode cX1_init 66 = .ok (.dup, 1) := by decide +kernel
theorem dX1_init_67 : decode cX1_init 67 = .ok (.iconst 3, 1) := by decide +kernel
theorem dX1_init_68 : decode cX1_init 68 = .ok (.sipush 400, 3) := by decide +kernel
theorem dX1_init_71 : decode cX1_init 71 = .ok (.iastore, 1) := by decide +kernel
theorem dX1_init_72 : decode cX1_init 72 = .ok (.dup, 1) := by decide +kernel
theorem dX1_init_73 : decode cX1_init 73 = .ok (.iconst 4, 1) := by decide +kernel
theorem dX1_init_74 : decode cX1_init 74 = .ok (.sipush 500, 3) := by decide +kernel
theorem dX1_init_77 : decode cX1_init 77 = .ok (.iastore, 1) := by decide +kernel
theorem dX1_init_78 : decode cX1_init 78 = .ok (.putfield 15, 3) := by decide +kernel
theorem dX1_init_81 : decode cX1_init 81 = .ok (.aload_n 0, 1) := by decide +kernel
theorem dX1_init_82 : decode cX1_init 82 = .ok (.bipush 18, 2) := by decide +kernel
theorem dX1_init_84 : decode cX1_init 84 = .ok (.newarray .int, 2) := by decide +kernel
theorem dX1_init_86 : decode cX1_init 86 = .ok (.putfield 18, 3) := by decide +kernel
theorem dX1_init_89 : decode cX1_init 89 = .ok (.aload_n 0, 1) := by decide +kernel
theorem dX1_init_90 : decode cX1_init 90 = .ok (.new 21, 3) := by decide +kernel
theorem dX1_init_93 : decode cX1_init 93 = .ok (.dup, 1) := by decide +kernel
theorem dX1_init_94 : decode cX1_init 94 = .ok (.iconst 4, 1) := by decide +kernel
theorem dX1_init_95 : decode cX1_init 95 = .ok (.bipush 20, 2) := by decide +kernel
theorem dX1_init_97 : decode cX1_init 97 = .ok (.invokespecial 23, 3) := by decide +kernel
theorem dX1_init_100 : decode cX1_init 100 = .ok (.putfield 26, 3) := by decide +kernel
theorem dX1_init_103 : decode cX1_init 103 = .ok (.aload_n 0, 1) := by decide +kernel
theorem dX1_init_104 : decode cX1_init 104 = .ok (.new 21, 3) := by decide +kernel
theorem dX1_init_107 : decode cX1_init 107 = .ok (.dup, 1) := by decide +kernel
theorem dX1_init_108 : decode cX1_init 108 = .ok (.bipush 6, 2) := by decide +kernel
theorem dX1_init_110 : decode cX1_init 110 = .ok (.bipush 35, 2) := by decide +kernel
theorem dX1_init_112 : decode cX1_init 112 = .ok (.invokespecial 23, 3) := by decide +kernel
theorem dX1_init_115 : decode cX1_init 115 = .ok (.putfield 30, 3) := by decide +kernel
theorem dX1_init_118 : decode cX1_init 118 = .ok (.aload_n 0, 1) := by decide +kernel
theorem dX1_init_119 : decode cX1_init 119 = .ok (.new 21, 3) := by decide +kernel
theorem dX1_init_122 : decode cX1_init 122 = .ok (.dup, 1) := by decide +kernel
theorem dX1_init_123 : decode cX1_init 123 = .ok (.iconst 4, 1) := by decide +kernel
theorem dX1_init_124 : decode cX1_init 124 = .ok (.sipush 200, 3) := by decide +kernel
theorem dX1_init_127 : decode cX1_init 127 = .ok (.invokespecial 23, 3) := by decide +kernel
theorem dX1_init_130 : decode cX1_init 130 = .ok (.putfield 33, 3) := by decide +kernel
theorem dX1_init_133 : decode cX1_init 133 = .ok (.aload_n 0, 1) := by decide +kernel
theorem dX1_init_134 : decode cX1_init 134 = .ok (.new 21, 3) := by decide +kernel
theorem dX1_init_137 : decode cX1_init 137 = .ok (.dup, 1) := by decide +kernel
theorem dX1_init_138 : decode cX1_init 138 = .ok (.iconst 1, 1) := by decide +kernel
theorem dX1_init_139 : decode cX1_init 139 = .ok (.bipush 50, 2) := by decide +kernel
theorem dX1_init_141 : decode cX1_init 141 = .ok (.invokespecial 23, 3) := by decide +kernel
theorem dX1_init_144 : decode cX1_init 144 = .ok (.putfield 36, 3) := by decide +kernel
theorem dX1_init_147 : decode cX1_init 147 = .ok (.aload_n 0, 1) := by decide +kernel
theorem dX1_init_148 : decode cX1_init 148 = .ok (.new 21, 3) := by decide +kernel
theorem dX1_init_151 : decode cX1_init 151 = .ok (.dup, 1) := by decide +kernel
theorem dX1_init_152 : decode cX1_init 152 = .ok (.iconst 1, 1) := by decide +kernel
theorem dX1_init_153 : decode cX1_init 153 = .ok (.bipush 101, 2) := by decide +kernel
theorem dX1_init_155 : decode cX1_init 155 = .ok (.invokespecial 23, 3) := by decide +kernel
theorem dX1_init_158 : decode cX1_init 158 = .ok (.putfield 39, 3) := by decide +kernel
theorem dX1_init_161 : decode cX1_init 161 = .ok (.aload_n 0, 1) := by decide +kernel
theorem dX1_init_162 : decode cX1_init 162 = .ok (.iconst 0, 1) := by decide +kernel
theorem dX1_init_163 : decode cX1_init 163 = .ok (.putfield 42, 3) := by decide +kernel
theorem dX1_init_166 : decode cX1_init 166 = .ok (.aload_n 0, 1) := by decide +kernel
theorem dX1_init_167 : decode cX1_init 167 = .ok (.iconst 0, 1) := by decide +kernel
theorem dX1_init_168 : decode cX1_init 168 = .ok (.putfield 46, 3) := by decide +kernel
theorem dX1_init_171 : decode cX1_init 171 = .ok (.aload_n 0, 1) := by decide +kernel
theorem dX1_init_172 : decode cX1_init 172 = .ok (.iconst 0, 1) := by decide +kernel
theorem dX1_init_173 : decode cX1_init 173 = .ok (.putfield 50, 3) := by decide +kernel
theorem dX1_init_176 : decode cX1_init 176 = .ok (.aload_n 0, 1) := by decide +kernel
theorem dX1_init_177 : decode cX1_init 177 = .ok (.iconst 0, 1) := by decide +kernel
theorem dX1_init_178 : decode cX1_init 178 = .ok (.putfield 53, 3) := by decide +kernel
theorem dX1_init_181 : decode cX1_init 181 = .ok (.aload_n 0, 1) := by decide +kernel
theorem dX1_init_182 : decode cX1_init 182 = .ok (.iconst 0, 1) := by decide +kernel
theorem dX1_init_183 : decode cX1_init 183 = .ok (.putfield 56, 3) := by decide +kernel
theorem dX1_init_186 : decode cX1_init 186 = .ok (.aload_n 0, 1) := by decide +kernel
theorem dX1_init_187 : decode cX1_init 187 = .ok (.iconst 0, 1) := by decide +kernel
theorem dX1_init_188 : decode cX1_init 188 = .ok (.putfield 59, 3) := by decide +kernel
theorem dX1_init_191 : decode cX1_init 191 = .ok (.aload_n 0, 1) := by decide +kernel
theorem dX1_init_192 : decode cX1_init 192 = .ok (.iconst (-1), 1) := by decide +kernel
theorem dX1_init_193 : decode cX1_init 193 = .ok (.putfield 62, 3) := by decide +kernel
theorem dX1_init_196 : decode cX1_init 196 = .ok (.aload_n 0, 1) := by decide +kernel
theorem dX1_init_197 : decode cX1_init 197 = .ok (.iconst 0, 1) := by decide +kernel
theorem dX1_init_198 : decode cX1_init 198 = .ok (.putfield 65, 3) := by decide +kernel
theorem dX1_init_201 : decode cX1_init 201 = .ok (.return_, 1) := by decide +kernel
set_option maxRecDepth 20000 in
theorem ggX1_copyFrom_X2_copyFrom : GoodIn wsX1_copyFrom wsX2_copyFrom := goodIn_r _ [27, 28, 29, 7, 8, 9, 30, 47, 48, 49, 50] (by decide +kernel) (by decide +kernel)
set_option maxRecDepth 20000 in
theorem gX1_copyFrom_X2_copyFrom : GoodIn wsX1_copyFrom (wsV RX1 80 RX2 yX2_copyFrom wsX2_copyFrom) := goodIn_app (goodIn_of _ (by decide +kernel)) ggX1_copyFrom_X2_copyFrom
theorem dX1_copyFrom_0 : decode cX1_copyFrom 0 = .ok (.aload_n 1, 1) := by decide +kernel
theorem dX1_copyFrom_1 : decode cX1_copyFrom 1 = .ok (.getfield 9, 3) := by decide +kernel
theorem dX1_copyFrom_4 : decode cX1_copyFrom 4 = .ok (.iconst 0, 1) := by decide +kernel
theorem dX1_copyFrom_5 : decode cX1_copyFrom 5 = .ok (.aload_n 0, 1) := by decide +kernel
theorem dX1_copyFrom_6 : decode cX1_copyFrom 6 = .ok (.getfield 9, 3) := by decide +kernel
theorem dX1_copyFrom_9 : decode cX1_copyFrom 9 = .ok (.iconst 0, 1) := by decide +kernel
theorem dX1_copyFrom_10 : decode cX1_copyFrom 10 = .ok (.aload_n 1, 1) := by decide +kernel
theorem dX1_copyFrom_11 : decode cX1_copyFrom 11 = .ok (.getfield 9, 3) := by decide +kernel
theorem dX1_copyFrom_14 : decode cX1_copyFrom 14 = .ok (.arraylength, 1) := by decide +kernel
theorem dX1_copyFrom_15 : decode cX1_copyFrom 15 = .ok (.aload_n 0, 1) := by decide +kernel
theorem dX1_copyFrom_16 : decode cX1_copyFrom 16 = .ok (.getfield 9, 3) := by decide +kernel
theorem dX1_copyFrom_19 : decode cX1_copyFrom 19 = .ok (.arraylength, 1) := by decide +kernel
theorem dX1_copyFrom_20 : decode cX1_copyFrom 20 = .ok (.invokestatic 68, 3) := by decide +kernel
theorem dX1_copyFrom_23 : decode cX1_copyFrom 23 = .ok (.invokestatic 74, 3) := by decide +kernel
theorem dX1_copyFrom_26 : decode cX1_copyFrom 26 = .ok (.aload_n 1, 1) := by decide +kernel
theorem dX1_copyFrom_27 : decode cX1_copyFrom 27 = .ok (.getfield 15, 3) := by decide +kernel
theorem dX1_copyFrom_30 : decode cX1_copyFrom 30 = .ok (.iconst 0, 1) := by decide +kernel
theorem dX1_copyFrom_31 : decode cX1_copyFrom 31 = .ok (.aload_n 0, 1) := by decide +kernel
theorem dX1_copyFrom_32 : decode cX1_copyFrom 32 = .ok (.getfield 15, 3) := by decide +kernel
theorem dX1_copyFrom_35 : decode cX1_copyFrom 35 = .ok (.iconst 0, 1) := by decide +kernel
theorem dX1_copyFrom_36 : decode cX1_copyFrom 36 = .ok (.aload_n 1, 1) := by decide +kernel
theorem dX1_copyFrom_37 : decode cX1_copyFrom 37 = .ok (.getfield 15, 3) := by decide +kernel
theorem dX1_copyFrom_40 : decode cX1_copyFrom 40 = .ok (.arraylength, 1) := by decide +kernel
theorem dX1_copyFrom_41 : decode cX1_copyFrom 41 = .ok (.aload_n 0, 1) := by decide +kernel
theorem dX1_copyFrom_42 : decode cX1_copyFrom 42 = .ok (.getfield 15, 3) := by decide +kernel
theorem dX1_copyFrom_45 : decode cX1_copyFrom 45 = .ok (.arraylength, 1) := by decide +kernel
theorem dX1_copyFrom_46 : decode cX1_copyFrom 46 = .ok (.invokestatic 68, 3) := by decide +kernel
theorem dX1_copyFrom_49 : decode cX1_copyFrom 49 = .ok (.invokestatic 74, 3) := by decide +kernel
theorem dX1_copyFrom_52 : decode cX1_copyFrom 52 = .ok (.aload_n 1, 1) := by decide +kernel
theorem dX1_copyFrom_53 : decode cX1_copyFrom 53 = .ok (.getfield 18, 3) := by decide +kernel
theorem dX1_copyFrom_56 : decode cX1_copyFrom 56 = .ok (.iconst 0, 1) := by decide +kernel
theorem dX1_copyFrom_57 : decode cX1_copyFrom 57 = .ok (.aload_n 0, 1) := by decide +kernel
theorem dX1_copyFrom_58 : decode cX1_copyFrom 58 = .ok (.getfield 18, 3) := by decide +kernel
theorem dX1_copyFrom_61 : decode cX1_copyFrom 61 = .ok (.iconst 0, 1) := by decide +kernel
theorem dX1_copyFrom_62 : decode cX1_copyFrom 62 = .ok (.aload_n 1, 1) := by decide +kernel
theorem dX1_copyFrom_63 : decode cX1_copyFrom 63 = .ok (.getfield 18, 3) := by decide +kernel
theorem dX1_copyFrom_66 : decode cX1_copyFrom 66 = .ok (.arraylength, 1) := by decide +kernel
theorem dX1_copyFrom_67 : decode cX1_copyFrom 67 = .ok (.aload_n 0, 1) := by decide +kernel
theorem dX1_copyFrom_68 : decode cX1_copyFrom 68 = .ok (.getfield 18, 3) := by decide +kernel
theorem dX1_copyFrom_71 : decode cX1_copyFrom 71 = .ok (.arraylength, 1) := by decide +kernel
theorem dX1_copyFrom_72 : decode cX1_copyFrom 72 = .ok (.invokestatic 68, 3) := by decide +kernel
theorem dX1_copyFrom_75 : decode cX1_copyFrom 75 = .ok (.invokestatic 74, 3) := by decide +kernel
theorem dX1_copyFrom_78 : decode cX1_copyFrom 78 = .ok (.aload_n 0, 1) := by decide +kernel
theorem dX1_copyFrom_79 : decode cX1_copyFrom 79 = .ok (.getfield 26, 3) := by decide +kernel
theorem dX1_copyFrom_82 : decode cX1_copyFrom 82 = .ok (.aload_n 1, 1) := by decide +kernel
theorem dX1_copyFrom_83 : decode cX1_copyFrom 83 = .ok (.getfield 26, 3) := by decide +kernel
theorem dX1_copyFrom_86 : decode cX1_copyFrom 86 = .ok (.invokevirtual 80, 3) := by decide +kernel
theorem dX1_copyFrom_89 : decode cX1_copyFrom 89 = .ok (.aload_n 0, 1) := by decide +kernel
theorem dX1_copyFrom_90 : decode cX1_copyFrom 90 = .ok (.getfield 30, 3) := by decide +kernel
theorem dX1_copyFrom_93 : decode cX1_copyFrom 93 = .ok (.aload_n 1, 1) := by decide +kernel
theorem dX1_copyFrom_94 : decode cX1_copyFrom 94 = .ok (.getfield 30, 3) := by decide +kernel
theorem dX1_copyFrom_97 : decode cX1_copyFrom 97 = .ok (.invokevirtual 80, 3) := by decide +kernel
theorem dX1_copyFrom_100 : decode cX1_copyFrom 100 = .ok (.aload_n 0, 1) := by decide +kernel
theorem dX1_copyFrom_101 : decode cX1_copyFrom 101 = .ok (.getfield 33, 3) := by decide +kernel
theorem dX1_copyFrom_104 : decode cX1_copyFrom 104 = .ok (.aload_n 1, 1) := by decide +kernel
theorem dX1_copyFrom_105 : decode cX1_copyFrom 105 = .ok (.getfield 33, 3) := by decide +kernel
theorem dX1_copyFrom_108 : decode cX1_copyFrom 108 = .ok (.invokevirtual 80, 3) := by decide +kernel
theorem dX1_copyFrom_111 : decode cX1_copyFrom 111 = .ok (.aload_n 0, 1) := by decide +kernel
theorem dX1_copyFrom_112 : decode cX1_copyFrom 112 = .ok (.getfield 36, 3) := by decide +kernel
theorem dX1_copyFrom_115 : decode cX1_copyFrom 115 = .ok (.aload_n 1, 1) := by decide +kernel
theorem dX1_copyFrom_116 : decode cX1_copyFrom 116 = .ok (.getfield 36, 3) := by decide +kernel
theorem dX1_copyFrom_119 : decode cX1_copyFrom 119 = .ok (.invokevirtual 80, 3) := by decide +kernel
theorem dX1_copyFrom_122 : decode cX1_copyFrom 122 = .ok (.aload_n 0, 1) := by decide +kernel
theorem dX1_copyFrom_123 : decode cX1_copyFrom 123 = .ok (.getfield 39, 3) := by decide +kernel
theorem dX1_copyFrom_126 : decode cX1_copyFrom 126 = .ok (.aload_n 1, 1) := by decide +kernel
theorem dX1_copyFrom_127 : decode cX1_copyFrom 127 = .ok (.getfield 39, 3) := by decide +kernel
theorem dX1_copyFrom_130 : decode cX1_copyFrom 130 = .ok (.invokevirtual 80, 3) := by decide +kernel
theorem dX1_copyFrom_133 : decode cX1_copyFrom 133 = .ok (.aload_n 0, 1) := by decide +kernel
theorem dX1_copyFrom_134 : decode cX1_copyFrom 134 = .ok (.aload_n 1, 1) := by decide +kernel
theorem dX1_copyFrom_135 : decode cX1_copyFrom 135 = .ok (.getfield 42, 3) := by decide +kernel
theorem dX1_copyFrom_138 : decode cX1_copyFrom 138 = .ok (.putfield 42, 3) := by decide +kernel
theorem dX1_copyFrom_141 : decode cX1_copyFrom 141 = .ok (.aload_n 0, 1) := by decide +kernel
theorem dX1_copyFrom_142 : decode cX1_copyFrom 142 = .ok (.aload_n 1, 1) := by decide +kernel
theorem dX1_copyFrom_143 : decode cX1_copyFrom 143 = .ok (.getfield 46, 3) := by decide +kernel
theorem dX1_copyFrom_146 : decode cX1_copyFrom 146 = .ok (.putfield 46, 3) := by decide +kernel
theorem dX1_copyFrom_149 : decode cX1_copyFrom 149 = .ok (.aload_n 0, 1) := by decide +kernel
theorem dX1_copyFrom_150 : decode cX1_copyFrom 150 = .ok (.aload_n 1, 1) := by decide +kernel
theorem dX1_copyFrom_151 : decode cX1_copyFrom 151 = .ok (.getfield 50, 3) := by decide +kernel
theorem dX1_copyFrom_154 : decode cX1_copyFrom 154 = .ok (.putfield 50, 3) := by decide +kernel
theorem dX1_copyFrom_157 : decode cX1_copyFrom 157 = .ok (.aload_n 0, 1) := by decide +kernel
theorem dX1_copyFrom_158 : decode cX1_copyFrom 158 = .ok (.aload_n 1, 1) := by decide +kernel
theorem dX1_copyFrom_159 : decode cX1_copyFrom 159 = .ok (.getfield 53, 3) := by decide +kernel
theorem dX1_copyFrom_162 : decode cX1_copyFrom 162 = .ok (.putfield 53, 3) := by decide +kernel
theorem dX1_copyFrom_165 : decode cX1_copyFrom 165 = .ok (.aload_n 0, 1) := by decide +kernel
theorem dX1_copyFrom_166 : decode cX1_copyFrom 166 = .ok (.aload_n 1, 1) := by decide +kernel
theorem dX1_copyFrom_167 : decode cX1_copyFrom 167 = .ok (.getfield 56, 3) := by decide +kernel
theorem dX1_copyFrom_170 : decode cX1_copyFrom 170 = .ok (.putfield 56, 3) := by decide +kernel
theorem dX1_copyFrom_173 : decode cX1_copyFrom 173 = .ok (.aload_n 0, 1) := by decide +kernel
theorem dX1_copyFrom_174 : decode cX1_copyFrom 174 = .ok (.aload_n 1, 1) := by decide +kernel
theorem dX1_copyFrom_175 : decode cX1_copyFrom 175 = .ok (.getfield 59, 3) := by decide +kernel
theorem dX1_copyFrom_178 : decode cX1_copyFrom 178 = .ok (.putfield 59, 3) := by decide +kernel
theorem dX1_copyFrom_181 : decode cX1_copyFrom 181 = .ok (.return_, 1) := by decide +kernel
theorem dX1_watch_0 : decode cX1_watch 0 = .ok (.aload_n 0, 1) := by decide +kernel
theorem dX1_watch_1 : decode cX1_watch 1 = .ok (.iload_n 1, 1) := by decide +kernel
theorem dX1_watch_2 : decode cX1_watch 2 = .ok (.putfield 62, 3) := by decide +kernel
theorem dX1_watch_5 : decode cX1_watch 5 = .ok (.aload_n 0, 1) := by decide +kernel
theorem dX1_watch_6 : decode cX1_watch 6 = .ok (.iconst 0, 1) := by decide +kernel
theorem dX1_watch_7 : decode cX1_watch 7 = .ok (.putfield 65, 3) := by decide +kernel
theorem dX1_watch_10 : decode cX1_watch 10 = .ok (.return_, 1) := by decide +kernel
theorem dX1_setting_0 : decode cX1_setting 0 = .ok (.iload_n 1, 1) := by decide +kernel
theorem dX1_setting_1 : decode cX1_setting 1 = .ok (.ifCond .lt 21, 3) := by decide +kernel
theorem dX1_setting_4 : decode cX1_setting 4 = .ok (.iload_n 1, 1) := by decide +kernel
theorem dX1_setting_5 : decode cX1_setting 5 = .ok (.aload_n 0, 1) := by decide +kernel
theorem dX1_setting_6 : decode cX1_setting 6 = .ok (.getfield 9, 3) := by decide +kernel
theorem dX1_setting_9 : decode cX1_setting 9 = .ok (.arraylength, 1) := by decide +kernel
theorem dX1_setting_10 : decode cX1_setting 10 = .ok (.if_icmp .ge 12, 3) := by decide +kernel
theorem dX1_setting_13 : decode cX1_setting 13 = .ok (.aload_n 0, 1) := by decide +kernel
theorem dX1_setting_14 : decode cX1_setting 14 = .ok (.getfield 9, 3) := by decide +kernel
theorem dX1_setting_17 : decode cX1_setting 17 = .ok (.iload_n 1, 1) := by decide +kernel
theorem dX1_setting_18 : decode cX1_setting 18 = .ok (.iaload, 1) := by decide +kernel
theorem dX1_setting_19 : decode cX1_setting 19 = .ok (.goto 4, 3) := by decide +kernel
theorem dX1_setting_22 : decode cX1_setting 22 = .ok (.iconst 0, 1) := by decide +kernel
theorem dX1_setting_23 : decode cX1_setting 23 = .ok (.ireturn, 1) := by decide +kernel
theorem dX1_putSetting_0 : decode cX1_putSetting 0 = .ok (.iload_n 1, 1) := by decide +kernel
theorem dX1_putSetting_1 : decode cX1_putSetting 1 = .ok (.ifCond .lt 19, 3) := by decide +kernel
theorem dX1_putSetting_4 : decode cX1_putSetting 4 = .ok (.iload_n 1, 1) := by decide +kernel
theorem dX1_putSetting_5 : decode cX1_putSetting 5 = .ok (.aload_n 0, 1) := by decide +kernel
theorem dX1_putSetting_6 : decode cX1_putSetting 6 = .ok (.getfield 9, 3) := by decide +kernel
theorem dX1_putSetting_9 : decode cX1_putSetting 9 = .ok (.arraylength, 1) := by decide +kernel
theorem dX1_putSetting_10 : decode cX1_putSetting 10 = .ok (.if_icmp .ge 10, 3) := by decide +kernel
theorem dX1_putSetting_13 : decode cX1_putSetting 13 = .ok (.aload_n 0, 1) := by decide +kernel
theorem dX1_putSetting_14 : decode cX1_putSetting 14 = .ok (.getfield 9, 3) := by decide +kernel
theorem dX1_putSetting_17 : decode cX1_putSetting 17 = .ok (.iload_n 1, 1) := by decide +kernel
theorem dX1_putSetting_18 : decode cX1_putSetting 18 = .ok (.iload_n 2, 1) := by decide +kernel
theorem dX1_putSetting_19 : decode cX1_putSetting 19 = .ok (.iastore, 1) := by decide +kernel
theorem dX1_putSetting_20 : decode cX1_putSetting 20 = .ok (.return_, 1) := by decide +kernel
theorem dX1_place_0 : decode cX1_place 0 = .ok (.iload_n 1, 1) := by decide +kernel
theorem dX1_place_1 : decode cX1_place 1 = .ok (.ifCond .lt 21, 3) := by decide +kernel
theorem dX1_place_4 : decode cX1_place 4 = .ok (.iload_n 1, 1) := by decide +kernel
theorem dX1_place_5 : decode cX1_place 5 = .ok (.aload_n 0, 1) := by decide +kernel
theorem dX1_place_6 : decode cX1_place 6 = .ok (.getfield 15, 3) := by decide +kernel
theorem dX1_place_9 : decode cX1_place 9 = .ok (.arraylength, 1) := by decide +kernel
theorem dX1_place_10 : decode cX1_place 10 = .ok (.if_icmp .ge 12, 3) := by decide +kernel
theorem dX1_place_13 : decode cX1_place 13 = .ok (.aload_n 0, 1) := by decide +kernel
theorem dX1_place_14 : decode cX1_place 14 = .ok (.getfield 15, 3) := by decide +kernel
theorem dX1_place_17 : decode cX1_place 17 = .ok (.iload_n 1, 1) := by decide +kernel
theorem dX1_place_18 : decode cX1_place 18 = .ok (.iaload, 1) := by decide +kernel
theorem dX1_place_19 : decode cX1_place 19 = .ok (.goto 4, 3) := by decide +kernel
theorem dX1_place_22 : decode cX1_place 22 = .ok (.iconst 0, 1) := by decide +kernel
theorem dX1_place_23 : decode cX1_place 23 = .ok (.ireturn, 1) := by decide +kernel
theorem dX1_putPlace_0 : decode cX1_putPlace 0 = .ok (.iload_n 1, 1) := by decide +kernel
theorem dX1_putPlace_1 : decode cX1_putPlace 1 = .ok (.ifCond .lt 19, 3) := by decide +kernel
theorem dX1_putPlace_4 : decode cX1_putPlace 4 = .ok (.iload_n 1, 1) := by decide +kernel
theorem dX1_putPlace_5 : decode cX1_putPlace 5 = .ok (.aload_n 0, 1) := by decide +kernel
theorem dX1_putPlace_6 : decode cX1_putPlace 6 = .ok (.getfield 15, 3) := by decide +kernel
theorem dX1_putPlace_9 : decode cX1_putPlace 9 = .ok (.arraylength, 1) := by decide +kernel
theorem dX1_putPlace_10 : decode cX1_putPlace 10 = .ok (.if_icmp .ge 10, 3) := by decide +kernel
theorem dX1_putPlace_13 : decode cX1_putPlace 13 = .ok (.aload_n 0, 1) := by decide +kernel
theorem dX1_putPlace_14 : decode cX1_putPlace 14 = .ok (.getfield 15, 3) := by decide +kernel
theorem dX1_putPlace_17 : decode cX1_putPlace 17 = .ok (.iload_n 1, 1) := by decide +kernel
theorem dX1_putPlace_18 : decode cX1_putPlace 18 = .ok (.iload_n 2, 1) := by decide +kernel
theorem dX1_putPlace_19 : decode cX1_putPlace 19 = .ok (.iastore, 1) := by decide +kernel
theorem dX1_putPlace_20 : decode cX1_putPlace 20 = .ok (.return_, 1) := by decide +kernel
theorem dX1_counted_0 : decode cX1_counted 0 = .ok (.iload_n 1, 1) := by decide +kernel
theorem dX1_counted_1 : decode cX1_counted 1 = .ok (.ifCond .lt 21, 3) := by decide +kernel
theorem dX1_counted_4 : decode cX1_counted 4 = .ok (.iload_n 1, 1) := by decide +kernel
theorem dX1_counted_5 : decode cX1_counted 5 = .ok (.aload_n 0, 1) := by decide +kernel
theorem dX1_counted_6 : decode cX1_counted 6 = .ok (.getfield 18, 3) := by decide +kernel
theorem dX1_counted_9 : decode cX1_counted 9 = .ok (.arraylength, 1) := by decide +kernel
theorem dX1_counted_10 : decode cX1_counted 10 = .ok (.if_icmp .ge 12, 3) := by decide +kernel
theorem dX1_counted_13 : decode cX1_counted 13 = .ok (.aload_n 0, 1) := by decide +kernel
theorem dX1_counted_14 : decode cX1_counted 14 = .ok (.getfield 18, 3) := by decide +kernel
theorem dX1_counted_17 : decode cX1_counted 17 = .ok (.iload_n 1, 1) := by decide +kernel
theorem dX1_counted_18 : decode cX1_counted 18 = .ok (.iaload, 1) := by decide +kernel
theorem dX1_counted_19 : decode cX1_counted 19 = .ok (.goto 4, 3) := by decide +kernel
theorem dX1_counted_22 : decode cX1_counted 22 = .ok (.iconst 0, 1) := by decide +kernel
theorem dX1_counted_23 : decode cX1_counted 23 = .ok (.ireturn, 1) := by decide +kernel
theorem dX1_count_0 : decode cX1_count 0 = .ok (.iload_n 1, 1) := by decide +kernel
theorem dX1_count_1 : decode cX1_count 1 = .ok (.ifCond .lt 22, 3) := by decide +kernel
theorem dX1_count_4 : decode cX1_count 4 = .ok (.iload_n 1, 1) := by decide +kernel
theorem dX1_count_5 : decode cX1_count 5 = .ok (.aload_n 0, 1) := by decide +kernel
theorem dX1_count_6 : decode cX1_count 6 = .ok (.getfield 18, 3) := by decide +kernel
theorem dX1_count_9 : decode cX1_count 9 = .ok (.arraylength, 1) := by decide +kernel
theorem dX1_count_10 : decode cX1_count 10 = .ok (.if_icmp .ge 13, 3) := by decide +kernel
theorem dX1_count_13 : decode cX1_count 13 = .ok (.aload_n 0, 1) := by decide +kernel
theorem dX1_count_14 : decode cX1_count 14 = .ok (.getfield 18, 3) := by decide +kernel
theorem dX1_count_17 : decode cX1_count 17 = .ok (.iload_n 1, 1) := by decide +kernel
theorem dX1_count_18 : decode cX1_count 18 = .ok (.dup2, 1) := by decide +kernel
theorem dX1_count_19 : decode cX1_count 19 = .ok (.iaload, 1) := by decide +kernel
theorem dX1_count_20 : decode cX1_count 20 = .ok (.iconst 1, 1) := by decide +kernel
theorem dX1_count_21 : decode cX1_count 21 = .ok (.iadd, 1) := by decide +kernel
theorem dX1_count_22 : decode cX1_count 22 = .ok (.iastore, 1) := by decide +kernel
theorem dX1_count_23 : decode cX1_count 23 = .ok (.return_, 1) := by decide +kernel
set_option maxRecDepth 20000 in
theorem ggX1_valueOf_X1_setting : GoodIn wsX1_valueOf wsX1_setting := goodIn_r _ [7, 2, 13, 14, 15, 16, 17, 18, 19, 20, 21, 22, 23, 24, 25, 26, 27, 28] (by decide +kernel) (by decide +kernel)
set_option maxRecDepth 20000 in
theorem gX1_valueOf_X1_setting : GoodIn wsX1_valueOf (wsV RX1 84 RX1 yX1_setting wsX1_setting) := goodIn_app (goodIn_of _ (by decide +kernel)) ggX1_valueOf_X1_setting
set_option maxRecDepth 20000 in
theorem ggX1_valueOf_X1_place : GoodIn wsX1_valueOf wsX1_place := goodIn_r _ [11, 12, 13, 14, 15, 16, 17, 18, 19, 20, 21, 22, 23, 24, 25, 26, 27, 28] (by decide +kernel) (by decide +kernel)
set_option maxRecDepth 20000 in
theorem gX1_valueOf_X1_place : GoodIn wsX1_valueOf (wsV RX1 88 RX1 yX1_place wsX1_place) := goodIn_app (goodIn_of _ (by decide +kernel)) ggX1_valueOf_X1_place
theorem dX1_valueOf_0 : decode cX1_valueOf 0 = .ok (.iload_n 1, 1) := by decide +kernel
theorem dX1_valueOf_1 : decode cX1_valueOf 1 = .ok (.bipush 12, 2) := by decide +kernel
theorem dX1_valueOf_3 : decode cX1_valueOf 3 = .ok (.if_icmp .ne 8, 3) := by decide +kernel
theorem dX1_valueOf_6 : decode cX1_valueOf 6 = .ok (.aload_n 0, 1) := by decide +kernel
theorem dX1_valueOf_7 : decode cX1_valueOf 7 = .ok (.getfield 56, 3) := by decide +kernel
theorem dX1_valueOf_10 : decode cX1_valueOf 10 = .ok (.ireturn, 1) := by decide +kernel
theorem dX1_valueOf_11 : decode cX1_valueOf 11 = .ok (.iload_n 1, 1) := by decide +kernel
theorem dX1_valueOf_12 : decode cX1_valueOf 12 = .ok (.aload_n 0, 1) := by decide +kernel
theorem dX1_valueOf_13 : decode cX1_valueOf 13 = .ok (.getfield 9, 3) := by decide +kernel
theorem dX1_valueOf_16 : decode cX1_valueOf 16 = .ok (.arraylength, 1) := by decide +kernel
theorem dX1_valueOf_17 : decode cX1_valueOf 17 = .ok (.if_icmp .ge 11, 3) := by decide +kernel
theorem dX1_valueOf_20 : decode cX1_valueOf 20 = .ok (.aload_n 0, 1) := by decide +kernel
theorem dX1_valueOf_21 : decode cX1_valueOf 21 = .ok (.iload_n 1, 1) := by decide +kernel
theorem dX1_valueOf_22 : decode cX1_valueOf 22 = .ok (.invokevirtual 84, 3) := by decide +kernel
theorem dX1_valueOf_25 : decode cX1_valueOf 25 = .ok (.goto 14, 3) := by decide +kernel
theorem dX1_valueOf_28 : decode cX1_valueOf 28 = .ok (.aload_n 0, 1) := by decide +kernel
theorem dX1_valueOf_29 : decode cX1_valueOf 29 = .ok (.iload_n 1, 1) := by decide +kernel
theorem dX1_valueOf_30 : decode cX1_valueOf 30 = .ok (.aload_n 0, 1) := by decide +kernel
theorem dX1_valueOf_31 : decode cX1_valueOf 31 = .ok (.getfield 9, 3) := by decide +kernel
theorem dX1_valueOf_34 : decode cX1_valueOf 34 = .ok (.arraylength, 1) := by decide +kernel
theorem dX1_valueOf_35 : decode cX1_valueOf 35 = .ok (.isub, 1) := by decide +kernel
theorem dX1_valueOf_36 : decode cX1_valueOf 36 = .ok (.invokevirtual 88, 3) := by decide +kernel
theorem dX1_valueOf_39 : decode cX1_valueOf 39 = .ok (.ireturn, 1) := by decide +kernel
set_option maxRecDepth 20000 in
theorem ggX1_statusOf_X2_count : GoodIn wsX1_statusOf wsX2_count := goodIn_r _ [13, 14, 31, 32, 33, 34] (by decide +kernel) (by decide +kernel)
set_option maxRecDepth 20000 in
theorem gX1_statusOf_X2_count : GoodIn wsX1_statusOf (wsV RX1 91 RX2 yX2_count wsX2_count) := goodIn_app (goodIn_of _ (by decide +kernel)) ggX1_statusOf_X2_count
theorem dX1_statusOf_0 : decode cX1_statusOf 0 = .ok (.iload_n 1, 1) := by decide +kernel
theorem dX1_statusOf_1 : decode cX1_statusOf 1 = .ok (.tableswitch 98 0 6 #[43, 48, 61, 66, 74, 82, 90], 43) := by decide +kernel
theorem dX1_statusOf_44 : decode cX1_statusOf 44 = .ok (.aload_n 0, 1) := by decide +kernel
theorem dX1_statusOf_45 : decode cX1_statusOf 45 = .ok (.getfield 42, 3) := by decide +kernel
theorem dX1_statusOf_48 : decode cX1_statusOf 48 = .ok (.ireturn, 1) := by decide +kernel
theorem dX1_statusOf_49 : decode cX1_statusOf 49 = .ok (.aload_n 0, 1) := by decide +kernel
theorem dX1_statusOf_50 : decode cX1_statusOf 50 = .ok (.getfield 46, 3) := by decide +kernel
theorem dX1_statusOf_53 : decode cX1_statusOf 53 = .ok (.ifCond .eq 7, 3) := by decide +kernel
theorem dX1_statusOf_56 : decode cX1_statusOf 56 = .ok (.iconst 1, 1) := by decide +kernel
theorem dX1_statusOf_57 : decode cX1_statusOf 57 = .ok (.goto 4, 3) := by decide +kernel
theorem dX1_statusOf_60 : decode cX1_statusOf 60 = .ok (.iconst 0, 1) := by decide +kernel
theorem dX1_statusOf_61 : decode cX1_statusOf 61 = .ok (.ireturn, 1) := by decide +kernel
theorem dX1_statusOf_62 : decode cX1_statusOf 62 = .ok (.aload_n 0, 1) := by decide +kernel
theorem dX1_statusOf_63 : decode cX1_statusOf 63 = .ok (.getfield 50, 3) := by decide +kernel
theorem dX1_statusOf_66 : decode cX1_statusOf 66 = .ok (.ireturn, 1) := by decide +kernel
theorem dX1_statusOf_67 : decode cX1_statusOf 67 = .ok (.aload_n 0, 1) := by decide +kernel
theorem dX1_statusOf_68 : decode cX1_statusOf 68 = .ok (.getfield 26, 3) := by decide +kernel
theorem dX1_statusOf_71 : decode cX1_statusOf 71 = .ok (.invokevirtual 91, 3) := by decide +kernel
theorem dX1_statusOf_74 : decode cX1_statusOf 74 = .ok (.ireturn, 1) := by decide +kernel
theorem dX1_statusOf_75 : decode cX1_statusOf 75 = .ok (.aload_n 0, 1) := by decide +kernel
theorem dX1_statusOf_76 : decode cX1_statusOf 76 = .ok (.getfield 30, 3) := by decide +kernel
theorem dX1_statusOf_79 : decode cX1_statusOf 79 = .ok (.invokevirtual 91, 3) := by decide +kernel
theorem dX1_statusOf_82 : decode cX1_statusOf 82 = .ok (.ireturn, 1) := by decide +kernel
theorem dX1_statusOf_83 : decode cX1_statusOf 83 = .ok (.aload_n 0, 1) := by decide +kernel
theorem dX1_statusOf_84 : decode cX1_statusOf 84 = .ok (.getfield 33, 3) := by decide +kernel
theorem dX1_statusOf_87 : decode cX1_statusOf 87 = .ok (.invokevirtual 91, 3) := by decide +kernel
theorem dX1_statusOf_90 : decode cX1_statusOf 90 = .ok (.ireturn, 1) := by decide +kernel
theorem dX1_statusOf_91 : decode cX1_statusOf 91 = .ok (.aload_n 0, 1) := by decide +kernel
theorem dX1_statusOf_92 : decode cX1_statusOf 92 = .ok (.getfield 39, 3) := by decide +kernel
theorem dX1_statusOf_95 : decode cX1_statusOf 95 = .ok (.invokevirtual 91, 3) := by decide +kernel
theorem dX1_statusOf_98 : decode cX1_statusOf 98 = .ok (.ireturn, 1) := by decide +kernel
theorem dX1_statusOf_99 : decode cX1_statusOf 99 = .ok (.aload_n 0, 1) := by decide +kernel
theorem dX1_statusOf_100 : decode cX1_statusOf 100 = .ok (.getfield 36, 3) := by decide +kernel
theorem dX1_statusOf_103 : decode cX1_statusOf 103 = .ok (.invokevirtual 91, 3) := by decide +kernel
theorem dX1_statusOf_106 : decode cX1_statusOf 106 = .ok (.ireturn, 1) := by decide +kernel
set_option maxRecDepth 20000 in
theorem ggX1_hasRoom_X2_count : GoodIn wsX1_hasRoom wsX2_count := goodIn_r _ [7, 8, 35, 36, 37, 38] (by decide +kernel) (by decide +kernel)
set_option maxRecDepth 20000 in
theorem gX1_hasRoom_X2_count : GoodIn wsX1_hasRoom (wsV RX1 91 RX2 yX2_count wsX2_count) := goodIn_app (goodIn_of _ (by decide +kernel)) ggX1_hasRoom_X2_count
set_option maxRecDepth 20000 in
theorem ggX1_hasRoom_X2_hasBelow : GoodIn wsX1_hasRoom wsX2_hasBelow := goodIn_r _ [12, 8, 13, 14, 15, 6, 16, 17, 18, 35, 36, 37, 38] (by decide +kernel) (by decide +kernel)
set_option maxRecDepth 20000 in
theorem gX1_hasRoom_X2_hasBelow : GoodIn wsX1_hasRoom (wsV RX1 95 RX2 yX2_hasBelow wsX2_hasBelow) := goodIn_app (goodIn_of _ (by decide +kernel)) ggX1_hasRoom_X2_hasBelow
theorem dX1_hasRoom_0 : decode cX1_hasRoom 0 = .ok (.aload_n 0, 1) := by decide +kernel
theorem dX1_hasRoom_1 : decode cX1_hasRoom 1 = .ok (.getfield 26, 3) := by decide +kernel
theorem dX1_hasRoom_4 : decode cX1_hasRoom 4 = .ok (.invokevirtual 91, 3) := by decide +kernel
theorem dX1_hasRoom_7 : decode cX1_hasRoom 7 = .ok (.bipush 20, 2) := by decide +kernel
theorem dX1_hasRoom_9 : decode cX1_hasRoom 9 = .ok (.if_icmp .ge 33, 3) := by decide +kernel
theorem dX1_hasRoom_12 : decode cX1_hasRoom 12 = .ok (.aload_n 0, 1) := by decide +kernel
theorem dX1_hasRoom_13 : decode cX1_hasRoom 13 = .ok (.getfield 26, 3) := by decide +kernel
theorem dX1_hasRoom_16 : decode cX1_hasRoom 16 = .ok (.iconst 1, 1) := by decide +kernel
theorem dX1_hasRoom_17 : decode cX1_hasRoom 17 = .ok (.bipush 30, 2) := by decide +kernel
theorem dX1_hasRoom_19 : decode cX1_hasRoom 19 = .ok (.invokevirtual 95, 3) := by decide +kernel
theorem dX1_hasRoom_22 : decode cX1_hasRoom 22 = .ok (.ifCond .ne 20, 3) := by decide +kernel
theorem dX1_hasRoom_25 : decode cX1_hasRoom 25 = .ok (.aload_n 0, 1) := by decide +kernel
theorem dX1_hasRoom_26 : decode cX1_hasRoom 26 = .ok (.getfield 30, 3) := by decide +kernel
theorem dX1_hasRoom_29 : decode cX1_hasRoom 29 = .ok (.iconst 1, 1) := by decide +kernel
theorem dX1_hasRoom_30 : decode cX1_hasRoom 30 = .ok (.bipush 30, 2) := by decide +kernel
theorem dX1_hasRoom_32 : decode cX1_hasRoom 32 = .ok (.invokevirtual 95, 3) := by decide +kernel
theorem dX1_hasRoom_35 : decode cX1_hasRoom 35 = .ok (.ifCond .ne 7, 3) := by decide +kernel
theorem dX1_hasRoom_38 : decode cX1_hasRoom 38 = .ok (.iconst 1, 1) := by decide +kernel
theorem dX1_hasRoom_39 : decode cX1_hasRoom 39 = .ok (.goto 4, 3) := by decide +kernel
theorem dX1_hasRoom_42 : decode cX1_hasRoom 42 = .ok (.iconst 0, 1) := by decide +kernel
theorem dX1_hasRoom_43 : decode cX1_hasRoom 43 = .ok (.ireturn, 1) := by decide +kernel
set_option maxRecDepth 20000 in
theorem ggX1_enter_X1_counted : GoodIn wsX1_enter wsX1_counted := goodIn_r _ [7, 8, 27, 28, 29, 30, 31, 32, 33, 34, 35, 36, 37, 38, 39, 40, 41, 42] (by decide +kernel) (by decide +kernel)
set_option maxRecDepth 20000 in
theorem gX1_enter_X1_counted : GoodIn wsX1_enter (wsV RX1 99 RX1 yX1_counted wsX1_counted) := goodIn_app (goodIn_of _ (by decide +kernel)) ggX1_enter_X1_counted
set_option maxRecDepth 20000 in
theorem ggX1_enter_X1_count : GoodIn wsX1_enter wsX1_count := goodIn_r _ [12, 8, 27, 28, 29, 30, 31, 32, 33, 34, 35, 36, 37, 38, 39, 40, 41, 42] (by decide +kernel) (by decide +kernel)
set_option maxRecDepth 20000 in
theorem gX1_enter_X1_count : GoodIn wsX1_enter (wsV RX1 102 RX1 yX1_count wsX1_count) := goodIn_app (goodIn_of _ (by decide +kernel)) ggX1_enter_X1_count
set_option maxRecDepth 20000 in
theorem ggX1_enter_X2_addRow : GoodIn wsX1_enter wsX2_addRow := goodIn_r _ [17, 18, 19, 20, 21, 22, 23, 16, 24, 25, 43, 44, 45, 46] (by decide +kernel) (by decide +kernel)
set_option maxRecDepth 20000 in
theorem gX1_enter_X2_addRow : GoodIn wsX1_enter (wsV RX1 105 RX2 yX2_addRow wsX2_addRow) := goodIn_app (goodIn_of _ (by decide +kernel)) ggX1_enter_X2_addRow
set_option maxRecDepth 20000 in
theorem ggX1_enter_X2_put : GoodIn wsX1_enter wsX2_put := goodIn_r _ [24, 20, 25, 43, 44, 45, 46] (by decide +kernel) (by decide +kernel)
set_option maxRecDepth 20000 in
theorem gX1_enter_X2_put : GoodIn wsX1_enter (wsV RX1 108 RX2 yX2_put wsX2_put) := goodIn_app (goodIn_of _ (by decide +kernel)) ggX1_enter_X2_put
theorem dX1_enter_0 : decode cX1_enter 0 = .ok (.aload_n 0, 1) := by decide +kernel
theorem dX1_enter_1 : decode cX1_enter 1 = .ok (.iconst 0, 1) := by decide +kernel
theorem dX1_enter_2 : decode cX1_enter 2 = .ok (.invokevirtual 99, 3) := by decide +kernel
theorem dX1_enter_5 : decode cX1_enter 5 = .ok (.istore_n 2, 1) := by decide +kernel
theorem dX1_enter_6 : decode cX1_enter 6 = .ok (.aload_n 0, 1) := by decide +kernel
theorem dX1_enter_7 : decode cX1_enter 7 = .ok (.iconst 0, 1) := by decide +kernel
theorem dX1_enter_8 : decode cX1_enter 8 = .ok (.invokevirtual 102, 3) := by decide +kernel
theorem dX1_enter_11 : decode cX1_enter 11 = .ok (.aload_n 0, 1) := by decide +kernel
theorem dX1_enter_12 : decode cX1_enter 12 = .ok (.getfield 26, 3) := by decide +kernel
theorem dX1_enter_15 : decode cX1_enter 15 = .ok (.iload_n 2, 1) := by decide +kernel
theorem dX1_enter_16 : decode cX1_enter 16 = .ok (.invokevirtual 105, 3) := by decide +kernel
theorem dX1_enter_19 : decode cX1_enter 19 = .ok (.istore_n 3, 1) := by decide +kernel
theorem dX1_enter_20 : decode cX1_enter 20 = .ok (.aload_n 0, 1) := by decide +kernel
theorem dX1_enter_21 : decode cX1_enter 21 = .ok (.getfield 26, 3) := by decide +kernel
theorem dX1_enter_24 : decode cX1_enter 24 = .ok (.iload_n 3, 1) := by decide +kernel
theorem dX1_enter_25 : decode cX1_enter 25 = .ok (.iconst 2, 1) := by decide +kernel
theorem dX1_enter_26 : decode cX1_enter 26 = .ok (.iload_n 1, 1) := by decide +kernel
theorem dX1_enter_27 : decode cX1_enter 27 = .ok (.invokevirtual 108, 3) := by decide +kernel
theorem dX1_enter_30 : decode cX1_enter 30 = .ok (.aload_n 0, 1) := by decide +kernel
theorem dX1_enter_31 : decode cX1_enter 31 = .ok (.getfield 30, 3) := by decide +kernel
theorem dX1_enter_34 : decode cX1_enter 34 = .ok (.iload_n 2, 1) := by decide +kernel
theorem dX1_enter_35 : decode cX1_enter 35 = .ok (.invokevirtual 105, 3) := by decide +kernel
theorem dX1_enter_38 : decode cX1_enter 38 = .ok (.pop, 1) := by decide +kernel
theorem dX1_enter_39 : decode cX1_enter 39 = .ok (.iload_n 2, 1) := by decide +kernel
theorem dX1_enter_40 : decode cX1_enter 40 = .ok (.ireturn, 1) := by decide +kernel
set_option maxRecDepth 20000 in
theorem ggX1_passTick_X1_deliverVerdicts : GoodIn wsX1_passTick wsX1_deliverVerdicts := goodIn_r _ [7, 8, 1, 9, 10, 11, 12, 13, 14, 15, 16, 17, 18, 19, 20, 21, 22, 23, 6, 24, 25, 26, 27, 28, 29, 30, 31, 32, 33, 34, 35, 36, 37, 38, 39, 40, 41, 42, 43, 44, 45, 46, 47, 154, 155, 156, 157, 158, 159, 160, 161, 162, 163, 164, 165, 166, 167, 168, 169, 170, 171, 172, 173] (by decide +kernel) (by decide +kernel)
set_option maxRecDepth 20000 in
theorem gX1_passTick_X1_deliverVerdicts : GoodIn wsX1_passTick (wsV RX1 112 RX1 yX1_deliverVerdicts wsX1_deliverVerdicts) := goodIn_app (goodIn_of _ (by decide +kernel)) ggX1_passTick_X1_deliverVerdicts
set_option maxRecDepth 20000 in
theorem ggX1_passTick_X1_fillBin : GoodIn wsX1_passTick wsX1_fillBin := goodIn_r _ [51, 52, 1, 9, 10, 11, 12, 13, 14, 15, 16, 17, 18, 19, 20, 53, 54, 55, 6, 56, 57, 58, 59, 60, 61, 62, 2, 31, 32, 33, 34, 35, 63, 45, 46, 47, 40, 41, 42, 43, 30, 44, 154, 155, 156, 157, 158, 159, 160, 161, 162, 163, 164, 165, 166, 167, 168, 169, 170, 171, 172, 173] (by decide +kernel) (by decide +kernel)
set_option maxRecDepth 20000 in
theorem gX1_passTick_X1_fillBin : GoodIn wsX1_passTick (wsV RX1 115 RX1 yX1_fillBin wsX1_fillBin) := goodIn_app (goodIn_of _ (by decide +kernel)) ggX1_passTick_X1_fillBin
set_option maxRecDepth 20000 in
theorem ggX1_passTick_X1_closeOverdueExpectations : GoodIn wsX1_passTick wsX1_closeOverdueExpectations := goodIn_r _ [67, 57, 1, 9, 10, 11, 12, 13, 14, 15, 16, 17, 18, 19, 20, 63, 45, 46, 47, 58, 59, 60, 6, 61, 62, 2, 31, 32, 33, 34, 35, 154, 155, 156, 157, 158, 159, 160, 161, 162, 163, 164, 165, 166, 167, 168, 169, 170, 171, 172, 173] (by decide +kernel) (by decide +kernel)
set_option maxRecDepth 20000 in
theorem gX1_passTick_X1_closeOverdueExpectations : GoodIn wsX1_passTick (wsV RX1 118 RX1 yX1_closeOverdueExpectations wsX1_closeOverdueExpectations) := goodIn_app (goodIn_of _ (by decide +kernel)) ggX1_passTick_X1_closeOverdueExpectations
set_option maxRecDepth 20000 in
theorem ggX1_passTick_X1_setting : GoodIn wsX1_passTick wsX1_setting := goodIn_r _ [71, 72, 154, 155, 156, 157, 158, 159, 160, 161, 162, 163, 164, 165, 166, 167, 168, 169] (by decide +kernel) (by decide +kernel)
set_option maxRecDepth 20000 in
theorem gX1_passTick_X1_setting : GoodIn wsX1_passTick (wsV RX1 84 RX1 yX1_setting wsX1_setting) := goodIn_app (goodIn_of _ (by decide +kernel)) ggX1_passTick_X1_setting
set_option maxRecDepth 20000 in
theorem ggX1_passTick_X1_pulse : GoodIn wsX1_passTick wsX1_pulse := goodIn_r _ [76, 77, 25, 78, 79, 80, 12, 81, 14, 30, 16, 17, 18, 19, 20, 82, 37, 38, 39, 9, 10, 11, 13, 83, 84, 85, 6, 86, 15, 87, 88, 89, 90, 91, 92, 93, 94, 95, 96, 68, 69, 70, 71, 72, 36, 97, 98, 99, 100, 101, 102, 103, 104, 105, 106, 107, 108, 31, 32, 33, 34, 35, 109, 110, 111, 112, 8, 1, 113, 114, 115, 116, 117, 118, 119, 120, 121, 122, 123, 124, 125, 126, 127, 128, 129, 52, 130, 57, 131, 132, 133, 134, 135, 136, 137, 138, 139, 140, 141, 63, 45, 46, 47, 58, 59, 60, 61, 62, 2, 142, 143, 144, 145, 146, 147, 148, 149, 150, 151, 152, 153, 154, 155, 156, 157, 158, 159, 160, 161, 162, 163, 164, 165, 166, 167, 168, 169, 170, 171, 172, 173] (by decide +kernel) (by decide +kernel)
set_option maxRecDepth 20000 in
theorem gX1_passTick_X1_pulse : GoodIn wsX1_passTick (wsV RX1 121 RX1 yX1_pulse wsX1_pulse) := goodIn_app (goodIn_of _ (by decide +kernel)) ggX1_passTick_X1_pulse
theorem dX1_passTick_0 : decode cX1_passTick 0 = .ok (.aload_n 0, 1) := by decide +kernel
theorem dX1_passTick_1 : decode cX1_passTick 1 = .ok (.dup, 1) := by decide +kernel
theorem dX1_passTick_2 : decode cX1_passTick 2 = .ok (.getfield 42, 3) := by decide +kernel
theorem dX1_passTick_5 : decode cX1_passTick 5 = .ok (.iconst 1, 1) := by decide +kernel
theorem dX1_passTick_6 : decode cX1_passTick 6 = .ok (.iadd, 1) := by decide +kernel
theorem dX1_passTick_7 : decode cX1_passTick 7 = .ok (.putfield 42, 3) := by decide +kernel
theorem dX1_passTick_10 : decode cX1_passTick 10 = .ok (.aload_n 0, 1) := by decide +kernel
theorem dX1_passTick_11 : decode cX1_passTick 11 = .ok (.invokevirtual 112, 3) := by decide +kernel
theorem dX1_passTick_14 : decode cX1_passTick 14 = .ok (.aload_n 0, 1) := by decide +kernel
theorem dX1_passTick_15 : decode cX1_passTick 15 = .ok (.invokevirtual 115, 3) := by decide +kernel
theorem dX1_passTick_18 : decode cX1_passTick 18 = .ok (.aload_n 0, 1) := by decide +kernel
theorem dX1_passTick_19 : decode cX1_passTick 19 = .ok (.invokevirtual 118, 3) := by decide +kernel
theorem dX1_passTick_22 : decode cX1_passTick 22 = .ok (.aload_n 0, 1) := by decide +kernel
theorem dX1_passTick_23 : decode cX1_passTick 23 = .ok (.iconst 0, 1) := by decide +kernel
theorem dX1_passTick_24 : decode cX1_passTick 24 = .ok (.invokevirtual 84, 3) := by decide +kernel
theorem dX1_passTick_27 : decode cX1_passTick 27 = .ok (.istore_n 1, 1) := by decide +kernel
theorem dX1_passTick_28 : decode cX1_passTick 28 = .ok (.iconst 0, 1) := by decide +kernel
theorem dX1_passTick_29 : decode cX1_passTick 29 = .ok (.istore_n 2, 1) := by decide +kernel
theorem dX1_passTick_30 : decode cX1_passTick 30 = .ok (.iload_n 2, 1) := by decide +kernel
theorem dX1_passTick_31 : decode cX1_passTick 31 = .ok (.iload_n 1, 1) := by decide +kernel
theorem dX1_passTick_32 : decode cX1_passTick 32 = .ok (.if_icmp .ge 20, 3) := by decide +kernel
theorem dX1_passTick_35 : decode cX1_passTick 35 = .ok (.aload_n 0, 1) := by decide +kernel
theorem dX1_passTick_36 : decode cX1_passTick 36 = .ok (.getfield 46, 3) := by decide +kernel
theorem dX1_passTick_39 : decode cX1_passTick 39 = .ok (.ifCond .eq 13, 3) := by decide +kernel
theorem dX1_passTick_42 : decode cX1_passTick 42 = .ok (.aload_n 0, 1) := by decide +kernel
theorem dX1_passTick_43 : decode cX1_passTick 43 = .ok (.invokevirtual 121, 3) := by decide +kernel
theorem dX1_passTick_46 : decode cX1_passTick 46 = .ok (.iinc 2 1, 3) := by decide +kernel
theorem dX1_passTick_49 : decode cX1_passTick 49 = .ok (.goto (-19), 3) := by decide +kernel
theorem dX1_passTick_52 : decode cX1_passTick 52 = .ok (.return_, 1) := by decide +kernel
set_option maxRecDepth 20000 in
theorem ggX1_raise_X1_count : GoodIn wsX1_raise wsX1_count := goodIn_r _ [7, 8, 9, 10, 11, 12, 13, 14, 15, 16, 17, 18, 19, 20, 21, 22, 23, 24] (by decide +kernel) (by decide +kernel)
set_option maxRecDepth 20000 in
theorem gX1_raise_X1_count : GoodIn wsX1_raise (wsV RX1 102 RX1 yX1_count wsX1_count) := goodIn_app (goodIn_of _ (by decide +kernel)) ggX1_raise_X1_count
theorem dX1_raise_0 : decode cX1_raise 0 = .ok (.aload_n 0, 1) := by decide +kernel
theorem dX1_raise_1 : decode cX1_raise 1 = .ok (.bipush 13, 2) := by decide +kernel
theorem dX1_raise_3 : decode cX1_raise 3 = .ok (.iload_n 1, 1) := by decide +kernel
theorem dX1_raise_4 : decode cX1_raise 4 = .ok (.iadd, 1) := by decide +kernel
theorem dX1_raise_5 : decode cX1_raise 5 = .ok (.invokevirtual 102, 3) := by decide +kernel
theorem dX1_raise_8 : decode cX1_raise 8 = .ok (.aload_n 0, 1) := by decide +kernel
theorem dX1_raise_9 : decode cX1_raise 9 = .ok (.getfield 50, 3) := by decide +kernel
theorem dX1_raise_12 : decode cX1_raise 12 = .ok (.ifCond .ne 13, 3) := by decide +kernel
theorem dX1_raise_15 : decode cX1_raise 15 = .ok (.aload_n 0, 1) := by decide +kernel
theorem dX1_raise_16 : decode cX1_raise 16 = .ok (.iload_n 1, 1) := by decide +kernel
theorem dX1_raise_17 : decode cX1_raise 17 = .ok (.putfield 50, 3) := by decide +kernel
theorem dX1_raise_20 : decode cX1_raise 20 = .ok (.aload_n 0, 1) := by decide +kernel
theorem dX1_raise_21 : decode cX1_raise 21 = .ok (.iconst 0, 1) := by decide +kernel
theorem dX1_raise_22 : decode cX1_raise 22 = .ok (.putfield 46, 3) := by decide +kernel
theorem dX1_raise_25 : decode cX1_raise 25 = .ok (.return_, 1) := by decide +kernel
set_option maxRecDepth 20000 in
theorem ggX1_deliverVerdicts_X2_count : GoodIn wsX1_deliverVerdicts wsX2_count := goodIn_r _ [7, 8, 59, 60, 61, 62] (by decide +kernel) (by decide +kernel)
set_option maxRecDepth 20000 in
theorem gX1_deliverVerdicts_X2_count : GoodIn wsX1_deliverVerdicts (wsV RX1 91 RX2 yX2_count wsX2_count) := goodIn_app (goodIn_of _ (by decide +kernel)) ggX1_deliverVerdicts_X2_count
set_option maxRecDepth 20000 in
theorem ggX1_deliverVerdicts_X2_get : GoodIn wsX1_deliverVerdicts wsX2_get := goodIn_r _ [12, 13, 14, 59, 60, 61, 62] (by decide +kernel) (by decide +kernel)
set_option maxRecDepth 20000 in
theorem gX1_deliverVerdicts_X2_get : GoodIn wsX1_deliverVerdicts (wsV RX1 124 RX2 yX2_get wsX2_get) := goodIn_app (goodIn_of _ (by decide +kernel)) ggX1_deliverVerdicts_X2_get
set_option maxRecDepth 20000 in
theorem ggX1_deliverVerdicts_X1_deliver : GoodIn wsX1_deliverVerdicts wsX1_deliver := goodIn_r _ [19, 20, 1, 9, 10, 11, 6, 12, 13, 14, 21, 22, 23, 24, 8, 25, 26, 27, 28, 18, 29, 30, 31, 32, 33, 34, 43, 44, 45, 46, 47, 48, 49, 50, 51, 52, 53, 54, 55, 56, 57, 58, 59, 60, 61, 62] (by decide +kernel) (by decide +kernel)
set_option maxRecDepth 20000 in
theorem gX1_deliverVerdicts_X1_deliver : GoodIn wsX1_deliverVerdicts (wsV RX1 127 RX1 yX1_deliver wsX1_deliver) := goodIn_app (goodIn_of _ (by decide +kernel)) ggX1_deliverVerdicts_X1_deliver
set_option maxRecDepth 20000 in
theorem ggX1_deliverVerdicts_X2_removeRowsOf : GoodIn wsX1_deliverVerdicts wsX2_removeRowsOf := goodIn_r _ [38, 8, 25, 10, 11, 6, 12, 13, 14, 39, 40, 41, 42, 59, 60, 61, 62] (by decide +kernel) (by decide +kernel)
set_option maxRecDepth 20000 in
theorem gX1_deliverVerdicts_X2_removeRowsOf : GoodIn wsX1_deliverVerdicts (wsV RX1 130 RX2 yX2_removeRowsOf wsX2_removeRowsOf) := goodIn_app (goodIn_of _ (by decide +kernel)) ggX1_deliverVerdicts_X2_removeRowsOf
theorem dX1_deliverVerdicts_0 : decode cX1_deliverVerdicts 0 = .ok (.iconst 0, 1) := by decide +kernel
theorem dX1_deliverVerdicts_1 : decode cX1_deliverVerdicts 1 = .ok (.istore_n 1, 1) := by decide +kernel
theorem dX1_deliverVerdicts_2 : decode cX1_deliverVerdicts 2 = .ok (.iload_n 1, 1) := by decide +kernel
theorem dX1_deliverVerdicts_3 : decode cX1_deliverVerdicts 3 = .ok (.aload_n 0, 1) := by decide +kernel
theorem dX1_deliverVerdicts_4 : decode cX1_deliverVerdicts 4 = .ok (.getfield 33, 3) := by decide +kernel
theorem dX1_deliverVerdicts_7 : decode cX1_deliverVerdicts 7 = .ok (.invokevirtual 91, 3) := by decide +kernel
theorem dX1_deliverVerdicts_10 : decode cX1_deliverVerdicts 10 = .ok (.if_icmp .ge 30, 3) := by decide +kernel
theorem dX1_deliverVerdicts_13 : decode cX1_deliverVerdicts 13 = .ok (.aload_n 0, 1) := by decide +kernel
theorem dX1_deliverVerdicts_14 : decode cX1_deliverVerdicts 14 = .ok (.getfield 33, 3) := by decide +kernel
theorem dX1_deliverVerdicts_17 : decode cX1_deliverVerdicts 17 = .ok (.iload_n 1, 1) := by decide +kernel
theorem dX1_deliverVerdicts_18 : decode cX1_deliverVerdicts 18 = .ok (.iconst 0, 1) := by decide +kernel
theorem dX1_deliverVerdicts_19 : decode cX1_deliverVerdicts 19 = .ok (.invokevirtual 124, 3) := by decide +kernel
theorem dX1_deliverVerdicts_22 : decode cX1_deliverVerdicts 22 = .ok (.aload_n 0, 1) := by decide +kernel
theorem dX1_deliverVerdicts_23 : decode cX1_deliverVerdicts 23 = .ok (.getfield 42, 3) := by decide +kernel
theorem dX1_deliverVerdicts_26 : decode cX1_deliverVerdicts 26 = .ok (.if_icmp .ne 8, 3) := by decide +kernel
theorem dX1_deliverVerdicts_29 : decode cX1_deliverVerdicts 29 = .ok (.aload_n 0, 1) := by decide +kernel
theorem dX1_deliverVerdicts_30 : decode cX1_deliverVerdicts 30 = .ok (.iload_n 1, 1) := by decide +kernel
theorem dX1_deliverVerdicts_31 : decode cX1_deliverVerdicts 31 = .ok (.invokevirtual 127, 3) := by decide +kernel
theorem dX1_deliverVerdicts_34 : decode cX1_deliverVerdicts 34 = .ok (.iinc 1 1, 3) := by decide +kernel
theorem dX1_deliverVerdicts_37 : decode cX1_deliverVerdicts 37 = .ok (.goto (-35), 3) := by decide +kernel
theorem dX1_deliverVerdicts_40 : decode cX1_deliverVerdicts 40 = .ok (.aload_n 0, 1) := by decide +kernel
theorem dX1_deliverVerdicts_41 : decode cX1_deliverVerdicts 41 = .ok (.getfield 33, 3) := by decide +kernel
theorem dX1_deliverVerdicts_44 : decode cX1_deliverVerdicts 44 = .ok (.aload_n 0, 1) := by decide +kernel
theorem dX1_deliverVerdicts_45 : decode cX1_deliverVerdicts 45 = .ok (.getfield 42, 3) := by decide +kernel
theorem dX1_deliverVerdicts_48 : decode cX1_deliverVerdicts 48 = .ok (.invokevirtual 130, 3) := by decide +kernel
theorem dX1_deliverVerdicts_51 : decode cX1_deliverVerdicts 51 = .ok (.return_, 1) := by decide +kernel
set_option maxRecDepth 20000 in
theorem ggX1_deliver_X2_get : GoodIn wsX1_deliver wsX2_get := goodIn_r _ [7, 8, 9, 42, 43, 44, 45] (by decide +kernel) (by decide +kernel)
set_option maxRecDepth 20000 in
theorem gX1_deliver_X2_get : GoodIn wsX1_deliver (wsV RX1 124 RX2 yX2_get wsX2_get) := goodIn_app (goodIn_of _ (by decide +kernel)) ggX1_deliver_X2_get
set_option maxRecDepth 20000 in
theorem ggX1_deliver_X2_find : GoodIn wsX1_deliver wsX2_find := goodIn_r _ [13, 14, 15, 4, 5, 6, 7, 8, 9, 42, 43, 44, 45] (by decide +kernel) (by decide +kernel)
set_option maxRecDepth 20000 in
theorem gX1_deliver_X2_find : GoodIn wsX1_deliver (wsV RX1 133 RX2 yX2_find wsX2_find) := goodIn_app (goodIn_of _ (by decide +kernel)) ggX1_deliver_X2_find
set_option maxRecDepth 20000 in
theorem ggX1_deliver_X1_count : GoodIn wsX1_deliver wsX1_count := goodIn_r _ [20, 21, 26, 27, 28, 29, 30, 31, 32, 33, 34, 35, 36, 37, 38, 39, 40, 41] (by decide +kernel) (by decide +kernel)
set_option maxRecDepth 20000 in
theorem gX1_deliver_X1_count : GoodIn wsX1_deliver (wsV RX1 102 RX1 yX1_count wsX1_count) := goodIn_app (goodIn_of _ (by decide +kernel)) ggX1_deliver_X1_count
set_option maxRecDepth 20000 in
theorem ggX1_deliver_X2_put : GoodIn wsX1_deliver wsX2_put := goodIn_r _ [25, 8, 9, 42, 43, 44, 45] (by decide +kernel) (by decide +kernel)
set_option maxRecDepth 20000 in
theorem gX1_deliver_X2_put : GoodIn wsX1_deliver (wsV RX1 108 RX2 yX2_put wsX2_put) := goodIn_app (goodIn_of _ (by decide +kernel)) ggX1_deliver_X2_put
theorem dX1_deliver_0 : decode cX1_deliver 0 = .ok (.aload_n 0, 1) := by decide +kernel
theorem dX1_deliver_1 : decode cX1_deliver 1 = .ok (.getfield 30, 3) := by decide +kernel
theorem dX1_deliver_4 : decode cX1_deliver 4 = .ok (.aload_n 0, 1) := by decide +kernel
theorem dX1_deliver_5 : decode cX1_deliver 5 = .ok (.getfield 33, 3) := by decide +kernel
theorem dX1_deliver_8 : decode cX1_deliver 8 = .ok (.iload_n 1, 1) := by decide +kernel
theorem dX1_deliver_9 : decode cX1_deliver 9 = .ok (.iconst 1, 1) := by decide +kernel
theorem dX1_deliver_10 : decode cX1_deliver 10 = .ok (.invokevirtual 124, 3) := by decide +kernel
theorem dX1_deliver_13 : decode cX1_deliver 13 = .ok (.invokevirtual 133, 3) := by decide +kernel
theorem dX1_deliver_16 : decode cX1_deliver 16 = .ok (.istore_n 2, 1) := by decide +kernel
theorem dX1_deliver_17 : decode cX1_deliver 17 = .ok (.iload_n 2, 1) := by decide +kernel
theorem dX1_deliver_18 : decode cX1_deliver 18 = .ok (.iconst (-1), 1) := by decide +kernel
theorem dX1_deliver_19 : decode cX1_deliver 19 = .ok (.if_icmp .eq 16, 3) := by decide +kernel
theorem dX1_deliver_22 : decode cX1_deliver 22 = .ok (.aload_n 0, 1) := by decide +kernel
theorem dX1_deliver_23 : decode cX1_deliver 23 = .ok (.getfield 30, 3) := by decide +kernel
theorem dX1_deliver_26 : decode cX1_deliver 26 = .ok (.iload_n 2, 1) := by decide +kernel
theorem dX1_deliver_27 : decode cX1_deliver 27 = .ok (.iconst 4, 1) := by decide +kernel
theorem dX1_deliver_28 : decode cX1_deliver 28 = .ok (.invokevirtual 124, 3) := by decide +kernel
theorem dX1_deliver_31 : decode cX1_deliver 31 = .ok (.iconst 1, 1) := by decide +kernel
theorem dX1_deliver_32 : decode cX1_deliver 32 = .ok (.if_icmp .ne 9, 3) := by decide +kernel
theorem dX1_deliver_35 : decode cX1_deliver 35 = .ok (.aload_n 0, 1) := by decide +kernel
theorem dX1_deliver_36 : decode cX1_deliver 36 = .ok (.iconst 4, 1) := by decide +kernel
theorem dX1_deliver_37 : decode cX1_deliver 37 = .ok (.invokevirtual 102, 3) := by decide +kernel
theorem dX1_deliver_40 : decode cX1_deliver 40 = .ok (.return_, 1) := by decide +kernel
theorem dX1_deliver_41 : decode cX1_deliver 41 = .ok (.aload_n 0, 1) := by decide +kernel
theorem dX1_deliver_42 : decode cX1_deliver 42 = .ok (.getfield 33, 3) := by decide +kernel
theorem dX1_deliver_45 : decode cX1_deliver 45 = .ok (.iload_n 1, 1) := by decide +kernel
theorem dX1_deliver_46 : decode cX1_deliver 46 = .ok (.iconst 3, 1) := by decide +kernel
theorem dX1_deliver_47 : decode cX1_deliver 47 = .ok (.invokevirtual 124, 3) := by decide +kernel
theorem dX1_deliver_50 : decode cX1_deliver 50 = .ok (.istore_n 3, 1) := by decide +kernel
theorem dX1_deliver_51 : decode cX1_deliver 51 = .ok (.aload_n 0, 1) := by decide +kernel
theorem dX1_deliver_52 : decode cX1_deliver 52 = .ok (.getfield 30, 3) := by decide +kernel
theorem dX1_deliver_55 : decode cX1_deliver 55 = .ok (.iload_n 2, 1) := by decide +kernel
theorem dX1_deliver_56 : decode cX1_deliver 56 = .ok (.iconst 2, 1) := by decide +kernel
theorem dX1_deliver_57 : decode cX1_deliver 57 = .ok (.invokevirtual 124, 3) := by decide +kernel
theorem dX1_deliver_60 : decode cX1_deliver 60 = .ok (.istore 4, 2) := by decide +kernel
theorem dX1_deliver_62 : decode cX1_deliver 62 = .ok (.aload_n 0, 1) := by decide +kernel
theorem dX1_deliver_63 : decode cX1_deliver 63 = .ok (.getfield 33, 3) := by decide +kernel
theorem dX1_deliver_66 : decode cX1_deliver 66 = .ok (.iload_n 1, 1) := by decide +kernel
theorem dX1_deliver_67 : decode cX1_deliver 67 = .ok (.iconst 2, 1) := by decide +kernel
theorem dX1_deliver_68 : decode cX1_deliver 68 = .ok (.invokevirtual 124, 3) := by decide +kernel
theorem dX1_deliver_71 : decode cX1_deliver 71 = .ok (.ifCond .ne 21, 3) := by decide +kernel
theorem dX1_deliver_74 : decode cX1_deliver 74 = .ok (.iload 4, 2) := by decide +kernel
theorem dX1_deliver_76 : decode cX1_deliver 76 = .ok (.ifCond .ne 46, 3) := by decide +kernel
theorem dX1_deliver_79 : decode cX1_deliver 79 = .ok (.aload_n 0, 1) := by decide +kernel
theorem dX1_deliver_80 : decode cX1_deliver 80 = .ok (.getfield 30, 3) := by decide +kernel
theorem dX1_deliver_83 : decode cX1_deliver 83 = .ok (.iload_n 2, 1) := by decide +kernel
theorem dX1_deliver_84 : decode cX1_deliver 84 = .ok (.iconst 2, 1) := by decide +kernel
theorem dX1_deliver_85 : decode cX1_deliver 85 = .ok (.iload_n 3, 1) := by decide +kernel
theorem dX1_deliver_86 : decode cX1_deliver 86 = .ok (.invokevirtual 108, 3) := by decide +kernel
theorem dX1_deliver_89 : decode cX1_deliver 89 = .ok (.goto 33, 3) := by decide +kernel
theorem dX1_deliver_92 : decode cX1_deliver 92 = .ok (.iload 4, 2) := by decide +kernel
theorem dX1_deliver_94 : decode cX1_deliver 94 = .ok (.ifCond .eq 9, 3) := by decide +kernel
theorem dX1_deliver_97 : decode cX1_deliver 97 = .ok (.iload 4, 2) := by decide +kernel
theorem dX1_deliver_99 : decode cX1_deliver 99 = .ok (.iconst 3, 1) := by decide +kernel
theorem dX1_deliver_100 : decode cX1_deliver 100 = .ok (.if_icmp .ne 22, 3) := by decide +kernel
theorem dX1_deliver_103 : decode cX1_deliver 103 = .ok (.aload_n 0, 1) := by decide +kernel
theorem dX1_deliver_104 : decode cX1_deliver 104 = .ok (.getfield 30, 3) := by decide +kernel
theorem dX1_deliver_107 : decode cX1_deliver 107 = .ok (.iload_n 2, 1) := by decide +kernel
theorem dX1_deliver_108 : decode cX1_deliver 108 = .ok (.iconst 2, 1) := by decide +kernel
theorem dX1_deliver_109 : decode cX1_deliver 109 = .ok (.iload_n 3, 1) := by decide +kernel
theorem dX1_deliver_110 : decode cX1_deliver 110 = .ok (.iconst 3, 1) := by decide +kernel
theorem dX1_deliver_111 : decode cX1_deliver 111 = .ok (.if_icmp .ne 7, 3) := by decide +kernel
theorem dX1_deliver_114 : decode cX1_deliver 114 = .ok (.iconst 2, 1) := by decide +kernel
theorem dX1_deliver_115 : decode cX1_deliver 115 = .ok (.goto 4, 3) := by decide +kernel
theorem dX1_deliver_118 : decode cX1_deliver 118 = .ok (.iload_n 3, 1) := by decide +kernel
theorem dX1_deliver_119 : decode cX1_deliver 119 = .ok (.invokevirtual 108, 3) := by decide +kernel
theorem dX1_deliver_122 : decode cX1_deliver 122 = .ok (.return_, 1) := by decide +kernel
set_option maxRecDepth 20000 in
theorem ggX1_fillBin_X2_count : GoodIn wsX1_fillBin wsX2_count := goodIn_r _ [7, 8, 58, 59, 60, 61] (by decide +kernel) (by decide +kernel)
set_option maxRecDepth 20000 in
theorem gX1_fillBin_X2_count : GoodIn wsX1_fillBin (wsV RX1 91 RX2 yX2_count wsX2_count) := goodIn_app (goodIn_of _ (by decide +kernel)) ggX1_fillBin_X2_count
set_option maxRecDepth 20000 in
theorem ggX1_fillBin_X2_get : GoodIn wsX1_fillBin wsX2_get := goodIn_r _ [12, 13, 14, 58, 59, 60, 61] (by decide +kernel) (by decide +kernel)
set_option maxRecDepth 20000 in
theorem gX1_fillBin_X2_get : GoodIn wsX1_fillBin (wsV RX1 124 RX2 yX2_get wsX2_get) := goodIn_app (goodIn_of _ (by decide +kernel)) ggX1_fillBin_X2_get
set_option maxRecDepth 20000 in
theorem ggX1_fillBin_X1_confirmOldest : GoodIn wsX1_fillBin wsX1_confirmOldest := goodIn_r _ [19, 20, 3, 4, 5, 6, 7, 8, 21, 22, 23, 18, 24, 25, 26, 27, 28, 29, 30, 31, 32, 33, 34, 35, 13, 14, 42, 43, 44, 45, 46, 47, 48, 49, 50, 51, 52, 53, 54, 55, 56, 57, 58, 59, 60, 61] (by decide +kernel) (by decide +kernel)
set_option maxRecDepth 20000 in
theorem gX1_fillBin_X1_confirmOldest : GoodIn wsX1_fillBin (wsV RX1 136 RX1 yX1_confirmOldest wsX1_confirmOldest) := goodIn_app (goodIn_of _ (by decide +kernel)) ggX1_fillBin_X1_confirmOldest
set_option maxRecDepth 20000 in
theorem ggX1_fillBin_X2_removeRowsOf : GoodIn wsX1_fillBin wsX2_removeRowsOf := goodIn_r _ [39, 8, 40, 10, 11, 6, 12, 13, 14, 41, 33, 34, 35, 58, 59, 60, 61] (by decide +kernel) (by decide +kernel)
set_option maxRecDepth 20000 in
theorem gX1_fillBin_X2_removeRowsOf : GoodIn wsX1_fillBin (wsV RX1 130 RX2 yX2_removeRowsOf wsX2_removeRowsOf) := goodIn_app (goodIn_of _ (by decide +kernel)) ggX1_fillBin_X2_removeRowsOf
theorem dX1_fillBin_0 : decode cX1_fillBin 0 = .ok (.iconst 0, 1) := by decide +kernel
theorem dX1_fillBin_1 : decode cX1_fillBin 1 = .ok (.istore_n 1, 1) := by decide +kernel
theorem dX1_fillBin_2 : decode cX1_fillBin 2 = .ok (.iload_n 1, 1) := by decide +kernel
theorem dX1_fillBin_3 : decode cX1_fillBin 3 = .ok (.aload_n 0, 1) := by decide +kernel
theorem dX1_fillBin_4 : decode cX1_fillBin 4 = .ok (.getfield 36, 3) := by decide +kernel
theorem dX1_fillBin_7 : decode cX1_fillBin 7 = .ok (.invokevirtual 91, 3) := by decide +kernel
theorem dX1_fillBin_10 : decode cX1_fillBin 10 = .ok (.if_icmp .ge 29, 3) := by decide +kernel
theorem dX1_fillBin_13 : decode cX1_fillBin 13 = .ok (.aload_n 0, 1) := by decide +kernel
theorem dX1_fillBin_14 : decode cX1_fillBin 14 = .ok (.getfield 36, 3) := by decide +kernel
theorem dX1_fillBin_17 : decode cX1_fillBin 17 = .ok (.iload_n 1, 1) := by decide +kernel
theorem dX1_fillBin_18 : decode cX1_fillBin 18 = .ok (.iconst 0, 1) := by decide +kernel
theorem dX1_fillBin_19 : decode cX1_fillBin 19 = .ok (.invokevirtual 124, 3) := by decide +kernel
theorem dX1_fillBin_22 : decode cX1_fillBin 22 = .ok (.aload_n 0, 1) := by decide +kernel
theorem dX1_fillBin_23 : decode cX1_fillBin 23 = .ok (.getfield 42, 3) := by decide +kernel
theorem dX1_fillBin_26 : decode cX1_fillBin 26 = .ok (.if_icmp .ne 7, 3) := by decide +kernel
theorem dX1_fillBin_29 : decode cX1_fillBin 29 = .ok (.aload_n 0, 1) := by decide +kernel
theorem dX1_fillBin_30 : decode cX1_fillBin 30 = .ok (.invokevirtual 136, 3) := by decide +kernel
theorem dX1_fillBin_33 : decode cX1_fillBin 33 = .ok (.iinc 1 1, 3) := by decide +kernel
theorem dX1_fillBin_36 : decode cX1_fillBin 36 = .ok (.goto (-34), 3) := by decide +kernel
theorem dX1_fillBin_39 : decode cX1_fillBin 39 = .ok (.aload_n 0, 1) := by decide +kernel
theorem dX1_fillBin_40 : decode cX1_fillBin 40 = .ok (.getfield 36, 3) := by decide +kernel
theorem dX1_fillBin_43 : decode cX1_fillBin 43 = .ok (.aload_n 0, 1) := by decide +kernel
theorem dX1_fillBin_44 : decode cX1_fillBin 44 = .ok (.getfield 42, 3) := by decide +kernel
theorem dX1_fillBin_47 : decode cX1_fillBin 47 = .ok (.invokevirtual 130, 3) := by decide +kernel
theorem dX1_fillBin_50 : decode cX1_fillBin 50 = .ok (.return_, 1) := by decide +kernel
set_option maxRecDepth 20000 in
theorem ggX1_confirmOldest_X2_count : GoodIn wsX1_confirmOldest wsX2_count := goodIn_r _ [6, 7, 42, 43, 44, 45] (by decide +kernel) (by decide +kernel)
set_option maxRecDepth 20000 in
theorem gX1_confirmOldest_X2_count : GoodIn wsX1_confirmOldest (wsV RX1 91 RX2 yX2_count wsX2_count) := goodIn_app (goodIn_of _ (by decide +kernel)) ggX1_confirmOldest_X2_count
set_option maxRecDepth 20000 in
theorem ggX1_confirmOldest_X1_raise : GoodIn wsX1_confirmOldest wsX1_raise := goodIn_r _ [12, 13, 14, 15, 16, 17, 11, 18, 19, 26, 27, 28, 29, 30, 31, 32, 33, 34, 35, 36, 37, 38, 39, 40, 41] (by decide +kernel) (by decide +kernel)
set_option maxRecDepth 20000 in
theorem gX1_confirmOldest_X1_raise : GoodIn wsX1_confirmOldest (wsV RX1 139 RX1 yX1_raise wsX1_raise) := goodIn_app (goodIn_of _ (by decide +kernel)) ggX1_confirmOldest_X1_raise
set_option maxRecDepth 20000 in
theorem ggX1_confirmOldest_X2_removeRow : GoodIn wsX1_confirmOldest wsX2_removeRow := goodIn_r _ [23, 7, 24, 25, 42, 43, 44, 45] (by decide +kernel) (by decide +kernel)
set_option maxRecDepth 20000 in
theorem gX1_confirmOldest_X2_removeRow : GoodIn wsX1_confirmOldest (wsV RX1 142 RX2 yX2_removeRow wsX2_removeRow) := goodIn_app (goodIn_of _ (by decide +kernel)) ggX1_confirmOldest_X2_removeRow
set_option maxRecDepth 20000 in
theorem ggX1_confirmOldest_X1_count : GoodIn wsX1_confirmOldest wsX1_count := goodIn_r _ [18, 19, 26, 27, 28, 29, 30, 31, 32, 33, 34, 35, 36, 37, 38, 39, 40, 41] (by decide +kernel) (by decide +kernel)
set_option maxRecDepth 20000 in
theorem gX1_confirmOldest_X1_count : GoodIn wsX1_confirmOldest (wsV RX1 102 RX1 yX1_count wsX1_count) := goodIn_app (goodIn_of _ (by decide +kernel)) ggX1_confirmOldest_X1_count
theorem dX1_confirmOldest_0 : decode cX1_confirmOldest 0 = .ok (.aload_n 0, 1) := by decide +kernel
theorem dX1_confirmOldest_1 : decode cX1_confirmOldest 1 = .ok (.getfield 39, 3) := by decide +kernel
theorem dX1_confirmOldest_4 : decode cX1_confirmOldest 4 = .ok (.invokevirtual 91, 3) := by decide +kernel
theorem dX1_confirmOldest_7 : decode cX1_confirmOldest 7 = .ok (.ifCond .ne 9, 3) := by decide +kernel
theorem dX1_confirmOldest_10 : decode cX1_confirmOldest 10 = .ok (.aload_n 0, 1) := by decide +kernel
theorem dX1_confirmOldest_11 : decode cX1_confirmOldest 11 = .ok (.iconst 3, 1) := by decide +kernel
theorem dX1_confirmOldest_12 : decode cX1_confirmOldest 12 = .ok (.invokevirtual 139, 3) := by decide +kernel
theorem dX1_confirmOldest_15 : decode cX1_confirmOldest 15 = .ok (.return_, 1) := by decide +kernel
theorem dX1_confirmOldest_16 : decode cX1_confirmOldest 16 = .ok (.aload_n 0, 1) := by decide +kernel
theorem dX1_confirmOldest_17 : decode cX1_confirmOldest 17 = .ok (.getfield 39, 3) := by decide +kernel
theorem dX1_confirmOldest_20 : decode cX1_confirmOldest 20 = .ok (.iconst 0, 1) := by decide +kernel
theorem dX1_confirmOldest_21 : decode cX1_confirmOldest 21 = .ok (.invokevirtual 142, 3) := by decide +kernel
theorem dX1_confirmOldest_24 : decode cX1_confirmOldest 24 = .ok (.aload_n 0, 1) := by decide +kernel
theorem dX1_confirmOldest_25 : decode cX1_confirmOldest 25 = .ok (.bipush 6, 2) := by decide +kernel
theorem dX1_confirmOldest_27 : decode cX1_confirmOldest 27 = .ok (.invokevirtual 102, 3) := by decide +kernel
theorem dX1_confirmOldest_30 : decode cX1_confirmOldest 30 = .ok (.return_, 1) := by decide +kernel
set_option maxRecDepth 20000 in
theorem ggX1_closeOverdueExpectations_X2_count : GoodIn wsX1_closeOverdueExpectations wsX2_count := goodIn_r _ [7, 8, 47, 48, 49, 50] (by decide +kernel) (by decide +kernel)
set_option maxRecDepth 20000 in
theorem gX1_closeOverdueExpectations_X2_count : GoodIn wsX1_closeOverdueExpectations (wsV RX1 91 RX2 yX2_count wsX2_count) := goodIn_app (goodIn_of _ (by decide +kernel)) ggX1_closeOverdueExpectations_X2_count
set_option maxRecDepth 20000 in
theorem ggX1_closeOverdueExpectations_X2_get : GoodIn wsX1_closeOverdueExpectations wsX2_get := goodIn_r _ [12, 13, 14, 47, 48, 49, 50] (by decide +kernel) (by decide +kernel)
set_option maxRecDepth 20000 in
theorem gX1_closeOverdueExpectations_X2_get : GoodIn wsX1_closeOverdueExpectations (wsV RX1 124 RX2 yX2_get wsX2_get) := goodIn_app (goodIn_of _ (by decide +kernel)) ggX1_closeOverdueExpectations_X2_get
set_option maxRecDepth 20000 in
theorem ggX1_closeOverdueExpectations_X2_removeRow : GoodIn wsX1_closeOverdueExpectations wsX2_removeRow := goodIn_r _ [18, 8, 13, 14, 47, 48, 49, 50] (by decide +kernel) (by decide +kernel)
set_option maxRecDepth 20000 in
theorem gX1_closeOverdueExpectations_X2_removeRow : GoodIn wsX1_closeOverdueExpectations (wsV RX1 142 RX2 yX2_removeRow wsX2_removeRow) := goodIn_app (goodIn_of _ (by decide +kernel)) ggX1_closeOverdueExpectations_X2_removeRow
set_option maxRecDepth 20000 in
theorem ggX1_closeOverdueExpectations_X1_raise : GoodIn wsX1_closeOverdueExpectations wsX1_raise := goodIn_r _ [23, 24, 25, 26, 27, 28, 22, 29, 30, 31, 32, 33, 34, 35, 36, 37, 38, 39, 40, 41, 42, 43, 44, 45, 46] (by decide +kernel) (by decide +kernel)
set_option maxRecDepth 20000 in
theorem gX1_closeOverdueExpectations_X1_raise : GoodIn wsX1_closeOverdueExpectations (wsV RX1 139 RX1 yX1_raise wsX1_raise) := goodIn_app (goodIn_of _ (by decide +kernel)) ggX1_closeOverdueExpectations_X1_raise
theorem dX1_closeOverdueExpectations_0 : decode cX1_closeOverdueExpectations 0 = .ok (.aload_n 0, 1) := by decide +kernel
theorem dX1_closeOverdueExpectations_1 : decode cX1_closeOverdueExpectations 1 = .ok (.getfield 39, 3) := by decide +kernel
theorem dX1_closeOverdueExpectations_4 : decode cX1_closeOverdueExpectations 4 = .ok (.invokevirtual 91, 3) := by decide +kernel
theorem dX1_closeOverdueExpectations_7 : decode cX1_closeOverdueExpectations 7 = .ok (.iconst 1, 1) := by decide +kernel
theorem dX1_closeOverdueExpectations_8 : decode cX1_closeOverdueExpectations 8 = .ok (.isub, 1) := by decide +kernel
theorem dX1_closeOverdueExpectations_9 : decode cX1_closeOverdueExpectations 9 = .ok (.istore_n 1, 1) := by decide +kernel
theorem dX1_closeOverdueExpectations_10 : decode cX1_closeOverdueExpectations 10 = .ok (.iload_n 1, 1) := by decide +kernel
theorem dX1_closeOverdueExpectations_11 : decode cX1_closeOverdueExpectations 11 = .ok (.ifCond .lt 38, 3) := by decide +kernel
theorem dX1_closeOverdueExpectations_14 : decode cX1_closeOverdueExpectations 14 = .ok (.aload_n 0, 1) := by decide +kernel
theorem dX1_closeOverdueExpectations_15 : decode cX1_closeOverdueExpectations 15 = .ok (.getfield 39, 3) := by decide +kernel
theorem dX1_closeOverdueExpectations_18 : decode cX1_closeOverdueExpectations 18 = .ok (.iload_n 1, 1) := by decide +kernel
theorem dX1_closeOverdueExpectations_19 : decode cX1_closeOverdueExpectations 19 = .ok (.iconst 0, 1) := by decide +kernel
theorem dX1_closeOverdueExpectations_20 : decode cX1_closeOverdueExpectations 20 = .ok (.invokevirtual 124, 3) := by decide +kernel
theorem dX1_closeOverdueExpectations_23 : decode cX1_closeOverdueExpectations 23 = .ok (.aload_n 0, 1) := by decide +kernel
theorem dX1_closeOverdueExpectations_24 : decode cX1_closeOverdueExpectations 24 = .ok (.getfield 42, 3) := by decide +kernel
theorem dX1_closeOverdueExpectations_27 : decode cX1_closeOverdueExpectations 27 = .ok (.if_icmp .ge 16, 3) := by decide +kernel
theorem dX1_closeOverdueExpectations_30 : decode cX1_closeOverdueExpectations 30 = .ok (.aload_n 0, 1) := by decide +kernel
theorem dX1_closeOverdueExpectations_31 : decode cX1_closeOverdueExpectations 31 = .ok (.getfield 39, 3) := by decide +kernel
theorem dX1_closeOverdueExpectations_34 : decode cX1_closeOverdueExpectations 34 = .ok (.iload_n 1, 1) := by decide +kernel
theorem dX1_closeOverdueExpectations_35 : decode cX1_closeOverdueExpectations 35 = .ok (.invokevirtual 142, 3) := by decide +kernel
theorem dX1_closeOverdueExpectations_38 : decode cX1_closeOverdueExpectations 38 = .ok (.aload_n 0, 1) := by decide +kernel
theorem dX1_closeOverdueExpectations_39 : decode cX1_closeOverdueExpectations 39 = .ok (.iconst 2, 1) := by decide +kernel
theorem dX1_closeOverdueExpectations_40 : decode cX1_closeOverdueExpectations 40 = .ok (.invokevirtual 139, 3) := by decide +kernel
theorem dX1_closeOverdueExpectations_43 : decode cX1_closeOverdueExpectations 43 = .ok (.iinc 1 (-1), 3) := by decide +kernel
theorem dX1_closeOverdueExpectations_46 : decode cX1_closeOverdueExpectations 46 = .ok (.goto (-36), 3) := by decide +kernel
theorem dX1_closeOverdueExpectations_49 : decode cX1_closeOverdueExpectations 49 = .ok (.return_, 1) := by decide +kernel
set_option maxRecDepth 20000 in
theorem ggX1_pulse_X2_increase : GoodIn wsX1_pulse wsX2_increase := goodIn_r _ [7, 8, 9, 10, 11, 6, 12, 13, 14, 15, 16, 17, 18, 137, 138, 139, 140] (by decide +kernel) (by decide +kernel)
set_option maxRecDepth 20000 in
theorem gX1_pulse_X2_increase : GoodIn wsX1_pulse (wsV RX1 145 RX2 yX2_increase wsX2_increase) := goodIn_app (goodIn_of _ (by decide +kernel)) ggX1_pulse_X2_increase
set_option maxRecDepth 20000 in
theorem ggX1_pulse_X2_count : GoodIn wsX1_pulse wsX2_count := goodIn_r _ [22, 8, 137, 138, 139, 140] (by decide +kernel) (by decide +kernel)
set_option maxRecDepth 20000 in
theorem gX1_pulse_X2_count : GoodIn wsX1_pulse (wsV RX1 91 RX2 yX2_count wsX2_count) := goodIn_app (goodIn_of _ (by decide +kernel)) ggX1_pulse_X2_count
set_option maxRecDepth 20000 in
theorem ggX1_pulse_X1_staysInRegister : GoodIn wsX1_pulse wsX1_staysInRegister := goodIn_r _ [27, 2, 28, 10, 11, 6, 12, 13, 14, 29, 30, 31, 26, 32, 33, 34, 35, 36, 37, 38, 1, 39, 40, 41, 42, 43, 44, 16, 17, 18, 45, 46, 47, 48, 49, 50, 51, 52, 53, 54, 55, 56, 19, 20, 21, 22, 8, 57, 58, 59, 60, 61, 62, 63, 64, 65, 66, 67, 68, 69, 70, 71, 72, 15, 73, 74, 75, 76, 77, 78, 79, 80, 81, 82, 83, 84, 85, 86, 87, 88, 89, 90, 91, 92, 93, 94, 95, 96, 97, 98, 99, 100, 101, 102, 103, 104, 105, 106, 107, 108, 109, 110, 111, 112, 121, 122, 123, 124, 125, 126, 127, 128, 129, 130, 131, 132, 133, 134, 135, 136, 137, 138, 139, 140] (by decide +kernel) (by decide +kernel)
set_option maxRecDepth 20000 in
theorem gX1_pulse_X1_staysInRegister : GoodIn wsX1_pulse (wsV RX1 148 RX1 yX1_staysInRegister wsX1_staysInRegister) := goodIn_app (goodIn_of _ (by decide +kernel)) ggX1_pulse_X1_staysInRegister
set_option maxRecDepth 20000 in
theorem ggX1_pulse_X2_get : GoodIn wsX1_pulse wsX2_get := goodIn_r _ [12, 13, 14, 137, 138, 139, 140] (by decide +kernel) (by decide +kernel)
set_option maxRecDepth 20000 in
theorem gX1_pulse_X2_get : GoodIn wsX1_pulse (wsV RX1 124 RX2 yX2_get wsX2_get) := goodIn_app (goodIn_of _ (by decide +kernel)) ggX1_pulse_X2_get
set_option maxRecDepth 20000 in
theorem ggX1_pulse_X1_place : GoodIn wsX1_pulse wsX1_place := goodIn_r _ [32, 33, 121, 122, 123, 124, 125, 126, 127, 128, 129, 130, 131, 132, 133, 134, 135, 136] (by decide +kernel) (by decide +kernel)
set_option maxRecDepth 20000 in
theorem gX1_pulse_X1_place : GoodIn wsX1_pulse (wsV RX1 88 RX1 yX1_place wsX1_place) := goodIn_app (goodIn_of _ (by decide +kernel)) ggX1_pulse_X1_place
set_option maxRecDepth 20000 in
theorem ggX1_pulse_X1_leaveBelt : GoodIn wsX1_pulse wsX1_leaveBelt := goodIn_r _ [116, 1, 2, 99, 100, 101, 6, 102, 8, 13, 14, 57, 58, 59, 26, 60, 61, 117, 118, 119, 120, 53, 54, 55, 56, 29, 30, 31, 32, 33, 39, 40, 41, 42, 43, 19, 20, 21, 22, 28, 10, 11, 12, 103, 104, 105, 106, 107, 108, 44, 16, 17, 18, 121, 122, 123, 124, 125, 126, 127, 128, 129, 130, 131, 132, 133, 134, 135, 136, 137, 138, 139, 140] (by decide +kernel) (by decide +kernel)
set_option maxRecDepth 20000 in
theorem gX1_pulse_X1_leaveBelt : GoodIn wsX1_pulse (wsV RX1 152 RX1 yX1_leaveBelt wsX1_leaveBelt) := goodIn_app (goodIn_of _ (by decide +kernel)) ggX1_pulse_X1_leaveBelt
theorem dX1_pulse_0 : decode cX1_pulse 0 = .ok (.aload_n 0, 1) := by decide +kernel
theorem dX1_pulse_1 : decode cX1_pulse 1 = .ok (.getfield 26, 3) := by decide +kernel
theorem dX1_pulse_4 : decode cX1_pulse 4 = .ok (.iconst 1, 1) := by decide +kernel
theorem dX1_pulse_5 : decode cX1_pulse 5 = .ok (.invokevirtual 145, 3) := by decide +kernel
theorem dX1_pulse_8 : decode cX1_pulse 8 = .ok (.aload_n 0, 1) := by decide +kernel
theorem dX1_pulse_9 : decode cX1_pulse 9 = .ok (.getfield 30, 3) := by decide +kernel
theorem dX1_pulse_12 : decode cX1_pulse 12 = .ok (.iconst 1, 1) := by decide +kernel
theorem dX1_pulse_13 : decode cX1_pulse 13 = .ok (.invokevirtual 145, 3) := by decide +kernel
theorem dX1_pulse_16 : decode cX1_pulse 16 = .ok (.iconst 0, 1) := by decide +kernel
theorem dX1_pulse_17 : decode cX1_pulse 17 = .ok (.istore_n 1, 1) := by decide +kernel
theorem dX1_pulse_18 : decode cX1_pulse 18 = .ok (.aload_n 0, 1) := by decide +kernel
theorem dX1_pulse_19 : decode cX1_pulse 19 = .ok (.getfield 30, 3) := by decide +kernel
theorem dX1_pulse_22 : decode cX1_pulse 22 = .ok (.invokevirtual 91, 3) := by decide +kernel
theorem dX1_pulse_25 : decode cX1_pulse 25 = .ok (.istore_n 2, 1) := by decide +kernel
theorem dX1_pulse_26 : decode cX1_pulse 26 = .ok (.iload_n 2, 1) := by decide +kernel
theorem dX1_pulse_27 : decode cX1_pulse 27 = .ok (.ifCond .le 20, 3) := by decide +kernel
theorem dX1_pulse_30 : decode cX1_pulse 30 = .ok (.aload_n 0, 1) := by decide +kernel
theorem dX1_pulse_31 : decode cX1_pulse 31 = .ok (.iload_n 1, 1) := by decide +kernel
theorem dX1_pulse_32 : decode cX1_pulse 32 = .ok (.invokevirtual 148, 3) := by decide +kernel
theorem dX1_pulse_35 : decode cX1_pulse 35 = .ok (.ifCond .eq 6, 3) := by decide +kernel
theorem dX1_pulse_38 : decode cX1_pulse 38 = .ok (.iinc 1 1, 3) := by decide +kernel
theorem dX1_pulse_41 : decode cX1_pulse 41 = .ok (.iinc 2 (-1), 3) := by decide +kernel
theorem dX1_pulse_44 : decode cX1_pulse 44 = .ok (.goto (-18), 3) := by decide +kernel
theorem dX1_pulse_47 : decode cX1_pulse 47 = .ok (.iconst 0, 1) := by decide +kernel
theorem dX1_pulse_48 : decode cX1_pulse 48 = .ok (.istore_n 2, 1) := by decide +kernel
theorem dX1_pulse_49 : decode cX1_pulse 49 = .ok (.aload_n 0, 1) := by decide +kernel
theorem dX1_pulse_50 : decode cX1_pulse 50 = .ok (.getfield 26, 3) := by decide +kernel
theorem dX1_pulse_53 : decode cX1_pulse 53 = .ok (.invokevirtual 91, 3) := by decide +kernel
theorem dX1_pulse_56 : decode cX1_pulse 56 = .ok (.istore_n 3, 1) := by decide +kernel
theorem dX1_pulse_57 : decode cX1_pulse 57 = .ok (.iload_n 3, 1) := by decide +kernel
theorem dX1_pulse_58 : decode cX1_pulse 58 = .ok (.ifCond .le 37, 3) := by decide +kernel
theorem dX1_pulse_61 : decode cX1_pulse 61 = .ok (.aload_n 0, 1) := by decide +kernel
theorem dX1_pulse_62 : decode cX1_pulse 62 = .ok (.getfield 26, 3) := by decide +kernel
theorem dX1_pulse_65 : decode cX1_pulse 65 = .ok (.iload_n 2, 1) := by decide +kernel
theorem dX1_pulse_66 : decode cX1_pulse 66 = .ok (.iconst 1, 1) := by decide +kernel
theorem dX1_pulse_67 : decode cX1_pulse 67 = .ok (.invokevirtual 124, 3) := by decide +kernel
theorem dX1_pulse_70 : decode cX1_pulse 70 = .ok (.aload_n 0, 1) := by decide +kernel
theorem dX1_pulse_71 : decode cX1_pulse 71 = .ok (.iconst 4, 1) := by decide +kernel
theorem dX1_pulse_72 : decode cX1_pulse 72 = .ok (.invokevirtual 88, 3) := by decide +kernel
theorem dX1_pulse_75 : decode cX1_pulse 75 = .ok (.if_icmp .ne 11, 3) := by decide +kernel
theorem dX1_pulse_78 : decode cX1_pulse 78 = .ok (.aload_n 0, 1) := by decide +kernel
theorem dX1_pulse_79 : decode cX1_pulse 79 = .ok (.iload_n 2, 1) := by decide +kernel
theorem dX1_pulse_80 : decode cX1_pulse 80 = .ok (.invokevirtual 152, 3) := by decide +kernel
theorem dX1_pulse_83 : decode cX1_pulse 83 = .ok (.goto 6, 3) := by decide +kernel
theorem dX1_pulse_86 : decode cX1_pulse 86 = .ok (.iinc 2 1, 3) := by decide +kernel
theorem dX1_pulse_89 : decode cX1_pulse 89 = .ok (.iinc 3 (-1), 3) := by decide +kernel
theorem dX1_pulse_92 : decode cX1_pulse 92 = .ok (.goto (-35), 3) := by decide +kernel
theorem dX1_pulse_95 : decode cX1_pulse 95 = .ok (.return_, 1) := by decide +kernel
set_option maxRecDepth 20000 in
theorem ggX1_staysInRegister_X2_get : GoodIn wsX1_staysInRegister wsX2_get := goodIn_r _ [6, 7, 8, 120, 121, 122, 123] (by decide +kernel) (by decide +kernel)
set_option maxRecDepth 20000 in
theorem gX1_staysInRegister_X2_get : GoodIn wsX1_staysInRegister (wsV RX1 124 RX2 yX2_get wsX2_get) := goodIn_app (goodIn_of _ (by decide +kernel)) ggX1_staysInRegister_X2_get
set_option maxRecDepth 20000 in
theorem ggX1_staysInRegister_X1_place : GoodIn wsX1_staysInRegister wsX1_place := goodIn_r _ [13, 14, 104, 105, 106, 107, 108, 109, 110, 111, 112, 113, 114, 115, 116, 117, 118, 119] (by decide +kernel) (by decide +kernel)
set_option maxRecDepth 20000 in
theorem gX1_staysInRegister_X1_place : GoodIn wsX1_staysInRegister (wsV RX1 88 RX1 yX1_place wsX1_place) := goodIn_app (goodIn_of _ (by decide +kernel)) ggX1_staysInRegister_X1_place
set_option maxRecDepth 20000 in
theorem ggX1_staysInRegister_X1_labelerActs : GoodIn wsX1_staysInRegister wsX1_labelerActs := goodIn_r _ [18, 19, 1, 20, 21, 22, 23, 12, 24, 25, 26, 27, 28, 5, 29, 7, 8, 30, 31, 32, 33, 34, 35, 36, 37, 38, 39, 40, 41, 9, 10, 11, 13, 14, 42, 43, 44, 45, 46, 2, 3, 4, 6, 47, 48, 49, 50, 51, 104, 105, 106, 107, 108, 109, 110, 111, 112, 113, 114, 115, 116, 117, 118, 119, 120, 121, 122, 123] (by decide +kernel) (by decide +kernel)
set_option maxRecDepth 20000 in
theorem gX1_staysInRegister_X1_labelerActs : GoodIn wsX1_staysInRegister (wsV RX1 155 RX1 yX1_labelerActs wsX1_labelerActs) := goodIn_app (goodIn_of _ (by decide +kernel)) ggX1_staysInRegister_X1_labelerActs
set_option maxRecDepth 20000 in
theorem ggX1_staysInRegister_X1_cameraActs : GoodIn wsX1_staysInRegister wsX1_cameraActs := goodIn_r _ [55, 56, 57, 1, 21, 22, 23, 12, 24, 25, 58, 59, 60, 5, 61, 46, 62, 7, 63, 27, 28, 29, 8, 2, 3, 4, 6, 26, 34, 35, 36, 37, 20, 38, 39, 40, 41, 9, 10, 11, 13, 14, 42, 43, 44, 45, 64, 65, 66, 67, 104, 105, 106, 107, 108, 109, 110, 111, 112, 113, 114, 115, 116, 117, 118, 119, 120, 121, 122, 123] (by decide +kernel) (by decide +kernel)
set_option maxRecDepth 20000 in
theorem gX1_staysInRegister_X1_cameraActs : GoodIn wsX1_staysInRegister (wsV RX1 158 RX1 yX1_cameraActs wsX1_cameraActs) := goodIn_app (goodIn_of _ (by decide +kernel)) ggX1_staysInRegister_X1_cameraActs
set_option maxRecDepth 20000 in
theorem ggX1_staysInRegister_X1_mayPass : GoodIn wsX1_staysInRegister wsX1_mayPass := goodIn_r _ [71, 1, 2, 3, 4, 5, 6, 7, 8, 104, 105, 106, 107, 108, 109, 110, 111, 112, 113, 114, 115, 116, 117, 118, 119, 120, 121, 122, 123] (by decide +kernel) (by decide +kernel)
set_option maxRecDepth 20000 in
theorem gX1_staysInRegister_X1_mayPass : GoodIn wsX1_staysInRegister (wsV RX1 162 RX1 yX1_mayPass wsX1_mayPass) := goodIn_app (goodIn_of _ (by decide +kernel)) ggX1_staysInRegister_X1_mayPass
set_option maxRecDepth 20000 in
theorem ggX1_staysInRegister_X1_reject : GoodIn wsX1_staysInRegister wsX1_reject := goodIn_r _ [75, 20, 76, 57, 77, 78, 79, 80, 81, 82, 12, 83, 1, 2, 3, 4, 5, 6, 7, 8, 47, 48, 49, 50, 51, 84, 85, 86, 87, 88, 89, 90, 91, 92, 93, 46, 34, 35, 36, 37, 38, 39, 40, 41, 9, 10, 11, 13, 14, 21, 22, 23, 24, 25, 42, 43, 44, 45, 58, 59, 60, 61, 62, 63, 27, 28, 29, 94, 95, 96, 97, 98, 99, 104, 105, 106, 107, 108, 109, 110, 111, 112, 113, 114, 115, 116, 117, 118, 119, 120, 121, 122, 123] (by decide +kernel) (by decide +kernel)
set_option maxRecDepth 20000 in
theorem gX1_staysInRegister_X1_reject : GoodIn wsX1_staysInRegister (wsV RX1 165 RX1 yX1_reject wsX1_reject) := goodIn_app (goodIn_of _ (by decide +kernel)) ggX1_staysInRegister_X1_reject
set_option maxRecDepth 20000 in
theorem ggX1_staysInRegister_X1_pass : GoodIn wsX1_staysInRegister wsX1_pass := goodIn_r _ [103, 1, 79, 26, 27, 28, 5, 29, 7, 8, 104, 105, 106, 107, 108, 109, 110, 111, 112, 113, 114, 115, 116, 117, 118, 119, 120, 121, 122, 123] (by decide +kernel) (by decide +kernel)
set_option maxRecDepth 20000 in
theorem gX1_staysInRegister_X1_pass : GoodIn wsX1_staysInRegister (wsV RX1 168 RX1 yX1_pass wsX1_pass) := goodIn_app (goodIn_of _ (by decide +kernel)) ggX1_staysInRegister_X1_pass
set_option maxRecDepth 20000 in
theorem ggX1_staysInRegister_X1_setting : GoodIn wsX1_staysInRegister wsX1_setting := goodIn_r _ [24, 25, 104, 105, 106, 107, 108, 109, 110, 111, 112, 113, 114, 115, 116, 117, 118, 119] (by decide +kernel) (by decide +kernel)
set_option maxRecDepth 20000 in
theorem gX1_staysInRegister_X1_setting : GoodIn wsX1_staysInRegister (wsV RX1 84 RX1 yX1_setting wsX1_setting) := goodIn_app (goodIn_of _ (by decide +kernel)) ggX1_staysInRegister_X1_setting
set_option maxRecDepth 20000 in
theorem ggX1_staysInRegister_X1_leaveRegister : GoodIn wsX1_staysInRegister wsX1_leaveRegister := goodIn_r _ [87, 1, 88, 89, 2, 3, 4, 5, 6, 7, 8, 47, 48, 49, 12, 50, 51, 90, 91, 92, 93, 46, 104, 105, 106, 107, 108, 109, 110, 111, 112, 113, 114, 115, 116, 117, 118, 119, 120, 121, 122, 123] (by decide +kernel) (by decide +kernel)
set_option maxRecDepth 20000 in
theorem gX1_staysInRegister_X1_leaveRegister : GoodIn wsX1_staysInRegister (wsV RX1 171 RX1 yX1_leaveRegister wsX1_leaveRegister) := goodIn_app (goodIn_of _ (by decide +kernel)) ggX1_staysInRegister_X1_leaveRegister
theorem dX1_staysInRegister_0 : decode cX1_staysInRegister 0 = .ok (.aload_n 0, 1) := by decide +kernel
theorem dX1_staysInRegister_1 : decode cX1_staysInRegister 1 = .ok (.getfield 30, 3) := by decide +kernel
theorem dX1_staysInRegister_4 : decode cX1_staysInRegister 4 = .ok (.iload_n 1, 1) := by decide +kernel
theorem dX1_staysInRegister_5 : decode cX1_staysInRegister 5 = .ok (.iconst 1, 1) := by decide +kernel
theorem dX1_staysInRegister_6 : decode cX1_staysInRegister 6 = .ok (.invokevirtual 124, 3) := by decide +kernel
theorem dX1_staysInRegister_9 : decode cX1_staysInRegister 9 = .ok (.istore_n 2, 1) := by decide +kernel
theorem dX1_staysInRegister_10 : decode cX1_staysInRegister 10 = .ok (.iload_n 2, 1) := by decide +kernel
theorem dX1_staysInRegister_11 : decode cX1_staysInRegister 11 = .ok (.aload_n 0, 1) := by decide +kernel
theorem dX1_staysInRegister_12 : decode cX1_staysInRegister 12 = .ok (.iconst 0, 1) := by decide +kernel
theorem dX1_staysInRegister_13 : decode cX1_staysInRegister 13 = .ok (.invokevirtual 88, 3) := by decide +kernel
theorem dX1_staysInRegister_16 : decode cX1_staysInRegister 16 = .ok (.if_icmp .ne 11, 3) := by decide +kernel
theorem dX1_staysInRegister_19 : decode cX1_staysInRegister 19 = .ok (.aload_n 0, 1) := by decide +kernel
theorem dX1_staysInRegister_20 : decode cX1_staysInRegister 20 = .ok (.iload_n 1, 1) := by decide +kernel
theorem dX1_staysInRegister_21 : decode cX1_staysInRegister 21 = .ok (.invokevirtual 155, 3) := by decide +kernel
theorem dX1_staysInRegister_24 : decode cX1_staysInRegister 24 = .ok (.goto 124, 3) := by decide +kernel
theorem dX1_staysInRegister_27 : decode cX1_staysInRegister 27 = .ok (.iload_n 2, 1) := by decide +kernel
theorem dX1_staysInRegister_28 : decode cX1_staysInRegister 28 = .ok (.aload_n 0, 1) := by decide +kernel
theorem dX1_staysInRegister_29 : decode cX1_staysInRegister 29 = .ok (.iconst 1, 1) := by decide +kernel
theorem dX1_staysInRegister_30 : decode cX1_staysInRegister 30 = .ok (.invokevirtual 88, 3) := by decide +kernel
theorem dX1_staysInRegister_33 : decode cX1_staysInRegister 33 = .ok (.if_icmp .ne 12, 3) := by decide +kernel
theorem dX1_staysInRegister_36 : decode cX1_staysInRegister 36 = .ok (.aload_n 0, 1) := by decide +kernel
theorem dX1_staysInRegister_37 : decode cX1_staysInRegister 37 = .ok (.iload_n 1, 1) := by decide +kernel
theorem dX1_staysInRegister_38 : decode cX1_staysInRegister 38 = .ok (.iconst 0, 1) := by decide +kernel
theorem dX1_staysInRegister_39 : decode cX1_staysInRegister 39 = .ok (.invokevirtual 158, 3) := by decide +kernel
theorem dX1_staysInRegister_42 : decode cX1_staysInRegister 42 = .ok (.goto 106, 3) := by decide +kernel
theorem dX1_staysInRegister_45 : decode cX1_staysInRegister 45 = .ok (.iload_n 2, 1) := by decide +kernel
theorem dX1_staysInRegister_46 : decode cX1_staysInRegister 46 = .ok (.aload_n 0, 1) := by decide +kernel
theorem dX1_staysInRegister_47 : decode cX1_staysInRegister 47 = .ok (.iconst 2, 1) := by decide +kernel
theorem dX1_staysInRegister_48 : decode cX1_staysInRegister 48 = .ok (.invokevirtual 88, 3) := by decide +kernel
theorem dX1_staysInRegister_51 : decode cX1_staysInRegister 51 = .ok (.if_icmp .ne 25, 3) := by decide +kernel
theorem dX1_staysInRegister_54 : decode cX1_staysInRegister 54 = .ok (.aload_n 0, 1) := by decide +kernel
theorem dX1_staysInRegister_55 : decode cX1_staysInRegister 55 = .ok (.getfield 30, 3) := by decide +kernel
theorem dX1_staysInRegister_58 : decode cX1_staysInRegister 58 = .ok (.iload_n 1, 1) := by decide +kernel
theorem dX1_staysInRegister_59 : decode cX1_staysInRegister 59 = .ok (.iconst 2, 1) := by decide +kernel
theorem dX1_staysInRegister_60 : decode cX1_staysInRegister 60 = .ok (.invokevirtual 124, 3) := by decide +kernel
theorem dX1_staysInRegister_63 : decode cX1_staysInRegister 63 = .ok (.iconst 3, 1) := by decide +kernel
theorem dX1_staysInRegister_64 : decode cX1_staysInRegister 64 = .ok (.if_icmp .ne 84, 3) := by decide +kernel
theorem dX1_staysInRegister_67 : decode cX1_staysInRegister 67 = .ok (.aload_n 0, 1) := by decide +kernel
theorem dX1_staysInRegister_68 : decode cX1_staysInRegister 68 = .ok (.iload_n 1, 1) := by decide +kernel
theorem dX1_staysInRegister_69 : decode cX1_staysInRegister 69 = .ok (.iconst 1, 1) := by decide +kernel
theorem dX1_staysInRegister_70 : decode cX1_staysInRegister 70 = .ok (.invokevirtual 158, 3) := by decide +kernel
theorem dX1_staysInRegister_73 : decode cX1_staysInRegister 73 = .ok (.goto 75, 3) := by decide +kernel
theorem dX1_staysInRegister_76 : decode cX1_staysInRegister 76 = .ok (.iload_n 2, 1) := by decide +kernel
theorem dX1_staysInRegister_77 : decode cX1_staysInRegister 77 = .ok (.aload_n 0, 1) := by decide +kernel
theorem dX1_staysInRegister_78 : decode cX1_staysInRegister 78 = .ok (.iconst 3, 1) := by decide +kernel
theorem dX1_staysInRegister_79 : decode cX1_staysInRegister 79 = .ok (.invokevirtual 88, 3) := by decide +kernel
theorem dX1_staysInRegister_82 : decode cX1_staysInRegister 82 = .ok (.if_icmp .ne 26, 3) := by decide +kernel
theorem dX1_staysInRegister_85 : decode cX1_staysInRegister 85 = .ok (.aload_n 0, 1) := by decide +kernel
theorem dX1_staysInRegister_86 : decode cX1_staysInRegister 86 = .ok (.iload_n 1, 1) := by decide +kernel
theorem dX1_staysInRegister_87 : decode cX1_staysInRegister 87 = .ok (.invokevirtual 162, 3) := by decide +kernel
theorem dX1_staysInRegister_90 : decode cX1_staysInRegister 90 = .ok (.ifCond .ne 10, 3) := by decide +kernel
theorem dX1_staysInRegister_93 : decode cX1_staysInRegister 93 = .ok (.aload_n 0, 1) := by decide +kernel
theorem dX1_staysInRegister_94 : decode cX1_staysInRegister 94 = .ok (.iload_n 1, 1) := by decide +kernel
theorem dX1_staysInRegister_95 : decode cX1_staysInRegister 95 = .ok (.invokevirtual 165, 3) := by decide +kernel
theorem dX1_staysInRegister_98 : decode cX1_staysInRegister 98 = .ok (.iconst 0, 1) := by decide +kernel
theorem dX1_staysInRegister_99 : decode cX1_staysInRegister 99 = .ok (.ireturn, 1) := by decide +kernel
theorem dX1_staysInRegister_100 : decode cX1_staysInRegister 100 = .ok (.aload_n 0, 1) := by decide +kernel
theorem dX1_staysInRegister_101 : decode cX1_staysInRegister 101 = .ok (.iload_n 1, 1) := by decide +kernel
theorem dX1_staysInRegister_102 : decode cX1_staysInRegister 102 = .ok (.invokevirtual 168, 3) := by decide +kernel
theorem dX1_staysInRegister_105 : decode cX1_staysInRegister 105 = .ok (.goto 43, 3) := by decide +kernel
theorem dX1_staysInRegister_108 : decode cX1_staysInRegister 108 = .ok (.iload_n 2, 1) := by decide +kernel
theorem dX1_staysInRegister_109 : decode cX1_staysInRegister 109 = .ok (.aload_n 0, 1) := by decide +kernel
theorem dX1_staysInRegister_110 : decode cX1_staysInRegister 110 = .ok (.iconst 4, 1) := by decide +kernel
theorem dX1_staysInRegister_111 : decode cX1_staysInRegister 111 = .ok (.invokevirtual 88, 3) := by decide +kernel
theorem dX1_staysInRegister_114 : decode cX1_staysInRegister 114 = .ok (.aload_n 0, 1) := by decide +kernel
theorem dX1_staysInRegister_115 : decode cX1_staysInRegister 115 = .ok (.iconst 5, 1) := by decide +kernel
theorem dX1_staysInRegister_116 : decode cX1_staysInRegister 116 = .ok (.invokevirtual 84, 3) := by decide +kernel
theorem dX1_staysInRegister_119 : decode cX1_staysInRegister 119 = .ok (.iadd, 1) := by decide +kernel
theorem dX1_staysInRegister_120 : decode cX1_staysInRegister 120 = .ok (.if_icmp .le 28, 3) := by decide +kernel
theorem dX1_staysInRegister_123 : decode cX1_staysInRegister 123 = .ok (.aload_n 0, 1) := by decide +kernel
theorem dX1_staysInRegister_124 : decode cX1_staysInRegister 124 = .ok (.iload_n 1, 1) := by decide +kernel
theorem dX1_staysInRegister_125 : decode cX1_staysInRegister 125 = .ok (.aload_n 0, 1) := by decide +kernel
theorem dX1_staysInRegister_126 : decode cX1_staysInRegister 126 = .ok (.getfield 30, 3) := by decide +kernel
theorem dX1_staysInRegister_129 : decode cX1_staysInRegister 129 = .ok (.iload_n 1, 1) := by decide +kernel
theorem dX1_staysInRegister_130 : decode cX1_staysInRegister 130 = .ok (.iconst 5, 1) := by decide +kernel
theorem dX1_staysInRegister_131 : decode cX1_staysInRegister 131 = .ok (.invokevirtual 124, 3) := by decide +kernel
theorem dX1_staysInRegister_134 : decode cX1_staysInRegister 134 = .ok (.iconst 1, 1) := by decide +kernel
theorem dX1_staysInRegister_135 : decode cX1_staysInRegister 135 = .ok (.if_icmp .ne 7, 3) := by decide +kernel
theorem dX1_staysInRegister_138 : decode cX1_staysInRegister 138 = .ok (.iconst 1, 1) := by decide +kernel
theorem dX1_staysInRegister_139 : decode cX1_staysInRegister 139 = .ok (.goto 4, 3) := by decide +kernel
theorem dX1_staysInRegister_142 : decode cX1_staysInRegister 142 = .ok (.iconst 3, 1) := by decide +kernel
theorem dX1_staysInRegister_143 : decode cX1_staysInRegister 143 = .ok (.invokevirtual 171, 3) := by decide +kernel
theorem dX1_staysInRegister_146 : decode cX1_staysInRegister 146 = .ok (.iconst 0, 1) := by decide +kernel
theorem dX1_staysInRegister_147 : decode cX1_staysInRegister 147 = .ok (.ireturn, 1) := by decide +kernel
theorem dX1_staysInRegister_148 : decode cX1_staysInRegister 148 = .ok (.iconst 1, 1) := by decide +kernel
