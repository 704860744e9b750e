set_option maxRecDepth 20000 in
theorem ggX4_item_X4_refused : GoodIn wsX4_item wsX4_refused := goodIn_r _ [16, 17, 18, 19, 20, 21, 22, 23, 24, 25] (by decide +kernel) (by decide +kernel)
set_option maxRecDepth 20000 in
theorem gX4_item_X4_refused : GoodIn wsX4_item (wsV RX4 29 RX4 yX4_refused wsX4_refused) := goodIn_app (goodIn_of _ (by decide +kernel)) ggX4_item_X4_refused
set_option maxRecDepth 20000 in
theorem ggX4_item_X4_thing : GoodIn wsX4_item wsX4_thing := goodIn_r _ [9] (by decide +kernel) (by decide +kernel)
set_option maxRecDepth 20000 in
theorem gX4_item_X4_thing : GoodIn wsX4_item (va_wsS RX4 33 yX4_thing wsX4_thing) := goodIn_app (goodIn_of _ (by decide +kernel)) ggX4_item_X4_thing
theorem dX4_item_0 : decode cX4_item 0 = .ok (.aload_n 0, 1) := by decide +kernel
theorem dX4_item_1 : decode cX4_item 1 = .ok (.iload_n 1, 1) := by decide +kernel
theorem dX4_item_2 : decode cX4_item 2 = .ok (.invokevirtual 62, 3) := by decide +kernel
theorem dX4_item_5 : decode cX4_item 5 = .ok (.istore_n 3, 1) := by decide +kernel
theorem dX4_item_6 : decode cX4_item 6 = .ok (.aload_n 0, 1) := by decide +kernel
theorem dX4_item_7 : decode cX4_item 7 = .ok (.iload_n 3, 1) := by decide +kernel
theorem dX4_item_8 : decode cX4_item 8 = .ok (.iconst (-1), 1) := by decide +kernel
theorem dX4_item_9 : decode cX4_item 9 = .ok (.if_icmp .ne 7, 3) := by decide +kernel
theorem dX4_item_12 : decode cX4_item 12 = .ok (.iconst 1, 1) := by decide +kernel
theorem dX4_item_13 : decode cX4_item 13 = .ok (.goto 17, 3) := by decide +kernel
theorem dX4_item_16 : decode cX4_item 16 = .ok (.iload_n 2, 1) := by decide +kernel
theorem dX4_item_17 : decode cX4_item 17 = .ok (.iconst 0, 1) := by decide +kernel
theorem dX4_item_18 : decode cX4_item 18 = .ok (.iconst 2, 1) := by decide +kernel
theorem dX4_item_19 : decode cX4_item 19 = .ok (.invokestatic 40, 3) := by decide +kernel
theorem dX4_item_22 : decode cX4_item 22 = .ok (.ifCond .eq 7, 3) := by decide +kernel
theorem dX4_item_25 : decode cX4_item 25 = .ok (.iconst 0, 1) := by decide +kernel
theorem dX4_item_26 : decode cX4_item 26 = .ok (.goto 4, 3) := by decide +kernel
theorem dX4_item_29 : decode cX4_item 29 = .ok (.iconst 2, 1) := by decide +kernel
theorem dX4_item_30 : decode cX4_item 30 = .ok (.invokevirtual 29, 3) := by decide +kernel
theorem dX4_item_33 : decode cX4_item 33 = .ok (.ifCond .eq 7, 3) := by decide +kernel
theorem dX4_item_36 : decode cX4_item 36 = .ok (.iconst 0, 1) := by decide +kernel
theorem dX4_item_37 : decode cX4_item 37 = .ok (.goto 15, 3) := by decide +kernel
theorem dX4_item_40 : decode cX4_item 40 = .ok (.aload_n 0, 1) := by decide +kernel
theorem dX4_item_41 : decode cX4_item 41 = .ok (.getfield 7, 3) := by decide +kernel
theorem dX4_item_44 : decode cX4_item 44 = .ok (.iload_n 3, 1) := by decide +kernel
theorem dX4_item_45 : decode cX4_item 45 = .ok (.iconst 1, 1) := by decide +kernel
theorem dX4_item_46 : decode cX4_item 46 = .ok (.iload_n 2, 1) := by decide +kernel
theorem dX4_item_47 : decode cX4_item 47 = .ok (.iadd, 1) := by decide +kernel
theorem dX4_item_48 : decode cX4_item 48 = .ok (.invokestatic 33, 3) := by decide +kernel
theorem dX4_item_51 : decode cX4_item 51 = .ok (.iaload, 1) := by decide +kernel
theorem dX4_item_52 : decode cX4_item 52 = .ok (.ireturn, 1) := by decide +kernel
set_option maxRecDepth 20000 in
theorem ggX4_record_X4_recordOf : GoodIn wsX4_record wsX4_recordOf := goodIn_r _ [6, 1, 7, 8, 5, 9, 18, 19, 20, 21, 22, 23, 24, 25] (by decide +kernel) (by decide +kernel)
set_option maxRecDepth 20000 in
theorem gX4_record_X4_recordOf : GoodIn wsX4_record (wsV RX4 73 RX4 yX4_recordOf wsX4_recordOf) := goodIn_app (goodIn_of _ (by decide +kernel)) ggX4_record_X4_recordOf
set_option maxRecDepth 20000 in
theorem ggX4_record_X4_within : GoodIn wsX4_record wsX4_within := goodIn_r _ [12] (by decide +kernel) (by decide +kernel)
set_option maxRecDepth 20000 in
theorem gX4_record_X4_within : GoodIn wsX4_record (va_wsS RX4 40 yX4_within wsX4_within) := goodIn_app (goodIn_of _ (by decide +kernel)) ggX4_record_X4_within
set_option maxRecDepth 20000 in
theorem ggX4_record_X4_refused : GoodIn wsX4_record wsX4_refused := goodIn_r _ [16, 17, 18, 19, 20, 21, 22, 23, 24, 25] (by decide +kernel) (by decide +kernel)
set_option maxRecDepth 20000 in
theorem gX4_record_X4_refused : GoodIn wsX4_record (wsV RX4 29 RX4 yX4_refused wsX4_refused) := goodIn_app (goodIn_of _ (by decide +kernel)) ggX4_record_X4_refused
set_option maxRecDepth 20000 in
theorem ggX4_record_X4_entry : GoodIn wsX4_record wsX4_entry := goodIn_r _ [9] (by decide +kernel) (by decide +kernel)
set_option maxRecDepth 20000 in
theorem gX4_record_X4_entry : GoodIn wsX4_record (va_wsS RX4 37 yX4_entry wsX4_entry) := goodIn_app (goodIn_of _ (by decide +kernel)) ggX4_record_X4_entry
theorem dX4_record_0 : decode cX4_record 0 = .ok (.aload_n 0, 1) := by decide +kernel
theorem dX4_record_1 : decode cX4_record 1 = .ok (.iload_n 1, 1) := by decide +kernel
theorem dX4_record_2 : decode cX4_record 2 = .ok (.invokevirtual 73, 3) := by decide +kernel
theorem dX4_record_5 : decode cX4_record 5 = .ok (.istore_n 3, 1) := by decide +kernel
theorem dX4_record_6 : decode cX4_record 6 = .ok (.aload_n 0, 1) := by decide +kernel
theorem dX4_record_7 : decode cX4_record 7 = .ok (.iload_n 3, 1) := by decide +kernel
theorem dX4_record_8 : decode cX4_record 8 = .ok (.iconst (-1), 1) := by decide +kernel
theorem dX4_record_9 : decode cX4_record 9 = .ok (.if_icmp .ne 7, 3) := by decide +kernel
theorem dX4_record_12 : decode cX4_record 12 = .ok (.iconst 1, 1) := by decide +kernel
theorem dX4_record_13 : decode cX4_record 13 = .ok (.goto 17, 3) := by decide +kernel
theorem dX4_record_16 : decode cX4_record 16 = .ok (.iload_n 2, 1) := by decide +kernel
theorem dX4_record_17 : decode cX4_record 17 = .ok (.iconst 0, 1) := by decide +kernel
theorem dX4_record_18 : decode cX4_record 18 = .ok (.iconst 4, 1) := by decide +kernel
theorem dX4_record_19 : decode cX4_record 19 = .ok (.invokestatic 40, 3) := by decide +kernel
theorem dX4_record_22 : decode cX4_record 22 = .ok (.ifCond .eq 7, 3) := by decide +kernel
theorem dX4_record_25 : decode cX4_record 25 = .ok (.iconst 0, 1) := by decide +kernel
theorem dX4_record_26 : decode cX4_record 26 = .ok (.goto 4, 3) := by decide +kernel
theorem dX4_record_29 : decode cX4_record 29 = .ok (.iconst 2, 1) := by decide +kernel
theorem dX4_record_30 : decode cX4_record 30 = .ok (.invokevirtual 29, 3) := by decide +kernel
theorem dX4_record_33 : decode cX4_record 33 = .ok (.ifCond .eq 7, 3) := by decide +kernel
theorem dX4_record_36 : decode cX4_record 36 = .ok (.iconst 0, 1) := by decide +kernel
theorem dX4_record_37 : decode cX4_record 37 = .ok (.goto 15, 3) := by decide +kernel
theorem dX4_record_40 : decode cX4_record 40 = .ok (.aload_n 0, 1) := by decide +kernel
theorem dX4_record_41 : decode cX4_record 41 = .ok (.getfield 7, 3) := by decide +kernel
theorem dX4_record_44 : decode cX4_record 44 = .ok (.iload_n 3, 1) := by decide +kernel
theorem dX4_record_45 : decode cX4_record 45 = .ok (.iconst 1, 1) := by decide +kernel
theorem dX4_record_46 : decode cX4_record 46 = .ok (.iload_n 2, 1) := by decide +kernel
theorem dX4_record_47 : decode cX4_record 47 = .ok (.iadd, 1) := by decide +kernel
theorem dX4_record_48 : decode cX4_record 48 = .ok (.invokestatic 37, 3) := by decide +kernel
theorem dX4_record_51 : decode cX4_record 51 = .ok (.iaload, 1) := by decide +kernel
theorem dX4_record_52 : decode cX4_record 52 = .ok (.ireturn, 1) := by decide +kernel
set_option maxRecDepth 20000 in
theorem ggX4_numberAt_X4_within : GoodIn wsX4_numberAt wsX4_within := goodIn_r _ [5] (by decide +kernel) (by decide +kernel)
set_option maxRecDepth 20000 in
theorem gX4_numberAt_X4_within : GoodIn wsX4_numberAt (va_wsS RX4 40 yX4_within wsX4_within) := goodIn_app (goodIn_of _ (by decide +kernel)) ggX4_numberAt_X4_within
set_option maxRecDepth 20000 in
theorem ggX4_numberAt_X4_refused : GoodIn wsX4_numberAt wsX4_refused := goodIn_r _ [9, 10, 17, 18, 19, 20, 21, 22, 23, 24] (by decide +kernel) (by decide +kernel)
set_option maxRecDepth 20000 in
theorem gX4_numberAt_X4_refused : GoodIn wsX4_numberAt (wsV RX4 29 RX4 yX4_refused wsX4_refused) := goodIn_app (goodIn_of _ (by decide +kernel)) ggX4_numberAt_X4_refused
set_option maxRecDepth 20000 in
theorem ggX4_numberAt_X4_entry : GoodIn wsX4_numberAt wsX4_entry := goodIn_r _ [13] (by decide +kernel) (by decide +kernel)
set_option maxRecDepth 20000 in
theorem gX4_numberAt_X4_entry : GoodIn wsX4_numberAt (va_wsS RX4 37 yX4_entry wsX4_entry) := goodIn_app (goodIn_of _ (by decide +kernel)) ggX4_numberAt_X4_entry
set_option maxRecDepth 20000 in
theorem ggX4_numberAt_X4_thing : GoodIn wsX4_numberAt wsX4_thing := goodIn_r _ [16] (by decide +kernel) (by decide +kernel)
set_option maxRecDepth 20000 in
theorem gX4_numberAt_X4_thing : GoodIn wsX4_numberAt (va_wsS RX4 33 yX4_thing wsX4_thing) := goodIn_app (goodIn_of _ (by decide +kernel)) ggX4_numberAt_X4_thing
theorem dX4_numberAt_0 : decode cX4_numberAt 0 = .ok (.aload_n 0, 1) := by decide +kernel
theorem dX4_numberAt_1 : decode cX4_numberAt 1 = .ok (.getfield 7, 3) := by decide +kernel
theorem dX4_numberAt_4 : decode cX4_numberAt 4 = .ok (.iload_n 2, 1) := by decide +kernel
theorem dX4_numberAt_5 : decode cX4_numberAt 5 = .ok (.ifCond .eq 8, 3) := by decide +kernel
theorem dX4_numberAt_8 : decode cX4_numberAt 8 = .ok (.bipush 117, 2) := by decide +kernel
theorem dX4_numberAt_10 : decode cX4_numberAt 10 = .ok (.goto 5, 3) := by decide +kernel
theorem dX4_numberAt_13 : decode cX4_numberAt 13 = .ok (.bipush 36, 2) := by decide +kernel
theorem dX4_numberAt_15 : decode cX4_numberAt 15 = .ok (.iaload, 1) := by decide +kernel
theorem dX4_numberAt_16 : decode cX4_numberAt 16 = .ok (.istore_n 3, 1) := by decide +kernel
theorem dX4_numberAt_17 : decode cX4_numberAt 17 = .ok (.aload_n 0, 1) := by decide +kernel
theorem dX4_numberAt_18 : decode cX4_numberAt 18 = .ok (.iload_n 1, 1) := by decide +kernel
theorem dX4_numberAt_19 : decode cX4_numberAt 19 = .ok (.iconst 0, 1) := by decide +kernel
theorem dX4_numberAt_20 : decode cX4_numberAt 20 = .ok (.iload_n 3, 1) := by decide +kernel
theorem dX4_numberAt_21 : decode cX4_numberAt 21 = .ok (.iconst 1, 1) := by decide +kernel
theorem dX4_numberAt_22 : decode cX4_numberAt 22 = .ok (.isub, 1) := by decide +kernel
theorem dX4_numberAt_23 : decode cX4_numberAt 23 = .ok (.invokestatic 40, 3) := by decide +kernel
theorem dX4_numberAt_26 : decode cX4_numberAt 26 = .ok (.ifCond .eq 7, 3) := by decide +kernel
theorem dX4_numberAt_29 : decode cX4_numberAt 29 = .ok (.iconst 0, 1) := by decide +kernel
theorem dX4_numberAt_30 : decode cX4_numberAt 30 = .ok (.goto 4, 3) := by decide +kernel
theorem dX4_numberAt_33 : decode cX4_numberAt 33 = .ok (.iconst 1, 1) := by decide +kernel
theorem dX4_numberAt_34 : decode cX4_numberAt 34 = .ok (.invokevirtual 29, 3) := by decide +kernel
theorem dX4_numberAt_37 : decode cX4_numberAt 37 = .ok (.ifCond .eq 7, 3) := by decide +kernel
theorem dX4_numberAt_40 : decode cX4_numberAt 40 = .ok (.iconst 0, 1) := by decide +kernel
theorem dX4_numberAt_41 : decode cX4_numberAt 41 = .ok (.goto 25, 3) := by decide +kernel
theorem dX4_numberAt_44 : decode cX4_numberAt 44 = .ok (.aload_n 0, 1) := by decide +kernel
theorem dX4_numberAt_45 : decode cX4_numberAt 45 = .ok (.getfield 7, 3) := by decide +kernel
theorem dX4_numberAt_48 : decode cX4_numberAt 48 = .ok (.iload_n 2, 1) := by decide +kernel
theorem dX4_numberAt_49 : decode cX4_numberAt 49 = .ok (.ifCond .eq 11, 3) := by decide +kernel
theorem dX4_numberAt_52 : decode cX4_numberAt 52 = .ok (.iload_n 1, 1) := by decide +kernel
theorem dX4_numberAt_53 : decode cX4_numberAt 53 = .ok (.iconst 0, 1) := by decide +kernel
theorem dX4_numberAt_54 : decode cX4_numberAt 54 = .ok (.invokestatic 37, 3) := by decide +kernel
theorem dX4_numberAt_57 : decode cX4_numberAt 57 = .ok (.goto 8, 3) := by decide +kernel
theorem dX4_numberAt_60 : decode cX4_numberAt 60 = .ok (.iload_n 1, 1) := by decide +kernel
theorem dX4_numberAt_61 : decode cX4_numberAt 61 = .ok (.iconst 0, 1) := by decide +kernel
theorem dX4_numberAt_62 : decode cX4_numberAt 62 = .ok (.invokestatic 33, 3) := by decide +kernel
theorem dX4_numberAt_65 : decode cX4_numberAt 65 = .ok (.iaload, 1) := by decide +kernel
theorem dX4_numberAt_66 : decode cX4_numberAt 66 = .ok (.ireturn, 1) := by decide +kernel
set_option maxRecDepth 20000 in
theorem ggX4_counter_X4_within : GoodIn wsX4_counter wsX4_within := goodIn_r _ [5] (by decide +kernel) (by decide +kernel)
set_option maxRecDepth 20000 in
theorem gX4_counter_X4_within : GoodIn wsX4_counter (va_wsS RX4 40 yX4_within wsX4_within) := goodIn_app (goodIn_of _ (by decide +kernel)) ggX4_counter_X4_within
set_option maxRecDepth 20000 in
theorem ggX4_counter_X4_refused : GoodIn wsX4_counter wsX4_refused := goodIn_r _ [9, 10, 11, 12, 13, 14, 15, 16, 17, 18] (by decide +kernel) (by decide +kernel)
set_option maxRecDepth 20000 in
theorem gX4_counter_X4_refused : GoodIn wsX4_counter (wsV RX4 29 RX4 yX4_refused wsX4_refused) := goodIn_app (goodIn_of _ (by decide +kernel)) ggX4_counter_X4_refused
theorem dX4_counter_0 : decode cX4_counter 0 = .ok (.aload_n 0, 1) := by decide +kernel
theorem dX4_counter_1 : decode cX4_counter 1 = .ok (.iload_n 1, 1) := by decide +kernel
theorem dX4_counter_2 : decode cX4_counter 2 = .ok (.iconst 0, 1) := by decide +kernel
theorem dX4_counter_3 : decode cX4_counter 3 = .ok (.bipush 17, 2) := by decide +kernel
theorem dX4_counter_5 : decode cX4_counter 5 = .ok (.invokestatic 40, 3) := by decide +kernel
theorem dX4_counter_8 : decode cX4_counter 8 = .ok (.ifCond .eq 7, 3) := by decide +kernel
theorem dX4_counter_11 : decode cX4_counter 11 = .ok (.iconst 0, 1) := by decide +kernel
theorem dX4_counter_12 : decode cX4_counter 12 = .ok (.goto 4, 3) := by decide +kernel
theorem dX4_counter_15 : decode cX4_counter 15 = .ok (.iconst 1, 1) := by decide +kernel
theorem dX4_counter_16 : decode cX4_counter 16 = .ok (.invokevirtual 29, 3) := by decide +kernel
theorem dX4_counter_19 : decode cX4_counter 19 = .ok (.ifCond .eq 7, 3) := by decide +kernel
theorem dX4_counter_22 : decode cX4_counter 22 = .ok (.iconst 0, 1) := by decide +kernel
theorem dX4_counter_23 : decode cX4_counter 23 = .ok (.goto 12, 3) := by decide +kernel
theorem dX4_counter_26 : decode cX4_counter 26 = .ok (.aload_n 0, 1) := by decide +kernel
theorem dX4_counter_27 : decode cX4_counter 27 = .ok (.getfield 7, 3) := by decide +kernel
theorem dX4_counter_30 : decode cX4_counter 30 = .ok (.bipush 17, 2) := by decide +kernel
theorem dX4_counter_32 : decode cX4_counter 32 = .ok (.iload_n 1, 1) := by decide +kernel
theorem dX4_counter_33 : decode cX4_counter 33 = .ok (.iadd, 1) := by decide +kernel
theorem dX4_counter_34 : decode cX4_counter 34 = .ok (.iaload, 1) := by decide +kernel
theorem dX4_counter_35 : decode cX4_counter 35 = .ok (.ireturn, 1) := by decide +kernel
theorem dX4_reconcile_0 : decode cX4_reconcile 0 = .ok (.aload_n 0, 1) := by decide +kernel
theorem dX4_reconcile_1 : decode cX4_reconcile 1 = .ok (.iconst 0, 1) := by decide +kernel
theorem dX4_reconcile_2 : decode cX4_reconcile 2 = .ok (.putfield 22, 3) := by decide +kernel
theorem dX4_reconcile_5 : decode cX4_reconcile 5 = .ok (.aload_n 0, 1) := by decide +kernel
theorem dX4_reconcile_6 : decode cX4_reconcile 6 = .ok (.getfield 7, 3) := by decide +kernel
theorem dX4_reconcile_9 : decode cX4_reconcile 9 = .ok (.bipush 17, 2) := by decide +kernel
theorem dX4_reconcile_11 : decode cX4_reconcile 11 = .ok (.iaload, 1) := by decide +kernel
theorem dX4_reconcile_12 : decode cX4_reconcile 12 = .ok (.istore_n 2, 1) := by decide +kernel
theorem dX4_reconcile_13 : decode cX4_reconcile 13 = .ok (.iload_n 1, 1) := by decide +kernel
theorem dX4_reconcile_14 : decode cX4_reconcile 14 = .ok (.ifCond .eq 37, 3) := by decide +kernel
theorem dX4_reconcile_17 : decode cX4_reconcile 17 = .ok (.iload_n 2, 1) := by decide +kernel
theorem dX4_reconcile_18 : decode cX4_reconcile 18 = .ok (.aload_n 0, 1) := by decide +kernel
theorem dX4_reconcile_19 : decode cX4_reconcile 19 = .ok (.getfield 7, 3) := by decide +kernel
theorem dX4_reconcile_22 : decode cX4_reconcile 22 = .ok (.bipush 25, 2) := by decide +kernel
theorem dX4_reconcile_24 : decode cX4_reconcile 24 = .ok (.iaload, 1) := by decide +kernel
theorem dX4_reconcile_25 : decode cX4_reconcile 25 = .ok (.isub, 1) := by decide +kernel
theorem dX4_reconcile_26 : decode cX4_reconcile 26 = .ok (.aload_n 0, 1) := by decide +kernel
theorem dX4_reconcile_27 : decode cX4_reconcile 27 = .ok (.getfield 7, 3) := by decide +kernel
theorem dX4_reconcile_30 : decode cX4_reconcile 30 = .ok (.bipush 35, 2) := by decide +kernel
theorem dX4_reconcile_32 : decode cX4_reconcile 32 = .ok (.iaload, 1) := by decide +kernel
theorem dX4_reconcile_33 : decode cX4_reconcile 33 = .ok (.isub, 1) := by decide +kernel
theorem dX4_reconcile_34 : decode cX4_reconcile 34 = .ok (.aload_n 0, 1) := by decide +kernel
theorem dX4_reconcile_35 : decode cX4_reconcile 35 = .ok (.getfield 7, 3) := by decide +kernel
theorem dX4_reconcile_38 : decode cX4_reconcile 38 = .ok (.bipush 24, 2) := by decide +kernel
theorem dX4_reconcile_40 : decode cX4_reconcile 40 = .ok (.iaload, 1) := by decide +kernel
theorem dX4_reconcile_41 : decode cX4_reconcile 41 = .ok (.isub, 1) := by decide +kernel
theorem dX4_reconcile_42 : decode cX4_reconcile 42 = .ok (.aload_n 0, 1) := by decide +kernel
theorem dX4_reconcile_43 : decode cX4_reconcile 43 = .ok (.getfield 7, 3) := by decide +kernel
theorem dX4_reconcile_46 : decode cX4_reconcile 46 = .ok (.bipush 36, 2) := by decide +kernel
theorem dX4_reconcile_48 : decode cX4_reconcile 48 = .ok (.iaload, 1) := by decide +kernel
theorem dX4_reconcile_49 : decode cX4_reconcile 49 = .ok (.isub, 1) := by decide +kernel
theorem dX4_reconcile_50 : decode cX4_reconcile 50 = .ok (.ireturn, 1) := by decide +kernel
theorem dX4_reconcile_51 : decode cX4_reconcile 51 = .ok (.iload_n 2, 1) := by decide +kernel
theorem dX4_reconcile_52 : decode cX4_reconcile 52 = .ok (.aload_n 0, 1) := by decide +kernel
theorem dX4_reconcile_53 : decode cX4_reconcile 53 = .ok (.getfield 7, 3) := by decide +kernel
theorem dX4_reconcile_56 : decode cX4_reconcile 56 = .ok (.bipush 18, 2) := by decide +kernel
theorem dX4_reconcile_58 : decode cX4_reconcile 58 = .ok (.iaload, 1) := by decide +kernel
theorem dX4_reconcile_59 : decode cX4_reconcile 59 = .ok (.isub, 1) := by decide +kernel
theorem dX4_reconcile_60 : decode cX4_reconcile 60 = .ok (.aload_n 0, 1) := by decide +kernel
theorem dX4_reconcile_61 : decode cX4_reconcile 61 = .ok (.getfield 7, 3) := by decide +kernel
theorem dX4_reconcile_64 : decode cX4_reconcile 64 = .ok (.bipush 19, 2) := by decide +kernel
theorem dX4_reconcile_66 : decode cX4_reconcile 66 = .ok (.iaload, 1) := by decide +kernel
theorem dX4_reconcile_67 : decode cX4_reconcile 67 = .ok (.isub, 1) := by decide +kernel
theorem dX4_reconcile_68 : decode cX4_reconcile 68 = .ok (.aload_n 0, 1) := by decide +kernel
theorem dX4_reconcile_69 : decode cX4_reconcile 69 = .ok (.getfield 7, 3) := by decide +kernel
theorem dX4_reconcile_72 : decode cX4_reconcile 72 = .ok (.bipush 20, 2) := by decide +kernel
theorem dX4_reconcile_74 : decode cX4_reconcile 74 = .ok (.iaload, 1) := by decide +kernel
theorem dX4_reconcile_75 : decode cX4_reconcile 75 = .ok (.isub, 1) := by decide +kernel
theorem dX4_reconcile_76 : decode cX4_reconcile 76 = .ok (.aload_n 0, 1) := by decide +kernel
theorem dX4_reconcile_77 : decode cX4_reconcile 77 = .ok (.getfield 7, 3) := by decide +kernel
theorem dX4_reconcile_80 : decode cX4_reconcile 80 = .ok (.bipush 117, 2) := by decide +kernel
theorem dX4_reconcile_82 : decode cX4_reconcile 82 = .ok (.iaload, 1) := by decide +kernel
theorem dX4_reconcile_83 : decode cX4_reconcile 83 = .ok (.isub, 1) := by decide +kernel
theorem dX4_reconcile_84 : decode cX4_reconcile 84 = .ok (.ireturn, 1) := by decide +kernel
theorem dX4_goodShare_0 : decode cX4_goodShare 0 = .ok (.aload_n 0, 1) := by decide +kernel
theorem dX4_goodShare_1 : decode cX4_goodShare 1 = .ok (.iconst 0, 1) := by decide +kernel
theorem dX4_goodShare_2 : decode cX4_goodShare 2 = .ok (.putfield 22, 3) := by decide +kernel
theorem dX4_goodShare_5 : decode cX4_goodShare 5 = .ok (.aload_n 0, 1) := by decide +kernel
theorem dX4_goodShare_6 : decode cX4_goodShare 6 = .ok (.getfield 7, 3) := by decide +kernel
theorem dX4_goodShare_9 : decode cX4_goodShare 9 = .ok (.bipush 18, 2) := by decide +kernel
theorem dX4_goodShare_11 : decode cX4_goodShare 11 = .ok (.iaload, 1) := by decide +kernel
theorem dX4_goodShare_12 : decode cX4_goodShare 12 = .ok (.aload_n 0, 1) := by decide +kernel
theorem dX4_goodShare_13 : decode cX4_goodShare 13 = .ok (.getfield 7, 3) := by decide +kernel
theorem dX4_goodShare_16 : decode cX4_goodShare 16 = .ok (.bipush 19, 2) := by decide +kernel
theorem dX4_goodShare_18 : decode cX4_goodShare 18 = .ok (.iaload, 1) := by decide +kernel
theorem dX4_goodShare_19 : decode cX4_goodShare 19 = .ok (.iadd, 1) := by decide +kernel
theorem dX4_goodShare_20 : decode cX4_goodShare 20 = .ok (.aload_n 0, 1) := by decide +kernel
theorem dX4_goodShare_21 : decode cX4_goodShare 21 = .ok (.getfield 7, 3) := by decide +kernel
theorem dX4_goodShare_24 : decode cX4_goodShare 24 = .ok (.bipush 20, 2) := by decide +kernel
theorem dX4_goodShare_26 : decode cX4_goodShare 26 = .ok (.iaload, 1) := by decide +kernel
theorem dX4_goodShare_27 : decode cX4_goodShare 27 = .ok (.iadd, 1) := by decide +kernel
theorem dX4_goodShare_28 : decode cX4_goodShare 28 = .ok (.istore_n 1, 1) := by decide +kernel
theorem dX4_goodShare_29 : decode cX4_goodShare 29 = .ok (.iload_n 1, 1) := by decide +kernel
theorem dX4_goodShare_30 : decode cX4_goodShare 30 = .ok (.ifCond .ne 7, 3) := by decide +kernel
theorem dX4_goodShare_33 : decode cX4_goodShare 33 = .ok (.dconst 0, 1) := by decide +kernel
theorem dX4_goodShare_34 : decode cX4_goodShare 34 = .ok (.goto 14, 3) := by decide +kernel
theorem dX4_goodShare_37 : decode cX4_goodShare 37 = .ok (.aload_n 0, 1) := by decide +kernel
theorem dX4_goodShare_38 : decode cX4_goodShare 38 = .ok (.getfield 7, 3) := by decide +kernel
theorem dX4_goodShare_41 : decode cX4_goodShare 41 = .ok (.bipush 18, 2) := by decide +kernel
theorem dX4_goodShare_43 : decode cX4_goodShare 43 = .ok (.iaload, 1) := by decide +kernel
theorem dX4_goodShare_44 : decode cX4_goodShare 44 = .ok (.i2d, 1) := by decide +kernel
theorem dX4_goodShare_45 : decode cX4_goodShare 45 = .ok (.iload_n 1, 1) := by decide +kernel
theorem dX4_goodShare_46 : decode cX4_goodShare 46 = .ok (.i2d, 1) := by decide +kernel
theorem dX4_goodShare_47 : decode cX4_goodShare 47 = .ok (.ddiv, 1) := by decide +kernel
theorem dX4_goodShare_48 : decode cX4_goodShare 48 = .ok (.dreturn, 1) := by decide +kernel
theorem dX4_spareOf_0 : decode cX4_spareOf 0 = .ok (.aload_n 0, 1) := by decide +kernel
theorem dX4_spareOf_1 : decode cX4_spareOf 1 = .ok (.getfield 7, 3) := by decide +kernel
theorem dX4_spareOf_4 : decode cX4_spareOf 4 = .ok (.bipush 10, 2) := by decide +kernel
theorem dX4_spareOf_6 : decode cX4_spareOf 6 = .ok (.iaload, 1) := by decide +kernel
theorem dX4_spareOf_7 : decode cX4_spareOf 7 = .ok (.aload_n 0, 1) := by decide +kernel
theorem dX4_spareOf_8 : decode cX4_spareOf 8 = .ok (.getfield 7, 3) := by decide +kernel
theorem dX4_spareOf_11 : decode cX4_spareOf 11 = .ok (.bipush 8, 2) := by decide +kernel
theorem dX4_spareOf_13 : decode cX4_spareOf 13 = .ok (.iaload, 1) := by decide +kernel
theorem dX4_spareOf_14 : decode cX4_spareOf 14 = .ok (.isub, 1) := by decide +kernel
theorem dX4_spareOf_15 : decode cX4_spareOf 15 = .ok (.iload_n 1, 1) := by decide +kernel
theorem dX4_spareOf_16 : decode cX4_spareOf 16 = .ok (.aload_n 0, 1) := by decide +kernel
theorem dX4_spareOf_17 : decode cX4_spareOf 17 = .ok (.getfield 7, 3) := by decide +kernel
theorem dX4_spareOf_20 : decode cX4_spareOf 20 = .ok (.iconst 1, 1) := by decide +kernel
theorem dX4_spareOf_21 : decode cX4_spareOf 21 = .ok (.iaload, 1) := by decide +kernel
theorem dX4_spareOf_22 : decode cX4_spareOf 22 = .ok (.imul, 1) := by decide +kernel
theorem dX4_spareOf_23 : decode cX4_spareOf 23 = .ok (.iconst 1, 1) := by decide +kernel
theorem dX4_spareOf_24 : decode cX4_spareOf 24 = .ok (.isub, 1) := by decide +kernel
theorem dX4_spareOf_25 : decode cX4_spareOf 25 = .ok (.isub, 1) := by decide +kernel
theorem dX4_spareOf_26 : decode cX4_spareOf 26 = .ok (.ireturn, 1) := by decide +kernel
set_option maxRecDepth 20000 in
theorem ggX4_spare_X4_within : GoodIn wsX4_spare wsX4_within := goodIn_r _ [4] (by decide +kernel) (by decide +kernel)
set_option maxRecDepth 20000 in
theorem gX4_spare_X4_within : GoodIn wsX4_spare (va_wsS RX4 40 yX4_within wsX4_within) := goodIn_app (goodIn_of _ (by decide +kernel)) ggX4_spare_X4_within
set_option maxRecDepth 20000 in
theorem ggX4_spare_X4_refused : GoodIn wsX4_spare wsX4_refused := goodIn_r _ [8, 9, 15, 16, 17, 18, 19, 20, 21, 22] (by decide +kernel) (by decide +kernel)
set_option maxRecDepth 20000 in
theorem gX4_spare_X4_refused : GoodIn wsX4_spare (wsV RX4 29 RX4 yX4_refused wsX4_refused) := goodIn_app (goodIn_of _ (by decide +kernel)) ggX4_spare_X4_refused
set_option maxRecDepth 20000 in
theorem ggX4_spare_X4_spareOf : GoodIn wsX4_spare wsX4_spareOf := goodIn_r _ [13, 14, 15, 16, 17, 18, 19, 20, 21, 22] (by decide +kernel) (by decide +kernel)
set_option maxRecDepth 20000 in
theorem gX4_spare_X4_spareOf : GoodIn wsX4_spare (wsV RX4 119 RX4 yX4_spareOf wsX4_spareOf) := goodIn_app (goodIn_of _ (by decide +kernel)) ggX4_spare_X4_spareOf
theorem dX4_spare_0 : decode cX4_spare 0 = .ok (.aload_n 0, 1) := by decide +kernel
theorem dX4_spare_1 : decode cX4_spare 1 = .ok (.iload_n 1, 1) := by decide +kernel
theorem dX4_spare_2 : decode cX4_spare 2 = .ok (.iconst 1, 1) := by decide +kernel
theorem dX4_spare_3 : decode cX4_spare 3 = .ok (.bipush 10, 2) := by decide +kernel
theorem dX4_spare_5 : decode cX4_spare 5 = .ok (.invokestatic 40, 3) := by decide +kernel
theorem dX4_spare_8 : decode cX4_spare 8 = .ok (.ifCond .eq 7, 3) := by decide +kernel
theorem dX4_spare_11 : decode cX4_spare 11 = .ok (.iconst 0, 1) := by decide +kernel
theorem dX4_spare_12 : decode cX4_spare 12 = .ok (.goto 4, 3) := by decide +kernel
theorem dX4_spare_15 : decode cX4_spare 15 = .ok (.iconst 1, 1) := by decide +kernel
theorem dX4_spare_16 : decode cX4_spare 16 = .ok (.invokevirtual 29, 3) := by decide +kernel
theorem dX4_spare_19 : decode cX4_spare 19 = .ok (.ifCond .eq 7, 3) := by decide +kernel
theorem dX4_spare_22 : decode cX4_spare 22 = .ok (.iconst 0, 1) := by decide +kernel
theorem dX4_spare_23 : decode cX4_spare 23 = .ok (.goto 8, 3) := by decide +kernel
theorem dX4_spare_26 : decode cX4_spare 26 = .ok (.aload_n 0, 1) := by decide +kernel
theorem dX4_spare_27 : decode cX4_spare 27 = .ok (.iload_n 1, 1) := by decide +kernel
theorem dX4_spare_28 : decode cX4_spare 28 = .ok (.invokevirtual 119, 3) := by decide +kernel
theorem dX4_spare_31 : decode cX4_spare 31 = .ok (.ireturn, 1) := by decide +kernel
set_option maxRecDepth 20000 in
theorem ggX4_fastest_X4_spareOf : GoodIn wsX4_fastest wsX4_spareOf := goodIn_r _ [6, 7, 8, 9, 10, 11, 12, 13, 14, 15] (by decide +kernel) (by decide +kernel)
set_option maxRecDepth 20000 in
theorem gX4_fastest_X4_spareOf : GoodIn wsX4_fastest (wsV RX4 119 RX4 yX4_spareOf wsX4_spareOf) := goodIn_app (goodIn_of _ (by decide +kernel)) ggX4_fastest_X4_spareOf
theorem dX4_fastest_0 : decode cX4_fastest 0 = .ok (.aload_n 0, 1) := by decide +kernel
theorem dX4_fastest_1 : decode cX4_fastest 1 = .ok (.iconst 0, 1) := by decide +kernel
theorem dX4_fastest_2 : decode cX4_fastest 2 = .ok (.putfield 22, 3) := by decide +kernel
theorem dX4_fastest_5 : decode cX4_fastest 5 = .ok (.iconst (-1), 1) := by decide +kernel
theorem dX4_fastest_6 : decode cX4_fastest 6 = .ok (.istore_n 1, 1) := by decide +kernel
theorem dX4_fastest_7 : decode cX4_fastest 7 = .ok (.iconst 1, 1) := by decide +kernel
theorem dX4_fastest_8 : decode cX4_fastest 8 = .ok (.istore_n 2, 1) := by decide +kernel
theorem dX4_fastest_9 : decode cX4_fastest 9 = .ok (.iload_n 2, 1) := by decide +kernel
theorem dX4_fastest_10 : decode cX4_fastest 10 = .ok (.bipush 10, 2) := by decide +kernel
theorem dX4_fastest_12 : decode cX4_fastest 12 = .ok (.if_icmp .gt 23, 3) := by decide +kernel
theorem dX4_fastest_15 : decode cX4_fastest 15 = .ok (.aload_n 0, 1) := by decide +kernel
theorem dX4_fastest_16 : decode cX4_fastest 16 = .ok (.iload_n 2, 1) := by decide +kernel
theorem dX4_fastest_17 : decode cX4_fastest 17 = .ok (.invokevirtual 119, 3) := by decide +kernel
theorem dX4_fastest_20 : decode cX4_fastest 20 = .ok (.ifCond .le 7, 3) := by decide +kernel
theorem dX4_fastest_23 : decode cX4_fastest 23 = .ok (.iload_n 2, 1) := by decide +kernel
theorem dX4_fastest_24 : decode cX4_fastest 24 = .ok (.goto 4, 3) := by decide +kernel
theorem dX4_fastest_27 : decode cX4_fastest 27 = .ok (.iload_n 1, 1) := by decide +kernel
theorem dX4_fastest_28 : decode cX4_fastest 28 = .ok (.istore_n 1, 1) := by decide +kernel
theorem dX4_fastest_29 : decode cX4_fastest 29 = .ok (.iinc 2 1, 3) := by decide +kernel
theorem dX4_fastest_32 : decode cX4_fastest 32 = .ok (.goto (-23), 3) := by decide +kernel
theorem dX4_fastest_35 : decode cX4_fastest 35 = .ok (.iload_n 1, 1) := by decide +kernel
theorem dX4_fastest_36 : decode cX4_fastest 36 = .ok (.ireturn, 1) := by decide +kernel
set_option maxRecDepth 20000 in
theorem ggX4_fate_X4_recordOf : GoodIn wsX4_fate wsX4_recordOf := goodIn_r _ [6, 1, 7, 8, 5, 9, 87, 88, 89, 90, 91, 92, 93, 94] (by decide +kernel) (by decide +kernel)
set_option maxRecDepth 20000 in
theorem gX4_fate_X4_recordOf : GoodIn wsX4_fate (wsV RX4 73 RX4 yX4_recordOf wsX4_recordOf) := goodIn_app (goodIn_of _ (by decide +kernel)) ggX4_fate_X4_recordOf
set_option maxRecDepth 20000 in
theorem ggX4_fate_X4_refused : GoodIn wsX4_fate wsX4_refused := goodIn_r _ [13, 14, 87, 88, 89, 90, 91, 92, 93, 94] (by decide +kernel) (by decide +kernel)
set_option maxRecDepth 20000 in
theorem gX4_fate_X4_refused : GoodIn wsX4_fate (wsV RX4 29 RX4 yX4_refused wsX4_refused) := goodIn_app (goodIn_of _ (by decide +kernel)) ggX4_fate_X4_refused
set_option maxRecDepth 20000 in
theorem ggX4_fate_X4_laysAside : GoodIn wsX4_fate wsX4_laysAside := goodIn_r _ [18, 19, 1, 87, 88, 89, 90, 91, 92, 93, 94] (by decide +kernel) (by decide +kernel)
set_option maxRecDepth 20000 in
theorem gX4_fate_X4_laysAside : GoodIn wsX4_fate (wsV RX4 122 RX4 yX4_laysAside wsX4_laysAside) := goodIn_app (goodIn_of _ (by decide +kernel)) ggX4_fate_X4_laysAside
set_option maxRecDepth 20000 in
theorem ggX4_fate_X4_tickOn : GoodIn wsX4_fate wsX4_tickOn := goodIn_r _ [23, 1, 24, 25, 26, 5, 27, 28, 29, 30, 31, 2, 3, 4, 6, 7, 8, 9, 32, 33, 34, 35, 36, 37, 38, 39, 40, 41, 42, 43, 44, 45, 46, 47, 48, 49, 50, 51, 52, 53, 54, 55, 56, 57, 58, 59, 60, 61, 62, 63, 64, 65, 66, 67, 68, 69, 70, 71, 72, 73, 74, 75, 76, 77, 78, 79, 80, 81, 82, 87, 88, 89, 90, 91, 92, 93, 94] (by decide +kernel) (by decide +kernel)
set_option maxRecDepth 20000 in
theorem gX4_fate_X4_tickOn : GoodIn wsX4_fate (wsV RX4 110 RX4 yX4_tickOn wsX4_tickOn) := goodIn_app (goodIn_of _ (by decide +kernel)) ggX4_fate_X4_tickOn
set_option maxRecDepth 20000 in
theorem ggX4_fate_X4_takesBack : GoodIn wsX4_fate wsX4_takesBack := goodIn_r _ [86, 1, 19, 87, 88, 89, 90, 91, 92, 93, 94] (by decide +kernel) (by decide +kernel)
set_option maxRecDepth 20000 in
theorem gX4_fate_X4_takesBack : GoodIn wsX4_fate (wsV RX4 125 RX4 yX4_takesBack wsX4_takesBack) := goodIn_app (goodIn_of _ (by decide +kernel)) ggX4_fate_X4_takesBack
theorem dX4_fate_0 : decode cX4_fate 0 = .ok (.aload_n 0, 1) := by decide +kernel
theorem dX4_fate_1 : decode cX4_fate 1 = .ok (.aload_n 0, 1) := by decide +kernel
theorem dX4_fate_2 : decode cX4_fate 2 = .ok (.iload_n 1, 1) := by decide +kernel
theorem dX4_fate_3 : decode cX4_fate 3 = .ok (.invokevirtual 73, 3) := by decide +kernel
theorem dX4_fate_6 : decode cX4_fate 6 = .ok (.iconst (-1), 1) := by decide +kernel
theorem dX4_fate_7 : decode cX4_fate 7 = .ok (.if_icmp .ne 7, 3) := by decide +kernel
theorem dX4_fate_10 : decode cX4_fate 10 = .ok (.iconst 1, 1) := by decide +kernel
theorem dX4_fate_11 : decode cX4_fate 11 = .ok (.goto 4, 3) := by decide +kernel
theorem dX4_fate_14 : decode cX4_fate 14 = .ok (.iconst 0, 1) := by decide +kernel
theorem dX4_fate_15 : decode cX4_fate 15 = .ok (.invokevirtual 29, 3) := by decide +kernel
theorem dX4_fate_18 : decode cX4_fate 18 = .ok (.ifCond .eq 5, 3) := by decide +kernel
theorem dX4_fate_21 : decode cX4_fate 21 = .ok (.iconst 0, 1) := by decide +kernel
theorem dX4_fate_22 : decode cX4_fate 22 = .ok (.ireturn, 1) := by decide +kernel
theorem dX4_fate_23 : decode cX4_fate 23 = .ok (.aload_n 0, 1) := by decide +kernel
theorem dX4_fate_24 : decode cX4_fate 24 = .ok (.invokevirtual 122, 3) := by decide +kernel
theorem dX4_fate_27 : decode cX4_fate 27 = .ok (.aload_n 0, 1) := by decide +kernel
theorem dX4_fate_28 : decode cX4_fate 28 = .ok (.getfield 7, 3) := by decide +kernel
theorem dX4_fate_31 : decode cX4_fate 31 = .ok (.sipush 1202, 3) := by decide +kernel
theorem dX4_fate_34 : decode cX4_fate 34 = .ok (.iload_n 1, 1) := by decide +kernel
theorem dX4_fate_35 : decode cX4_fate 35 = .ok (.iastore, 1) := by decide +kernel
theorem dX4_fate_36 : decode cX4_fate 36 = .ok (.aload_n 0, 1) := by decide +kernel
theorem dX4_fate_37 : decode cX4_fate 37 = .ok (.getfield 7, 3) := by decide +kernel
theorem dX4_fate_40 : decode cX4_fate 40 = .ok (.sipush 1201, 3) := by decide +kernel
theorem dX4_fate_43 : decode cX4_fate 43 = .ok (.iconst 0, 1) := by decide +kernel
theorem dX4_fate_44 : decode cX4_fate 44 = .ok (.iastore, 1) := by decide +kernel
theorem dX4_fate_45 : decode cX4_fate 45 = .ok (.aload_n 0, 1) := by decide +kernel
theorem dX4_fate_46 : decode cX4_fate 46 = .ok (.getfield 7, 3) := by decide +kernel
theorem dX4_fate_49 : decode cX4_fate 49 = .ok (.bipush 15, 2) := by decide +kernel
theorem dX4_fate_51 : decode cX4_fate 51 = .ok (.aload_n 0, 1) := by decide +kernel
theorem dX4_fate_52 : decode cX4_fate 52 = .ok (.getfield 7, 3) := by decide +kernel
theorem dX4_fate_55 : decode cX4_fate 55 = .ok (.bipush 16, 2) := by decide +kernel
theorem dX4_fate_57 : decode cX4_fate 57 = .ok (.iaload, 1) := by decide +kernel
theorem dX4_fate_58 : decode cX4_fate 58 = .ok (.ifCond .ne 7, 3) := by decide +kernel
theorem dX4_fate_61 : decode cX4_fate 61 = .ok (.iconst 1, 1) := by decide +kernel
theorem dX4_fate_62 : decode cX4_fate 62 = .ok (.goto 4, 3) := by decide +kernel
theorem dX4_fate_65 : decode cX4_fate 65 = .ok (.iconst 0, 1) := by decide +kernel
theorem dX4_fate_66 : decode cX4_fate 66 = .ok (.iastore, 1) := by decide +kernel
theorem dX4_fate_67 : decode cX4_fate 67 = .ok (.iconst 0, 1) := by decide +kernel
theorem dX4_fate_68 : decode cX4_fate 68 = .ok (.istore_n 2, 1) := by decide +kernel
theorem dX4_fate_69 : decode cX4_fate 69 = .ok (.iload_n 2, 1) := by decide +kernel
theorem dX4_fate_70 : decode cX4_fate 70 = .ok (.sipush 1000, 3) := by decide +kernel
theorem dX4_fate_73 : decode cX4_fate 73 = .ok (.if_icmp .ge 24, 3) := by decide +kernel
theorem dX4_fate_76 : decode cX4_fate 76 = .ok (.aload_n 0, 1) := by decide +kernel
theorem dX4_fate_77 : decode cX4_fate 77 = .ok (.getfield 7, 3) := by decide +kernel
theorem dX4_fate_80 : decode cX4_fate 80 = .ok (.sipush 1201, 3) := by decide +kernel
theorem dX4_fate_83 : decode cX4_fate 83 = .ok (.iaload, 1) := by decide +kernel
theorem dX4_fate_84 : decode cX4_fate 84 = .ok (.ifCond .ne 13, 3) := by decide +kernel
theorem dX4_fate_87 : decode cX4_fate 87 = .ok (.aload_n 0, 1) := by decide +kernel
theorem dX4_fate_88 : decode cX4_fate 88 = .ok (.invokevirtual 110, 3) := by decide +kernel
theorem dX4_fate_91 : decode cX4_fate 91 = .ok (.iinc 2 1, 3) := by decide +kernel
theorem dX4_fate_94 : decode cX4_fate 94 = .ok (.goto (-25), 3) := by decide +kernel
theorem dX4_fate_97 : decode cX4_fate 97 = .ok (.aload_n 0, 1) := by decide +kernel
theorem dX4_fate_98 : decode cX4_fate 98 = .ok (.getfield 7, 3) := by decide +kernel
theorem dX4_fate_101 : decode cX4_fate 101 = .ok (.sipush 1201, 3) := by decide +kernel
theorem dX4_fate_104 : decode cX4_fate 104 = .ok (.iaload, 1) := by decide +kernel
theorem dX4_fate_105 : decode cX4_fate 105 = .ok (.istore_n 2, 1) := by decide +kernel
theorem dX4_fate_106 : decode cX4_fate 106 = .ok (.aload_n 0, 1) := by decide +kernel
theorem dX4_fate_107 : decode cX4_fate 107 = .ok (.invokevirtual 125, 3) := by decide +kernel
theorem dX4_fate_110 : decode cX4_fate 110 = .ok (.iload_n 2, 1) := by decide +kernel
theorem dX4_fate_111 : decode cX4_fate 111 = .ok (.ireturn, 1) := by decide +kernel
set_option maxRecDepth 20000 in
theorem ggX4_append_X4_within : GoodIn wsX4_append wsX4_within := goodIn_r _ [6] (by decide +kernel) (by decide +kernel)
set_option maxRecDepth 20000 in
theorem gX4_append_X4_within : GoodIn wsX4_append (va_wsS RX4 40 yX4_within wsX4_within) := goodIn_app (goodIn_of _ (by decide +kernel)) ggX4_append_X4_within
set_option maxRecDepth 20000 in
theorem ggX4_append_X4_refused : GoodIn wsX4_append wsX4_refused := goodIn_r _ [10, 11, 12, 13, 14, 15, 16, 17, 18, 19] (by decide +kernel) (by decide +kernel)
set_option maxRecDepth 20000 in
theorem gX4_append_X4_refused : GoodIn wsX4_append (wsV RX4 29 RX4 yX4_refused wsX4_refused) := goodIn_app (goodIn_of _ (by decide +kernel)) ggX4_append_X4_refused
theorem dX4_append_0 : decode cX4_append 0 = .ok (.aload_n 0, 1) := by decide +kernel
theorem dX4_append_1 : decode cX4_append 1 = .ok (.iload_n 1, 1) := by decide +kernel
theorem dX4_append_2 : decode cX4_append 2 = .ok (.iconst 0, 1) := by decide +kernel
theorem dX4_append_3 : decode cX4_append 3 = .ok (.bipush 127, 2) := by decide +kernel
theorem dX4_append_5 : decode cX4_append 5 = .ok (.invokestatic 40, 3) := by decide +kernel
theorem dX4_append_8 : decode cX4_append 8 = .ok (.ifCond .ne 7, 3) := by decide +kernel
theorem dX4_append_11 : decode cX4_append 11 = .ok (.iconst 1, 1) := by decide +kernel
theorem dX4_append_12 : decode cX4_append 12 = .ok (.goto 17, 3) := by decide +kernel
theorem dX4_append_15 : decode cX4_append 15 = .ok (.aload_n 0, 1) := by decide +kernel
theorem dX4_append_16 : decode cX4_append 16 = .ok (.getfield 128, 3) := by decide +kernel
theorem dX4_append_19 : decode cX4_append 19 = .ok (.bipush 80, 2) := by decide +kernel
theorem dX4_append_21 : decode cX4_append 21 = .ok (.if_icmp .ne 7, 3) := by decide +kernel
theorem dX4_append_24 : decode cX4_append 24 = .ok (.iconst 2, 1) := by decide +kernel
theorem dX4_append_25 : decode cX4_append 25 = .ok (.goto 4, 3) := by decide +kernel
theorem dX4_append_28 : decode cX4_append 28 = .ok (.iconst 0, 1) := by decide +kernel
theorem dX4_append_29 : decode cX4_append 29 = .ok (.invokevirtual 29, 3) := by decide +kernel
theorem dX4_append_32 : decode cX4_append 32 = .ok (.ifCond .eq 5, 3) := by decide +kernel
theorem dX4_append_35 : decode cX4_append 35 = .ok (.iconst 0, 1) := by decide +kernel
theorem dX4_append_36 : decode cX4_append 36 = .ok (.ireturn, 1) := by decide +kernel
theorem dX4_append_37 : decode cX4_append 37 = .ok (.aload_n 0, 1) := by decide +kernel
theorem dX4_append_38 : decode cX4_append 38 = .ok (.getfield 19, 3) := by decide +kernel
theorem dX4_append_41 : decode cX4_append 41 = .ok (.aload_n 0, 1) := by decide +kernel
theorem dX4_append_42 : decode cX4_append 42 = .ok (.getfield 128, 3) := by decide +kernel
theorem dX4_append_45 : decode cX4_append 45 = .ok (.iload_n 1, 1) := by decide +kernel
theorem dX4_append_46 : decode cX4_append 46 = .ok (.iastore, 1) := by decide +kernel
theorem dX4_append_47 : decode cX4_append 47 = .ok (.aload_n 0, 1) := by decide +kernel
theorem dX4_append_48 : decode cX4_append 48 = .ok (.dup, 1) := by decide +kernel
theorem dX4_append_49 : decode cX4_append 49 = .ok (.getfield 128, 3) := by decide +kernel
theorem dX4_append_52 : decode cX4_append 52 = .ok (.iconst 1, 1) := by decide +kernel
theorem dX4_append_53 : decode cX4_append 53 = .ok (.iadd, 1) := by decide +kernel
theorem dX4_append_54 : decode cX4_append 54 = .ok (.putfield 128, 3) := by decide +kernel
theorem dX4_append_57 : decode cX4_append 57 = .ok (.aload_n 0, 1) := by decide +kernel
theorem dX4_append_58 : decode cX4_append 58 = .ok (.getfield 128, 3) := by decide +kernel
theorem dX4_append_61 : decode cX4_append 61 = .ok (.ireturn, 1) := by decide +kernel
theorem dX4_clearText_0 : decode cX4_clearText 0 = .ok (.aload_n 0, 1) := by decide +kernel
theorem dX4_clearText_1 : decode cX4_clearText 1 = .ok (.iconst 0, 1) := by decide +kernel
theorem dX4_clearText_2 : decode cX4_clearText 2 = .ok (.putfield 22, 3) := by decide +kernel
theorem dX4_clearText_5 : decode cX4_clearText 5 = .ok (.aload_n 0, 1) := by decide +kernel
theorem dX4_clearText_6 : decode cX4_clearText 6 = .ok (.getfield 128, 3) := by decide +kernel
theorem dX4_clearText_9 : decode cX4_clearText 9 = .ok (.istore_n 1, 1) := by decide +kernel
theorem dX4_clearText_10 : decode cX4_clearText 10 = .ok (.aload_n 0, 1) := by decide +kernel
theorem dX4_clearText_11 : decode cX4_clearText 11 = .ok (.iconst 0, 1) := by decide +kernel
theorem dX4_clearText_12 : decode cX4_clearText 12 = .ok (.putfield 128, 3) := by decide +kernel
theorem dX4_clearText_15 : decode cX4_clearText 15 = .ok (.iload_n 1, 1) := by decide +kernel
theorem dX4_clearText_16 : decode cX4_clearText 16 = .ok (.ireturn, 1) := by decide +kernel
set_option maxRecDepth 20000 in
theorem ggX4_does_X4_runs : GoodIn wsX4_does wsX4_runs := goodIn_r _ [5, 6, 7, 8, 9, 4, 10, 11, 12, 13, 14, 15, 16, 17, 18, 19, 20, 21, 22, 23, 24, 25, 26, 27, 28, 29, 30, 31, 32, 33, 34, 35, 36, 37, 38, 39, 40, 41, 42, 43, 44, 45, 46, 47, 48, 49, 50, 51, 52, 53, 54, 55, 56, 57, 58, 59, 60, 61, 62, 63, 64, 65, 66, 67, 68, 69, 70, 71, 72, 73, 74, 75, 76, 88, 89, 90, 91, 92, 93, 94, 95] (by decide +kernel) (by decide +kernel)
set_option maxRecDepth 20000 in
theorem gX4_does_X4_runs : GoodIn wsX4_does (wsV RX4 113 RX4 yX4_runs wsX4_runs) := goodIn_app (goodIn_of _ (by decide +kernel)) ggX4_does_X4_runs
set_option maxRecDepth 20000 in
theorem ggX4_does_X4_barFeed : GoodIn wsX4_does wsX4_barFeed := goodIn_r _ [80, 6, 81, 82, 4, 83, 46, 47, 48, 23, 24, 25, 88, 89, 90, 91, 92, 93, 94, 95] (by decide +kernel) (by decide +kernel)
set_option maxRecDepth 20000 in
theorem gX4_does_X4_barFeed : GoodIn wsX4_does (wsV RX4 55 RX4 yX4_barFeed wsX4_barFeed) := goodIn_app (goodIn_of _ (by decide +kernel)) ggX4_does_X4_barFeed
set_option maxRecDepth 20000 in
theorem ggX4_does_X4_feeds : GoodIn wsX4_does wsX4_feeds := goodIn_r _ [87, 6, 26, 27, 28, 4, 29, 46, 47, 48, 23, 24, 25, 88, 89, 90, 91, 92, 93, 94, 95] (by decide +kernel) (by decide +kernel)
set_option maxRecDepth 20000 in
theorem gX4_does_X4_feeds : GoodIn wsX4_does (wsV RX4 59 RX4 yX4_feeds wsX4_feeds) := goodIn_app (goodIn_of _ (by decide +kernel)) ggX4_does_X4_feeds
theorem dX4_does_0 : decode cX4_does 0 = .ok (.iload_n 1, 1) := by decide +kernel
theorem dX4_does_1 : decode cX4_does 1 = .ok (.bipush 46, 2) := by decide +kernel
theorem dX4_does_3 : decode cX4_does 3 = .ok (.if_icmp .eq 9, 3) := by decide +kernel
theorem dX4_does_6 : decode cX4_does 6 = .ok (.iload_n 1, 1) := by decide +kernel
theorem dX4_does_7 : decode cX4_does 7 = .ok (.bipush 58, 2) := by decide +kernel
theorem dX4_does_9 : decode cX4_does 9 = .ok (.if_icmp .ne 28, 3) := by decide +kernel
theorem dX4_does_12 : decode cX4_does 12 = .ok (.aload_n 0, 1) := by decide +kernel
theorem dX4_does_13 : decode cX4_does 13 = .ok (.iload_n 1, 1) := by decide +kernel
theorem dX4_does_14 : decode cX4_does 14 = .ok (.bipush 46, 2) := by decide +kernel
theorem dX4_does_16 : decode cX4_does 16 = .ok (.if_icmp .ne 7, 3) := by decide +kernel
theorem dX4_does_19 : decode cX4_does 19 = .ok (.iconst 1, 1) := by decide +kernel
theorem dX4_does_20 : decode cX4_does 20 = .ok (.goto 5, 3) := by decide +kernel
theorem dX4_does_23 : decode cX4_does 23 = .ok (.bipush 10, 2) := by decide +kernel
theorem dX4_does_25 : decode cX4_does 25 = .ok (.invokevirtual 113, 3) := by decide +kernel
theorem dX4_does_28 : decode cX4_does 28 = .ok (.ifCond .lt 7, 3) := by decide +kernel
theorem dX4_does_31 : decode cX4_does 31 = .ok (.iconst 1, 1) := by decide +kernel
theorem dX4_does_32 : decode cX4_does 32 = .ok (.goto 4, 3) := by decide +kernel
theorem dX4_does_35 : decode cX4_does 35 = .ok (.iconst 0, 1) := by decide +kernel
theorem dX4_does_36 : decode cX4_does 36 = .ok (.ireturn, 1) := by decide +kernel
theorem dX4_does_37 : decode cX4_does 37 = .ok (.aload_n 0, 1) := by decide +kernel
theorem dX4_does_38 : decode cX4_does 38 = .ok (.iload_n 1, 1) := by decide +kernel
theorem dX4_does_39 : decode cX4_does 39 = .ok (.bipush 48, 2) := by decide +kernel
theorem dX4_does_41 : decode cX4_does 41 = .ok (.isub, 1) := by decide +kernel
theorem dX4_does_42 : decode cX4_does 42 = .ok (.invokevirtual 55, 3) := by decide +kernel
theorem dX4_does_45 : decode cX4_does 45 = .ok (.ifCond .ne 18, 3) := by decide +kernel
theorem dX4_does_48 : decode cX4_does 48 = .ok (.aload_n 0, 1) := by decide +kernel
theorem dX4_does_49 : decode cX4_does 49 = .ok (.iload_n 1, 1) := by decide +kernel
theorem dX4_does_50 : decode cX4_does 50 = .ok (.bipush 48, 2) := by decide +kernel
theorem dX4_does_52 : decode cX4_does 52 = .ok (.isub, 1) := by decide +kernel
theorem dX4_does_53 : decode cX4_does 53 = .ok (.invokevirtual 59, 3) := by decide +kernel
theorem dX4_does_56 : decode cX4_does 56 = .ok (.ifCond .lt 7, 3) := by decide +kernel
theorem dX4_does_59 : decode cX4_does 59 = .ok (.iconst 1, 1) := by decide +kernel
theorem dX4_does_60 : decode cX4_does 60 = .ok (.goto 4, 3) := by decide +kernel
theorem dX4_does_63 : decode cX4_does 63 = .ok (.iconst 0, 1) := by decide +kernel
theorem dX4_does_64 : decode cX4_does 64 = .ok (.ireturn, 1) := by decide +kernel
set_option maxRecDepth 20000 in
theorem ggX4_carryOut_X4_within : GoodIn wsX4_carryOut wsX4_within := goodIn_r _ [9] (by decide +kernel) (by decide +kernel)
set_option maxRecDepth 20000 in
theorem gX4_carryOut_X4_within : GoodIn wsX4_carryOut (va_wsS RX4 40 yX4_within wsX4_within) := goodIn_app (goodIn_of _ (by decide +kernel)) ggX4_carryOut_X4_within
set_option maxRecDepth 20000 in
theorem ggX4_carryOut_X4_laysAside : GoodIn wsX4_carryOut wsX4_laysAside := goodIn_r _ [13, 5, 4, 110, 111, 112, 113, 114, 115, 116, 117] (by decide +kernel) (by decide +kernel)
set_option maxRecDepth 20000 in
theorem gX4_carryOut_X4_laysAside : GoodIn wsX4_carryOut (wsV RX4 122 RX4 yX4_laysAside wsX4_laysAside) := goodIn_app (goodIn_of _ (by decide +kernel)) ggX4_carryOut_X4_laysAside
set_option maxRecDepth 20000 in
theorem ggX4_carryOut_X4_does : GoodIn wsX4_carryOut wsX4_does := goodIn_r _ [17, 18, 19, 20, 8, 21, 4, 22, 23, 24, 25, 26, 27, 28, 29, 30, 31, 32, 33, 34, 35, 36, 37, 38, 39, 40, 41, 42, 43, 44, 45, 46, 47, 48, 49, 50, 51, 52, 53, 54, 55, 56, 57, 58, 59, 60, 61, 62, 63, 64, 65, 66, 67, 68, 69, 70, 71, 72, 73, 74, 75, 76, 77, 78, 79, 80, 81, 82, 83, 84, 85, 86, 87, 88, 89, 90, 91, 92, 93, 94, 95, 6, 7, 9, 96, 97, 98, 99, 110, 111, 112, 113, 114, 115, 116, 117] (by decide +kernel) (by decide +kernel)
set_option maxRecDepth 20000 in
theorem gX4_carryOut_X4_does : GoodIn wsX4_carryOut (wsV RX4 131 RX4 yX4_does wsX4_does) := goodIn_app (goodIn_of _ (by decide +kernel)) ggX4_carryOut_X4_does
set_option maxRecDepth 20000 in
theorem ggX4_carryOut_X4_takesBack : GoodIn wsX4_carryOut wsX4_takesBack := goodIn_r _ [103, 4, 5, 110, 111, 112, 113, 114, 115, 116, 117] (by decide +kernel) (by decide +kernel)
set_option maxRecDepth 20000 in
theorem gX4_carryOut_X4_takesBack : GoodIn wsX4_carryOut (wsV RX4 125 RX4 yX4_takesBack wsX4_takesBack) := goodIn_app (goodIn_of _ (by decide +kernel)) ggX4_carryOut_X4_takesBack
set_option maxRecDepth 20000 in
theorem ggX4_carryOut_X4_saves : GoodIn wsX4_carryOut wsX4_saves := goodIn_r _ [107, 108, 109, 4, 110, 111, 112, 113, 114, 115, 116, 117] (by decide +kernel) (by decide +kernel)
set_option maxRecDepth 20000 in
theorem gX4_carryOut_X4_saves : GoodIn wsX4_carryOut (wsV RX4 44 RX4 yX4_saves wsX4_saves) := goodIn_app (goodIn_of _ (by decide +kernel)) ggX4_carryOut_X4_saves
theorem dX4_carryOut_0 : decode cX4_carryOut 0 = .ok (.aload_n 0, 1) := by decide +kernel
theorem dX4_carryOut_1 : decode cX4_carryOut 1 = .ok (.iconst 0, 1) := by decide +kernel
theorem dX4_carryOut_2 : decode cX4_carryOut 2 = .ok (.putfield 22, 3) := by decide +kernel
theorem dX4_carryOut_5 : decode cX4_carryOut 5 = .ok (.iconst 0, 1) := by decide +kernel
theorem dX4_carryOut_6 : decode cX4_carryOut 6 = .ok (.istore_n 1, 1) := by decide +kernel
theorem dX4_carryOut_7 : decode cX4_carryOut 7 = .ok (.iload_n 1, 1) := by decide +kernel
theorem dX4_carryOut_8 : decode cX4_carryOut 8 = .ok (.aload_n 0, 1) := by decide +kernel
theorem dX4_carryOut_9 : decode cX4_carryOut 9 = .ok (.getfield 128, 3) := by decide +kernel
theorem dX4_carryOut_12 : decode cX4_carryOut 12 = .ok (.if_icmp .ge 52, 3) := by decide +kernel
theorem dX4_carryOut_15 : decode cX4_carryOut 15 = .ok (.aload_n 0, 1) := by decide +kernel
theorem dX4_carryOut_16 : decode cX4_carryOut 16 = .ok (.getfield 19, 3) := by decide +kernel
theorem dX4_carryOut_19 : decode cX4_carryOut 19 = .ok (.iload_n 1, 1) := by decide +kernel
theorem dX4_carryOut_20 : decode cX4_carryOut 20 = .ok (.iaload, 1) := by decide +kernel
theorem dX4_carryOut_21 : decode cX4_carryOut 21 = .ok (.bipush 48, 2) := by decide +kernel
theorem dX4_carryOut_23 : decode cX4_carryOut 23 = .ok (.bipush 51, 2) := by decide +kernel
theorem dX4_carryOut_25 : decode cX4_carryOut 25 = .ok (.invokestatic 40, 3) := by decide +kernel
theorem dX4_carryOut_28 : decode cX4_carryOut 28 = .ok (.ifCond .ne 30, 3) := by decide +kernel
theorem dX4_carryOut_31 : decode cX4_carryOut 31 = .ok (.aload_n 0, 1) := by decide +kernel
theorem dX4_carryOut_32 : decode cX4_carryOut 32 = .ok (.getfield 19, 3) := by decide +kernel
theorem dX4_carryOut_35 : decode cX4_carryOut 35 = .ok (.iload_n 1, 1) := by decide +kernel
theorem dX4_carryOut_36 : decode cX4_carryOut 36 = .ok (.iaload, 1) := by decide +kernel
theorem dX4_carryOut_37 : decode cX4_carryOut 37 = .ok (.bipush 46, 2) := by decide +kernel
theorem dX4_carryOut_39 : decode cX4_carryOut 39 = .ok (.if_icmp .eq 19, 3) := by decide +kernel
theorem dX4_carryOut_42 : decode cX4_carryOut 42 = .ok (.aload_n 0, 1) := by decide +kernel
theorem dX4_carryOut_43 : decode cX4_carryOut 43 = .ok (.getfield 19, 3) := by decide +kernel
theorem dX4_carryOut_46 : decode cX4_carryOut 46 = .ok (.iload_n 1, 1) := by decide +kernel
theorem dX4_carryOut_47 : decode cX4_carryOut 47 = .ok (.iaload, 1) := by decide +kernel
theorem dX4_carryOut_48 : decode cX4_carryOut 48 = .ok (.bipush 58, 2) := by decide +kernel
theorem dX4_carryOut_50 : decode cX4_carryOut 50 = .ok (.if_icmp .eq 8, 3) := by decide +kernel
theorem dX4_carryOut_53 : decode cX4_carryOut 53 = .ok (.bipush (-10), 2) := by decide +kernel
theorem dX4_carryOut_55 : decode cX4_carryOut 55 = .ok (.iload_n 1, 1) := by decide +kernel
theorem dX4_carryOut_56 : decode cX4_carryOut 56 = .ok (.isub, 1) := by decide +kernel
theorem dX4_carryOut_57 : decode cX4_carryOut 57 = .ok (.ireturn, 1) := by decide +kernel
theorem dX4_carryOut_58 : decode cX4_carryOut 58 = .ok (.iinc 1 1, 3) := by decide +kernel
theorem dX4_carryOut_61 : decode cX4_carryOut 61 = .ok (.goto (-54), 3) := by decide +kernel
theorem dX4_carryOut_64 : decode cX4_carryOut 64 = .ok (.aload_n 0, 1) := by decide +kernel
theorem dX4_carryOut_65 : decode cX4_carryOut 65 = .ok (.invokevirtual 122, 3) := by decide +kernel
theorem dX4_carryOut_68 : decode cX4_carryOut 68 = .ok (.iconst 0, 1) := by decide +kernel
theorem dX4_carryOut_69 : decode cX4_carryOut 69 = .ok (.istore_n 1, 1) := by decide +kernel
theorem dX4_carryOut_70 : decode cX4_carryOut 70 = .ok (.iload_n 1, 1) := by decide +kernel
theorem dX4_carryOut_71 : decode cX4_carryOut 71 = .ok (.aload_n 0, 1) := by decide +kernel
theorem dX4_carryOut_72 : decode cX4_carryOut 72 = .ok (.getfield 128, 3) := by decide +kernel
theorem dX4_carryOut_75 : decode cX4_carryOut 75 = .ok (.if_icmp .ge 32, 3) := by decide +kernel
theorem dX4_carryOut_78 : decode cX4_carryOut 78 = .ok (.aload_n 0, 1) := by decide +kernel
theorem dX4_carryOut_79 : decode cX4_carryOut 79 = .ok (.aload_n 0, 1) := by decide +kernel
theorem dX4_carryOut_80 : decode cX4_carryOut 80 = .ok (.getfield 19, 3) := by decide +kernel
theorem dX4_carryOut_83 : decode cX4_carryOut 83 = .ok (.iload_n 1, 1) := by decide +kernel
theorem dX4_carryOut_84 : decode cX4_carryOut 84 = .ok (.iaload, 1) := by decide +kernel
theorem dX4_carryOut_85 : decode cX4_carryOut 85 = .ok (.invokevirtual 131, 3) := by decide +kernel
theorem dX4_carryOut_88 : decode cX4_carryOut 88 = .ok (.ifCond .ne 13, 3) := by decide +kernel
theorem dX4_carryOut_91 : decode cX4_carryOut 91 = .ok (.aload_n 0, 1) := by decide +kernel
theorem dX4_carryOut_92 : decode cX4_carryOut 92 = .ok (.invokevirtual 125, 3) := by decide +kernel
theorem dX4_carryOut_95 : decode cX4_carryOut 95 = .ok (.sipush (-1000), 3) := by decide +kernel
theorem dX4_carryOut_98 : decode cX4_carryOut 98 = .ok (.iload_n 1, 1) := by decide +kernel
theorem dX4_carryOut_99 : decode cX4_carryOut 99 = .ok (.isub, 1) := by decide +kernel
theorem dX4_carryOut_100 : decode cX4_carryOut 100 = .ok (.ireturn, 1) := by decide +kernel
theorem dX4_carryOut_101 : decode cX4_carryOut 101 = .ok (.iinc 1 1, 3) := by decide +kernel
theorem dX4_carryOut_104 : decode cX4_carryOut 104 = .ok (.goto (-34), 3) := by decide +kernel
theorem dX4_carryOut_107 : decode cX4_carryOut 107 = .ok (.iconst 0, 1) := by decide +kernel
theorem dX4_carryOut_108 : decode cX4_carryOut 108 = .ok (.istore_n 1, 1) := by decide +kernel
theorem dX4_carryOut_109 : decode cX4_carryOut 109 = .ok (.iload_n 1, 1) := by decide +kernel
theorem dX4_carryOut_110 : decode cX4_carryOut 110 = .ok (.sipush 1203, 3) := by decide +kernel
theorem dX4_carryOut_113 : decode cX4_carryOut 113 = .ok (.if_icmp .ge 35, 3) := by decide +kernel
theorem dX4_carryOut_116 : decode cX4_carryOut 116 = .ok (.aload_n 0, 1) := by decide +kernel
theorem dX4_carryOut_117 : decode cX4_carryOut 117 = .ok (.getfield 7, 3) := by decide +kernel
theorem dX4_carryOut_120 : decode cX4_carryOut 120 = .ok (.iload_n 1, 1) := by decide +kernel
theorem dX4_carryOut_121 : decode cX4_carryOut 121 = .ok (.iaload, 1) := by decide +kernel
theorem dX4_carryOut_122 : decode cX4_carryOut 122 = .ok (.istore_n 2, 1) := by decide +kernel
theorem dX4_carryOut_123 : decode cX4_carryOut 123 = .ok (.aload_n 0, 1) := by decide +kernel
theorem dX4_carryOut_124 : decode cX4_carryOut 124 = .ok (.getfield 7, 3) := by decide +kernel
theorem dX4_carryOut_127 : decode cX4_carryOut 127 = .ok (.iload_n 1, 1) := by decide +kernel
theorem dX4_carryOut_128 : decode cX4_carryOut 128 = .ok (.aload_n 0, 1) := by decide +kernel
theorem dX4_carryOut_129 : decode cX4_carryOut 129 = .ok (.getfield 16, 3) := by decide +kernel
theorem dX4_carryOut_132 : decode cX4_carryOut 132 = .ok (.iload_n 1, 1) := by decide +kernel
theorem dX4_carryOut_133 : decode cX4_carryOut 133 = .ok (.iaload, 1) := by decide +kernel
theorem dX4_carryOut_134 : decode cX4_carryOut 134 = .ok (.iastore, 1) := by decide +kernel
theorem dX4_carryOut_135 : decode cX4_carryOut 135 = .ok (.aload_n 0, 1) := by decide +kernel
theorem dX4_carryOut_136 : decode cX4_carryOut 136 = .ok (.getfield 16, 3) := by decide +kernel
theorem dX4_carryOut_139 : decode cX4_carryOut 139 = .ok (.iload_n 1, 1) := by decide +kernel
theorem dX4_carryOut_140 : decode cX4_carryOut 140 = .ok (.iload_n 2, 1) := by decide +kernel
theorem dX4_carryOut_141 : decode cX4_carryOut 141 = .ok (.iastore, 1) := by decide +kernel
theorem dX4_carryOut_142 : decode cX4_carryOut 142 = .ok (.iinc 1 1, 3) := by decide +kernel
theorem dX4_carryOut_145 : decode cX4_carryOut 145 = .ok (.goto (-36), 3) := by decide +kernel
theorem dX4_carryOut_148 : decode cX4_carryOut 148 = .ok (.aload_n 0, 1) := by decide +kernel
theorem dX4_carryOut_149 : decode cX4_carryOut 149 = .ok (.invokevirtual 44, 3) := by decide +kernel
theorem dX4_carryOut_152 : decode cX4_carryOut 152 = .ok (.aload_n 0, 1) := by decide +kernel
theorem dX4_carryOut_153 : decode cX4_carryOut 153 = .ok (.invokevirtual 125, 3) := by decide +kernel
theorem dX4_carryOut_156 : decode cX4_carryOut 156 = .ok (.aload_n 0, 1) := by decide +kernel
theorem dX4_carryOut_157 : decode cX4_carryOut 157 = .ok (.getfield 128, 3) := by decide +kernel
theorem dX4_carryOut_160 : decode cX4_carryOut 160 = .ok (.ireturn, 1) := by decide +kernel
theorem dX4_mix_0 : decode cX4_mix 0 = .ok (.aload_n 0, 1) := by decide +kernel
theorem dX4_mix_1 : decode cX4_mix 1 = .ok (.ldc2_w 134, 3) := by decide +kernel
theorem dX4_mix_4 : decode cX4_mix 4 = .ok (.aload_n 0, 1) := by decide +kernel
theorem dX4_mix_5 : decode cX4_mix 5 = .ok (.getfield 136, 3) := by decide +kernel
theorem dX4_mix_8 : decode cX4_mix 8 = .ok (.lmul, 1) := by decide +kernel
theorem dX4_mix_9 : decode cX4_mix 9 = .ok (.iload_n 1, 1) := by decide +kernel
theorem dX4_mix_10 : decode cX4_mix 10 = .ok (.i2l, 1) := by decide +kernel
theorem dX4_mix_11 : decode cX4_mix 11 = .ok (.ladd, 1) := by decide +kernel
theorem dX4_mix_12 : decode cX4_mix 12 = .ok (.putfield 136, 3) := by decide +kernel
theorem dX4_mix_15 : decode cX4_mix 15 = .ok (.return_, 1) := by decide +kernel
set_option maxRecDepth 20000 in
theorem ggX4_mixAll_X4_mix : GoodIn wsX4_mixAll wsX4_mix := goodIn_r _ [6, 7, 8, 9, 10, 11, 12, 13, 14, 15, 16] (by decide +kernel) (by decide +kernel)
set_option maxRecDepth 20000 in
theorem gX4_mixAll_X4_mix : GoodIn wsX4_mixAll (wsV RX4 140 RX4 yX4_mix wsX4_mix) := goodIn_app (goodIn_of _ (by decide +kernel)) ggX4_mixAll_X4_mix
theorem dX4_mixAll_0 : decode cX4_mixAll 0 = .ok (.iload_n 1, 1) := by decide +kernel
theorem dX4_mixAll_1 : decode cX4_mixAll 1 = .ok (.istore_n 3, 1) := by decide +kernel
theorem dX4_mixAll_2 : decode cX4_mixAll 2 = .ok (.iload_n 3, 1) := by decide +kernel
theorem dX4_mixAll_3 : decode cX4_mixAll 3 = .ok (.iload_n 1, 1) := by decide +kernel
theorem dX4_mixAll_4 : decode cX4_mixAll 4 = .ok (.iload_n 2, 1) := by decide +kernel
theorem dX4_mixAll_5 : decode cX4_mixAll 5 = .ok (.iadd, 1) := by decide +kernel
theorem dX4_mixAll_6 : decode cX4_mixAll 6 = .ok (.if_icmp .ge 19, 3) := by decide +kernel
theorem dX4_mixAll_9 : decode cX4_mixAll 9 = .ok (.aload_n 0, 1) := by decide +kernel
theorem dX4_mixAll_10 : decode cX4_mixAll 10 = .ok (.aload_n 0, 1) := by decide +kernel
theorem dX4_mixAll_11 : decode cX4_mixAll 11 = .ok (.getfield 7, 3) := by decide +kernel
theorem dX4_mixAll_14 : decode cX4_mixAll 14 = .ok (.iload_n 3, 1) := by decide +kernel
theorem dX4_mixAll_15 : decode cX4_mixAll 15 = .ok (.iaload, 1) := by decide +kernel
theorem dX4_mixAll_16 : decode cX4_mixAll 16 = .ok (.invokevirtual 140, 3) := by decide +kernel
theorem dX4_mixAll_19 : decode cX4_mixAll 19 = .ok (.iinc 3 1, 3) := by decide +kernel
theorem dX4_mixAll_22 : decode cX4_mixAll 22 = .ok (.goto (-20), 3) := by decide +kernel
theorem dX4_mixAll_25 : decode cX4_mixAll 25 = .ok (.return_, 1) := by decide +kernel
set_option maxRecDepth 20000 in
theorem ggX4_digest_X4_mix : GoodIn wsX4_digest wsX4_mix := goodIn_r _ [11, 12, 3, 21, 22, 23, 24, 25, 26, 27, 28] (by decide +kernel) (by decide +kernel)
set_option maxRecDepth 20000 in
theorem gX4_digest_X4_mix : GoodIn wsX4_digest (wsV RX4 140 RX4 yX4_mix wsX4_mix) := goodIn_app (goodIn_of _ (by decide +kernel)) ggX4_digest_X4_mix
set_option maxRecDepth 20000 in
theorem ggX4_digest_X4_mixAll : GoodIn wsX4_digest wsX4_mixAll := goodIn_r _ [16, 5, 7, 8, 9, 10, 11, 12, 3, 21, 22, 23, 24, 25, 26, 27, 28] (by decide +kernel) (by decide +kernel)
set_option maxRecDepth 20000 in
theorem gX4_digest_X4_mixAll : GoodIn wsX4_digest (wsV RX4 145 RX4 yX4_mixAll wsX4_mixAll) := goodIn_app (goodIn_of _ (by decide +kernel)) ggX4_digest_X4_mixAll
set_option maxRecDepth 20000 in
theorem ggX4_digest_X4_tellStatus : GoodIn wsX4_digest wsX4_tellStatus := goodIn_r _ [20, 5, 21, 22, 23, 24, 25, 26, 27, 28] (by decide +kernel) (by decide +kernel)
set_option maxRecDepth 20000 in
theorem gX4_digest_X4_tellStatus : GoodIn wsX4_digest (wsV RX4 116 RX4 yX4_tellStatus wsX4_tellStatus) := goodIn_app (goodIn_of _ (by decide +kernel)) ggX4_digest_X4_tellStatus
theorem dX4_digest_0 : decode cX4_digest 0 = .ok (.aload_n 0, 1) := by decide +kernel
theorem dX4_digest_1 : decode cX4_digest 1 = .ok (.iconst 0, 1) := by decide +kernel
theorem dX4_digest_2 : decode cX4_digest 2 = .ok (.putfield 22, 3) := by decide +kernel
theorem dX4_digest_5 : decode cX4_digest 5 = .ok (.aload_n 0, 1) := by decide +kernel
theorem dX4_digest_6 : decode cX4_digest 6 = .ok (.ldc2_w 143, 3) := by decide +kernel
theorem dX4_digest_9 : decode cX4_digest 9 = .ok (.putfield 136, 3) := by decide +kernel
theorem dX4_digest_12 : decode cX4_digest 12 = .ok (.aload_n 0, 1) := by decide +kernel
theorem dX4_digest_13 : decode cX4_digest 13 = .ok (.aload_n 0, 1) := by decide +kernel
theorem dX4_digest_14 : decode cX4_digest 14 = .ok (.getfield 128, 3) := by decide +kernel
theorem dX4_digest_17 : decode cX4_digest 17 = .ok (.invokevirtual 140, 3) := by decide +kernel
theorem dX4_digest_20 : decode cX4_digest 20 = .ok (.aload_n 0, 1) := by decide +kernel
theorem dX4_digest_21 : decode cX4_digest 21 = .ok (.iconst 0, 1) := by decide +kernel
theorem dX4_digest_22 : decode cX4_digest 22 = .ok (.bipush 13, 2) := by decide +kernel
theorem dX4_digest_24 : decode cX4_digest 24 = .ok (.invokevirtual 145, 3) := by decide +kernel
theorem dX4_digest_27 : decode cX4_digest 27 = .ok (.aload_n 0, 1) := by decide +kernel
theorem dX4_digest_28 : decode cX4_digest 28 = .ok (.aload_n 0, 1) := by decide +kernel
theorem dX4_digest_29 : decode cX4_digest 29 = .ok (.getfield 7, 3) := by decide +kernel
theorem dX4_digest_32 : decode cX4_digest 32 = .ok (.bipush 13, 2) := by decide +kernel
theorem dX4_digest_34 : decode cX4_digest 34 = .ok (.iaload, 1) := by decide +kernel
theorem dX4_digest_35 : decode cX4_digest 35 = .ok (.invokevirtual 140, 3) := by decide +kernel
theorem dX4_digest_38 : decode cX4_digest 38 = .ok (.iconst 0, 1) := by decide +kernel
theorem dX4_digest_39 : decode cX4_digest 39 = .ok (.istore_n 1, 1) := by decide +kernel
theorem dX4_digest_40 : decode cX4_digest 40 = .ok (.iload_n 1, 1) := by decide +kernel
theorem dX4_digest_41 : decode cX4_digest 41 = .ok (.bipush 8, 2) := by decide +kernel
theorem dX4_digest_43 : decode cX4_digest 43 = .ok (.if_icmp .ge 18, 3) := by decide +kernel
theorem dX4_digest_46 : decode cX4_digest 46 = .ok (.aload_n 0, 1) := by decide +kernel
theorem dX4_digest_47 : decode cX4_digest 47 = .ok (.aload_n 0, 1) := by decide +kernel
theorem dX4_digest_48 : decode cX4_digest 48 = .ok (.iload_n 1, 1) := by decide +kernel
theorem dX4_digest_49 : decode cX4_digest 49 = .ok (.invokevirtual 116, 3) := by decide +kernel
theorem dX4_digest_52 : decode cX4_digest 52 = .ok (.invokevirtual 140, 3) := by decide +kernel
theorem dX4_digest_55 : decode cX4_digest 55 = .ok (.iinc 1 1, 3) := by decide +kernel
theorem dX4_digest_58 : decode cX4_digest 58 = .ok (.goto (-18), 3) := by decide +kernel
theorem dX4_digest_61 : decode cX4_digest 61 = .ok (.aload_n 0, 1) := by decide +kernel
theorem dX4_digest_62 : decode cX4_digest 62 = .ok (.bipush 17, 2) := by decide +kernel
theorem dX4_digest_64 : decode cX4_digest 64 = .ok (.bipush 18, 2) := by decide +kernel
theorem dX4_digest_66 : decode cX4_digest 66 = .ok (.invokevirtual 145, 3) := by decide +kernel
theorem dX4_digest_69 : decode cX4_digest 69 = .ok (.aload_n 0, 1) := by decide +kernel
theorem dX4_digest_70 : decode cX4_digest 70 = .ok (.bipush 37, 2) := by decide +kernel
theorem dX4_digest_72 : decode cX4_digest 72 = .ok (.iconst 4, 1) := by decide +kernel
theorem dX4_digest_73 : decode cX4_digest 73 = .ok (.aload_n 0, 1) := by decide +kernel
theorem dX4_digest_74 : decode cX4_digest 74 = .ok (.getfield 7, 3) := by decide +kernel
theorem dX4_digest_77 : decode cX4_digest 77 = .ok (.bipush 36, 2) := by decide +kernel
theorem dX4_digest_79 : decode cX4_digest 79 = .ok (.iaload, 1) := by decide +kernel
theorem dX4_digest_80 : decode cX4_digest 80 = .ok (.imul, 1) := by decide +kernel
theorem dX4_digest_81 : decode cX4_digest 81 = .ok (.invokevirtual 145, 3) := by decide +kernel
theorem dX4_digest_84 : decode cX4_digest 84 = .ok (.aload_n 0, 1) := by decide +kernel
theorem dX4_digest_85 : decode cX4_digest 85 = .ok (.bipush 118, 2) := by decide +kernel
theorem dX4_digest_87 : decode cX4_digest 87 = .ok (.bipush 6, 2) := by decide +kernel
theorem dX4_digest_89 : decode cX4_digest 89 = .ok (.aload_n 0, 1) := by decide +kernel
theorem dX4_digest_90 : decode cX4_digest 90 = .ok (.getfield 7, 3) := by decide +kernel
theorem dX4_digest_93 : decode cX4_digest 93 = .ok (.bipush 117, 2) := by decide +kernel
theorem dX4_digest_95 : decode cX4_digest 95 = .ok (.iaload, 1) := by decide +kernel
theorem dX4_digest_96 : decode cX4_digest 96 = .ok (.imul, 1) := by decide +kernel
theorem dX4_digest_97 : decode cX4_digest 97 = .ok (.invokevirtual 145, 3) := by decide +kernel
theorem dX4_digest_100 : decode cX4_digest 100 = .ok (.aload_n 0, 1) := by decide +kernel
theorem dX4_digest_101 : decode cX4_digest 101 = .ok (.aload_n 0, 1) := by decide +kernel
theorem dX4_digest_102 : decode cX4_digest 102 = .ok (.getfield 26, 3) := by decide +kernel
theorem dX4_digest_105 : decode cX4_digest 105 = .ok (.invokevirtual 140, 3) := by decide +kernel
theorem dX4_digest_108 : decode cX4_digest 108 = .ok (.aload_n 0, 1) := by decide +kernel
theorem dX4_digest_109 : decode cX4_digest 109 = .ok (.getfield 136, 3) := by decide +kernel
theorem dX4_digest_112 : decode cX4_digest 112 = .ok (.lreturn, 1) := by decide +kernel
theorem dJ9_abs_0f7a4_0 : decode cJ9_abs_0f7a4 0 = .ok (.iload_n 0, 1) := by decide +kernel
theorem dJ9_abs_0f7a4_1 : decode cJ9_abs_0f7a4 1 = .ok (.ifCond .ge 8, 3) := by decide +kernel
theorem dJ9_abs_0f7a4_4 : decode cJ9_abs_0f7a4 4 = .ok (.iload_n 0, 1) := by decide +kernel
theorem dJ9_abs_0f7a4_5 : decode cJ9_abs_0f7a4 5 = .ok (.ineg, 1) := by decide +kernel
theorem dJ9_abs_0f7a4_6 : decode cJ9_abs_0f7a4 6 = .ok (.goto 4, 3) := by decide +kernel
theorem dJ9_abs_0f7a4_9 : decode cJ9_abs_0f7a4 9 = .ok (.iload_n 0, 1) := by decide +kernel
theorem dJ9_abs_0f7a4_10 : decode cJ9_abs_0f7a4 10 = .ok (.ireturn, 1) := by decide +kernel
theorem dJ9_max_7cf53_0 : decode cJ9_max_7cf53 0 = .ok (.iload_n 0, 1) := by decide +kernel
theorem dJ9_max_7cf53_1 : decode cJ9_max_7cf53 1 = .ok (.iload_n 1, 1) := by decide +kernel
theorem dJ9_max_7cf53_2 : decode cJ9_max_7cf53 2 = .ok (.if_icmp .lt 7, 3) := by decide +kernel
theorem dJ9_max_7cf53_5 : decode cJ9_max_7cf53 5 = .ok (.iload_n 0, 1) := by decide +kernel
theorem dJ9_max_7cf53_6 : decode cJ9_max_7cf53 6 = .ok (.goto 4, 3) := by decide +kernel
theorem dJ9_max_7cf53_9 : decode cJ9_max_7cf53 9 = .ok (.iload_n 1, 1) := by decide +kernel
theorem dJ9_max_7cf53_10 : decode cJ9_max_7cf53 10 = .ok (.ireturn, 1) := by decide +kernel
theorem dJ9_min_7cf53_0 : decode cJ9_min_7cf53 0 = .ok (.iload_n 0, 1) := by decide +kernel
theorem dJ9_min_7cf53_1 : decode cJ9_min_7cf53 1 = .ok (.iload_n 1, 1) := by decide +kernel
theorem dJ9_min_7cf53_2 : decode cJ9_min_7cf53 2 = .ok (.if_icmp .gt 7, 3) := by decide +kernel
theorem dJ9_min_7cf53_5 : decode cJ9_min_7cf53 5 = .ok (.iload_n 0, 1) := by decide +kernel
theorem dJ9_min_7cf53_6 : decode cJ9_min_7cf53 6 = .ok (.goto 4, 3) := by decide +kernel
theorem dJ9_min_7cf53_9 : decode cJ9_min_7cf53 9 = .ok (.iload_n 1, 1) := by decide +kernel
theorem dJ9_min_7cf53_10 : decode cJ9_min_7cf53 10 = .ok (.ireturn, 1) := by decide +kernel
set_option maxRecDepth 20000 in
theorem ggL_setPlaces_X3_setPlaces : GoodIn wsL_setPlaces wsX3_setPlaces := goodIn_ca (goodIn_ca (goodIn_r _ [7, 8, 9, 10, 11, 12, 13, 14, 15, 16, 17, 18, 19, 20, 21, 22, 23, 24, 25, 26, 27, 28, 29, 30, 31, 32, 33, 34, 35, 36, 37, 38, 39, 40, 41, 42, 43, 44, 45, 46, 47, 48, 49, 50, 51, 52, 53, 54, 55, 56, 57, 58, 59, 60, 61, 62, 63, 64, 65, 66, 67, 68, 69, 70, 71, 72, 73, 74, 75, 76, 77, 78, 79, 80, 81, 82, 83, 84, 85, 86, 87, 88, 89, 90, 91, 92, 93, 94, 95, 96, 97, 98, 99, 100, 101, 102, 103, 104, 105, 106, 107, 108] (by decide +kernel) (by decide +kernel)) (goodIn_sub (fun _ h => List.mem_cons_of_mem _ (List.mem_append_left _ (List.mem_append_right _ h))) (by decide +kernel))) (goodIn_sub (fun _ h => List.mem_cons_of_mem _ (List.mem_append_right _ h)) (by decide +kernel))
set_option maxRecDepth 20000 in
theorem gL_setPlaces_X3_setPlaces : GoodIn wsL_setPlaces (wsV RL 7 RX3 yX3_setPlaces wsX3_setPlaces) := goodIn_app (goodIn_of _ (by decide +kernel)) ggL_setPlaces_X3_setPlaces
theorem dL_setPlaces_0 : decode cL_setPlaces 0 = .ok (.aload 6, 2) := by decide +kernel
theorem dL_setPlaces_2 : decode cL_setPlaces 2 = .ok (.iconst 0, 1) := by decide +kernel
theorem dL_setPlaces_3 : decode cL_setPlaces 3 = .ok (.aload_n 0, 1) := by decide +kernel
theorem dL_setPlaces_4 : decode cL_setPlaces 4 = .ok (.iload_n 1, 1) := by decide +kernel
theorem dL_setPlaces_5 : decode cL_setPlaces 5 = .ok (.iload_n 2, 1) := by decide +kernel
theorem dL_setPlaces_6 : decode cL_setPlaces 6 = .ok (.iload_n 3, 1) := by decide +kernel
theorem dL_setPlaces_7 : decode cL_setPlaces 7 = .ok (.iload 4, 2) := by decide +kernel
theorem dL_setPlaces_9 : decode cL_setPlaces 9 = .ok (.iload 5, 2) := by decide +kernel
theorem dL_setPlaces_11 : decode cL_setPlaces 11 = .ok (.invokevirtual 7, 3) := by decide +kernel
theorem dL_setPlaces_14 : decode cL_setPlaces 14 = .ok (.i2l, 1) := by decide +kernel
theorem dL_setPlaces_15 : decode cL_setPlaces 15 = .ok (.lastore, 1) := by decide +kernel
theorem dL_setPlaces_16 : decode cL_setPlaces 16 = .ok (.goto 11, 3) := by decide +kernel
theorem dL_setPlaces_19 : decode cL_setPlaces 19 = .ok (.astore 7, 2) := by decide +kernel
theorem dL_setPlaces_21 : decode cL_setPlaces 21 = .ok (.iconst 1, 1) := by decide +kernel
theorem dL_setPlaces_22 : decode cL_setPlaces 22 = .ok (.ireturn, 1) := by decide +kernel
theorem dL_setPlaces_23 : decode cL_setPlaces 23 = .ok (.astore 7, 2) := by decide +kernel
theorem dL_setPlaces_25 : decode cL_setPlaces 25 = .ok (.iconst 2, 1) := by decide +kernel
theorem dL_setPlaces_26 : decode cL_setPlaces 26 = .ok (.ireturn, 1) := by decide +kernel
theorem dL_setPlaces_27 : decode cL_setPlaces 27 = .ok (.iconst 0, 1) := by decide +kernel
theorem dL_setPlaces_28 : decode cL_setPlaces 28 = .ok (.ireturn, 1) := by decide +kernel
set_option maxRecDepth 20000 in
theorem ggL_set_X3_set : GoodIn wsL_set wsX3_set := goodIn_ca (goodIn_r _ [6, 7, 8, 9, 10, 11, 12, 5, 13, 14, 15, 16, 17, 18, 19, 20, 21, 22, 23, 24, 25, 26, 27, 28, 29, 30, 31, 32, 33, 34, 35, 36, 37, 38, 39, 40, 41, 42, 43, 44, 45, 46, 47, 48, 49, 50, 51, 52, 53, 54, 55, 56, 57, 58, 59, 60, 61, 62, 63, 64, 65, 66, 67, 68, 69, 70, 71, 72, 73, 74, 75, 76, 77, 78, 79, 80, 81, 82, 83, 84, 85, 86, 87, 88, 89, 90, 91, 92, 93, 94, 95, 96, 97, 98, 99, 100, 101, 102, 103, 104, 105, 106, 107, 108, 109] (by decide +kernel) (by decide +kernel)) (goodIn_sub (fun _ h => List.mem_cons_of_mem _ (List.mem_append_right _ h)) (by decide +kernel))
set_option maxRecDepth 20000 in
theorem gL_set_X3_set : GoodIn wsL_set (wsV RL 17 RX3 yX3_set wsX3_set) := goodIn_app (goodIn_of _ (by decide +kernel)) ggL_set_X3_set
theorem dL_set_0 : decode cL_set 0 = .ok (.aload_n 3, 1) := by decide +kernel
theorem dL_set_1 : decode cL_set 1 = .ok (.iconst 0, 1) := by decide +kernel
theorem dL_set_2 : decode cL_set 2 = .ok (.aload_n 0, 1) := by decide +kernel
theorem dL_set_3 : decode cL_set 3 = .ok (.iload_n 1, 1) := by decide +kernel
theorem dL_set_4 : decode cL_set 4 = .ok (.iload_n 2, 1) := by decide +kernel
theorem dL_set_5 : decode cL_set 5 = .ok (.invokevirtual 17, 3) := by decide +kernel
theorem dL_set_8 : decode cL_set 8 = .ok (.i2l, 1) := by decide +kernel
theorem dL_set_9 : decode cL_set 9 = .ok (.lastore, 1) := by decide +kernel
theorem dL_set_10 : decode cL_set 10 = .ok (.goto 7, 3) := by decide +kernel
theorem dL_set_13 : decode cL_set 13 = .ok (.astore 4, 2) := by decide +kernel
theorem dL_set_15 : decode cL_set 15 = .ok (.iconst 1, 1) := by decide +kernel
theorem dL_set_16 : decode cL_set 16 = .ok (.ireturn, 1) := by decide +kernel
theorem dL_set_17 : decode cL_set 17 = .ok (.iconst 0, 1) := by decide +kernel
theorem dL_set_18 : decode cL_set 18 = .ok (.ireturn, 1) := by decide +kernel
set_option maxRecDepth 20000 in
theorem ggL_value_X3_value : GoodIn wsL_value wsX3_value := goodIn_ca (goodIn_r _ [6, 7, 8, 9, 10, 11, 12, 13, 14, 15, 16, 17, 18, 19, 20, 21, 22, 23, 24, 25, 26, 27, 28, 29, 30, 31, 32, 33, 34, 35, 36, 37, 38, 39, 40, 41, 42, 43, 44, 45, 46] (by decide +kernel) (by decide +kernel)) (goodIn_sub (fun _ h => List.mem_cons_of_mem _ (List.mem_append_right _ h)) (by decide +kernel))
set_option maxRecDepth 20000 in
theorem gL_value_X3_value : GoodIn wsL_value (wsV RL 21 RX3 yX3_value wsX3_value) := goodIn_app (goodIn_of _ (by decide +kernel)) ggL_value_X3_value
theorem dL_value_0 : decode cL_value 0 = .ok (.aload_n 2, 1) := by decide +kernel
theorem dL_value_1 : decode cL_value 1 = .ok (.iconst 0, 1) := by decide +kernel
theorem dL_value_2 : decode cL_value 2 = .ok (.aload_n 0, 1) := by decide +kernel
theorem dL_value_3 : decode cL_value 3 = .ok (.iload_n 1, 1) := by decide +kernel
theorem dL_value_4 : decode cL_value 4 = .ok (.invokevirtual 21, 3) := by decide +kernel
theorem dL_value_7 : decode cL_value 7 = .ok (.i2l, 1) := by decide +kernel
theorem dL_value_8 : decode cL_value 8 = .ok (.lastore, 1) := by decide +kernel
theorem dL_value_9 : decode cL_value 9 = .ok (.goto 6, 3) := by decide +kernel
theorem dL_value_12 : decode cL_value 12 = .ok (.astore_n 3, 1) := by decide +kernel
theorem dL_value_13 : decode cL_value 13 = .ok (.iconst 1, 1) := by decide +kernel
theorem dL_value_14 : decode cL_value 14 = .ok (.ireturn, 1) := by decide +kernel
theorem dL_value_15 : decode cL_value 15 = .ok (.iconst 0, 1) := by decide +kernel
theorem dL_value_16 : decode cL_value 16 = .ok (.ireturn, 1) := by decide +kernel
set_option maxRecDepth 20000 in
theorem ggL_start_X3_start : GoodIn wsL_start wsX3_start := goodIn_ca (goodIn_r _ [6, 7, 8, 9, 10, 11, 12, 13, 14, 15, 16, 17, 18, 19, 20, 21, 22, 23, 24, 25, 26, 27, 28, 29, 30, 31, 32, 33, 34, 35, 36, 37, 38, 39, 40, 41, 42, 43, 44, 45, 46, 47, 48, 49, 50, 51, 52, 53, 54, 55, 56, 57, 58, 59, 60, 61, 62, 63, 64, 65, 66, 67, 68, 69, 70, 71, 72, 73, 74, 75, 76, 77, 78, 79, 80, 81, 82, 83, 84, 85, 86, 87, 88, 89, 90, 91, 92, 93, 94, 95, 96, 97] (by decide +kernel) (by decide +kernel)) (goodIn_sub (fun _ h => List.mem_cons_of_mem _ (List.mem_append_right _ h)) (by decide +kernel))
set_option maxRecDepth 20000 in
theorem gL_start_X3_start : GoodIn wsL_start (wsV RL 25 RX3 yX3_start wsX3_start) := goodIn_app (goodIn_of _ (by decide +kernel)) ggL_start_X3_start
theorem dL_start_0 : decode cL_start 0 = .ok (.aload_n 1, 1) := by decide +kernel
theorem dL_start_1 : decode cL_start 1 = .ok (.iconst 0, 1) := by decide +kernel
theorem dL_start_2 : decode cL_start 2 = .ok (.aload_n 0, 1) := by decide +kernel
theorem dL_start_3 : decode cL_start 3 = .ok (.invokevirtual 25, 3) := by decide +kernel
theorem dL_start_6 : decode cL_start 6 = .ok (.i2l, 1) := by decide +kernel
theorem dL_start_7 : decode cL_start 7 = .ok (.lastore, 1) := by decide +kernel
theorem dL_start_8 : decode cL_start 8 = .ok (.goto 6, 3) := by decide +kernel
theorem dL_start_11 : decode cL_start 11 = .ok (.astore_n 2, 1) := by decide +kernel
theorem dL_start_12 : decode cL_start 12 = .ok (.iconst 1, 1) := by decide +kernel
theorem dL_start_13 : decode cL_start 13 = .ok (.ireturn, 1) := by decide +kernel
theorem dL_start_14 : decode cL_start 14 = .ok (.iconst 0, 1) := by decide +kernel
theorem dL_start_15 : decode cL_start 15 = .ok (.ireturn, 1) := by decide +kernel
set_option maxRecDepth 20000 in
theorem ggL_stop_X3_stop : GoodIn wsL_stop wsX3_stop := goodIn_ca (goodIn_r _ [6, 7, 8, 9, 10, 11, 12, 13, 14, 15, 16, 17, 18, 19, 20, 21, 22, 23, 24, 25, 26, 27, 28, 29, 30, 31, 32, 33, 34, 35, 36, 37, 38, 39, 40, 41, 42, 43, 44, 45, 46, 47, 48, 49, 50, 51, 52, 53, 54, 55, 56, 57, 58, 59, 60, 61, 62, 63, 64, 65, 66, 67, 68, 69, 70, 71, 72, 73, 74, 75, 76, 77, 78, 79, 80, 81, 82, 83, 84, 85, 86, 87, 88, 89, 90, 91, 92, 93, 94, 95, 96, 97] (by decide +kernel) (by decide +kernel)) (goodIn_sub (fun _ h => List.mem_cons_of_mem _ (List.mem_append_right _ h)) (by decide +kernel))
set_option maxRecDepth 20000 in
theorem gL_stop_X3_stop : GoodIn wsL_stop (wsV RL 29 RX3 yX3_stop wsX3_stop) := goodIn_app (goodIn_of _ (by decide +kernel)) ggL_stop_X3_stop
theorem dL_stop_0 : decode cL_stop 0 = .ok (.aload_n 1, 1) := by decide +kernel
theorem dL_stop_1 : decode cL_stop 1 = .ok (.iconst 0, 1) := by decide +kernel
theorem dL_stop_2 : decode cL_stop 2 = .ok (.aload_n 0, 1) := by decide +kernel
theorem dL_stop_3 : decode cL_stop 3 = .ok (.invokevirtual 29, 3) := by decide +kernel
theorem dL_stop_6 : decode cL_stop 6 = .ok (.i2l, 1) := by decide +kernel
theorem dL_stop_7 : decode cL_stop 7 = .ok (.lastore, 1) := by decide +kernel
theorem dL_stop_8 : decode cL_stop 8 = .ok (.goto 6, 3) := by decide +kernel
theorem dL_stop_11 : decode cL_stop 11 = .ok (.astore_n 2, 1) := by decide +kernel
theorem dL_stop_12 : decode cL_stop 12 = .ok (.iconst 1, 1) := by decide +kernel
theorem dL_stop_13 : decode cL_stop 13 = .ok (.ireturn, 1) := by decide +kernel
theorem dL_stop_14 : decode cL_stop 14 = .ok (.iconst 0, 1) := by decide +kernel
theorem dL_stop_15 : decode cL_stop 15 = .ok (.ireturn, 1) := by decide +kernel
set_option maxRecDepth 20000 in
theorem ggL_reset_X3_reset : GoodIn wsL_reset wsX3_reset := goodIn_ca (goodIn_r _ [6, 7, 8, 9, 10, 11, 12, 13, 14, 15, 16, 17, 18, 19, 20, 21, 22, 23, 24, 25, 26, 27, 28, 29, 30, 31, 32, 33, 34, 35, 36, 37, 38, 39, 40, 41, 42, 43, 44, 45, 46, 47, 48, 49, 50, 51, 52, 53, 54, 55, 56, 57, 58, 59, 60, 61, 62, 63, 64, 65, 66, 67, 68, 69, 70, 71, 72, 73, 74, 75, 76, 77, 78, 79, 80, 81, 82, 83, 84, 85, 86, 87, 88, 89, 90, 91, 92, 93] (by decide +kernel) (by decide +kernel)) (goodIn_sub (fun _ h => List.mem_cons_of_mem _ (List.mem_append_right _ h)) (by decide +kernel))
set_option maxRecDepth 20000 in
theorem gL_reset_X3_reset : GoodIn wsL_reset (wsV RL 32 RX3 yX3_reset wsX3_reset) := goodIn_app (goodIn_of _ (by decide +kernel)) ggL_reset_X3_reset
theorem dL_reset_0 : decode cL_reset 0 = .ok (.aload_n 1, 1) := by decide +kernel
theorem dL_reset_1 : decode cL_reset 1 = .ok (.iconst 0, 1) := by decide +kernel
theorem dL_reset_2 : decode cL_reset 2 = .ok (.aload_n 0, 1) := by decide +kernel
theorem dL_reset_3 : decode cL_reset 3 = .ok (.invokevirtual 32, 3) := by decide +kernel
theorem dL_reset_6 : decode cL_reset 6 = .ok (.i2l, 1) := by decide +kernel
theorem dL_reset_7 : decode cL_reset 7 = .ok (.lastore, 1) := by decide +kernel
theorem dL_reset_8 : decode cL_reset 8 = .ok (.goto 6, 3) := by decide +kernel
theorem dL_reset_11 : decode cL_reset 11 = .ok (.astore_n 2, 1) := by decide +kernel
theorem dL_reset_12 : decode cL_reset 12 = .ok (.iconst 1, 1) := by decide +kernel
theorem dL_reset_13 : decode cL_reset 13 = .ok (.ireturn, 1) := by decide +kernel
theorem dL_reset_14 : decode cL_reset 14 = .ok (.iconst 0, 1) := by decide +kernel
theorem dL_reset_15 : decode cL_reset 15 = .ok (.ireturn, 1) := by decide +kernel
set_option maxRecDepth 20000 in
theorem ggL_feed_X3_feed : GoodIn wsL_feed wsX3_feed := goodIn_ca (goodIn_ca (goodIn_r _ [7, 8, 9, 10, 11, 12, 13, 14, 15, 16, 17, 18, 19, 20, 21, 22, 23, 24, 25, 26, 27, 28, 29, 30, 31, 32, 33, 34, 35, 36, 37, 38, 39, 40, 41, 42, 43, 44, 45, 46, 47, 48, 49, 50, 51, 52, 53, 54, 55, 56, 57, 58, 59, 60, 61, 62, 63, 64, 65, 66, 67, 68, 69, 70, 71, 72, 73, 74, 75, 76, 77, 78, 79, 80, 81, 82, 83, 84, 85, 86, 87, 88, 89, 90, 91, 92, 93, 94, 95, 96, 97, 98, 99, 100, 101, 102, 103, 104, 105, 106, 107, 108, 109, 110, 111, 112, 113, 114, 115, 116, 117, 118, 119, 120, 121, 122, 123, 124, 125, 126, 127, 128, 129, 130, 131, 132, 133, 134, 135] (by decide +kernel) (by decide +kernel)) (goodIn_sub (fun _ h => List.mem_cons_of_mem _ (List.mem_append_left _ (List.mem_append_right _ h))) (by decide +kernel))) (goodIn_sub (fun _ h => List.mem_cons_of_mem _ (List.mem_append_right _ h)) (by decide +kernel))
set_option maxRecDepth 20000 in
theorem gL_feed_X3_feed : GoodIn wsL_feed (wsV RL 35 RX3 yX3_feed wsX3_feed) := goodIn_app (goodIn_of _ (by decide +kernel)) ggL_feed_X3_feed
theorem dL_feed_0 : decode cL_feed 0 = .ok (.aload_n 2, 1) := by decide +kernel
theorem dL_feed_1 : decode cL_feed 1 = .ok (.iconst 0, 1) := by decide +kernel
theorem dL_feed_2 : decode cL_feed 2 = .ok (.aload_n 0, 1) := by decide +kernel
theorem dL_feed_3 : decode cL_feed 3 = .ok (.iload_n 1, 1) := by decide +kernel
theorem dL_feed_4 : decode cL_feed 4 = .ok (.invokevirtual 35, 3) := by decide +kernel
theorem dL_feed_7 : decode cL_feed 7 = .ok (.i2l, 1) := by decide +kernel
theorem dL_feed_8 : decode cL_feed 8 = .ok (.lastore, 1) := by decide +kernel
theorem dL_feed_9 : decode cL_feed 9 = .ok (.goto 9, 3) := by decide +kernel
theorem dL_feed_12 : decode cL_feed 12 = .ok (.astore_n 3, 1) := by decide +kernel
theorem dL_feed_13 : decode cL_feed 13 = .ok (.iconst 1, 1) := by decide +kernel
theorem dL_feed_14 : decode cL_feed 14 = .ok (.ireturn, 1) := by decide +kernel
theorem dL_feed_15 : decode cL_feed 15 = .ok (.astore_n 3, 1) := by decide +kernel
theorem dL_feed_16 : decode cL_feed 16 = .ok (.iconst 2, 1) := by decide +kernel
theorem dL_feed_17 : decode cL_feed 17 = .ok (.ireturn, 1) := by decide +kernel
theorem dL_feed_18 : decode cL_feed 18 = .ok (.iconst 0, 1) := by decide +kernel
theorem dL_feed_19 : decode cL_feed 19 = .ok (.ireturn, 1) := by decide +kernel
set_option maxRecDepth 20000 in
theorem ggL_slip_X3_slip : GoodIn wsL_slip wsX3_slip := goodIn_ca (goodIn_ca (goodIn_r _ [7, 8, 9, 10, 11, 12, 13, 14, 15, 16, 17, 18, 19, 20, 21, 22, 23, 24, 25, 26, 27, 28, 29, 30, 31, 32, 33, 34, 35, 36, 37, 38, 39, 40, 41, 42, 43, 44, 45, 46, 47, 48, 49, 50, 51, 52, 53, 54, 55, 56, 57, 58, 59, 60, 61, 62, 63, 64, 65, 66, 67, 68, 69, 70, 71, 72, 73, 74, 75, 76, 77, 78, 79, 80, 81, 82, 83, 84, 85, 86, 87, 88, 89, 90, 91, 92, 93, 94, 95, 96, 97, 98, 99, 100, 101, 102, 103, 104, 105, 106, 107, 108, 109, 110, 111, 112, 113, 114] (by decide +kernel) (by decide +kernel)) (goodIn_sub (fun _ h => List.mem_cons_of_mem _ (List.mem_append_left _ (List.mem_append_right _ h))) (by decide +kernel))) (goodIn_sub (fun _ h => List.mem_cons_of_mem _ (List.mem_append_right _ h)) (by decide +kernel))
set_option maxRecDepth 20000 in
theorem gL_slip_X3_slip : GoodIn wsL_slip (wsV RL 38 RX3 yX3_slip wsX3_slip) := goodIn_app (goodIn_of _ (by decide +kernel)) ggL_slip_X3_slip
theorem dL_slip_0 : decode cL_slip 0 = .ok (.aload_n 3, 1) := by decide +kernel
theorem dL_slip_1 : decode cL_slip 1 = .ok (.iconst 0, 1) := by decide +kernel
theorem dL_slip_2 : decode cL_slip 2 = .ok (.aload_n 0, 1) := by decide +kernel
theorem dL_slip_3 : decode cL_slip 3 = .ok (.iload_n 1, 1) := by decide +kernel
theorem dL_slip_4 : decode cL_slip 4 = .ok (.iload_n 2, 1) := by decide +kernel
theorem dL_slip_5 : decode cL_slip 5 = .ok (.invokevirtual 38, 3) := by decide +kernel
theorem dL_slip_8 : decode cL_slip 8 = .ok (.i2l, 1) := by decide +kernel
theorem dL_slip_9 : decode cL_slip 9 = .ok (.lastore, 1) := by decide +kernel
theorem dL_slip_10 : decode cL_slip 10 = .ok (.goto 11, 3) := by decide +kernel
theorem dL_slip_13 : decode cL_slip 13 = .ok (.astore 4, 2) := by decide +kernel
theorem dL_slip_15 : decode cL_slip 15 = .ok (.iconst 1, 1) := by decide +kernel
theorem dL_slip_16 : decode cL_slip 16 = .ok (.ireturn, 1) := by decide +kernel
theorem dL_slip_17 : decode cL_slip 17 = .ok (.astore 4, 2) := by decide +kernel
theorem dL_slip_19 : decode cL_slip 19 = .ok (.iconst 2, 1) := by decide +kernel
theorem dL_slip_20 : decode cL_slip 20 = .ok (.ireturn, 1) := by decide +kernel
theorem dL_slip_21 : decode cL_slip 21 = .ok (.iconst 0, 1) := by decide +kernel
theorem dL_slip_22 : decode cL_slip 22 = .ok (.ireturn, 1) := by decide +kernel
set_option maxRecDepth 20000 in
theorem ggL_take_X3_take : GoodIn wsL_take wsX3_take := goodIn_ca (goodIn_r _ [6, 7, 8, 9, 10, 11, 12, 13, 14, 15, 16, 17, 18, 19, 20, 21, 22, 23, 24, 25, 26, 27, 28, 29, 30, 31, 32, 33, 34, 35, 36, 37, 38, 39, 40, 41, 42, 43, 44, 45, 46, 47, 48, 49, 50, 51, 52, 53, 54, 55, 56, 57, 58, 59, 60, 61, 62, 63, 64, 65, 66, 67, 68, 69, 70, 71, 72, 73, 74, 75, 76, 77, 78, 79, 80, 81, 82, 83, 84, 85, 86, 87, 88, 89, 90, 91, 92, 93, 94, 95, 96, 97, 98, 99, 100, 101, 102, 103, 104, 105, 106, 107, 108, 109, 110, 111] (by decide +kernel) (by decide +kernel)) (goodIn_sub (fun _ h => List.mem_cons_of_mem _ (List.mem_append_right _ h)) (by decide +kernel))
set_option maxRecDepth 20000 in
theorem gL_take_X3_take : GoodIn wsL_take (wsV RL 43 RX3 yX3_take wsX3_take) := goodIn_app (goodIn_of _ (by decide +kernel)) ggL_take_X3_take
theorem dL_take_0 : decode cL_take 0 = .ok (.aload_n 2, 1) := by decide +kernel
theorem dL_take_1 : decode cL_take 1 = .ok (.iconst 0, 1) := by decide +kernel
theorem dL_take_2 : decode cL_take 2 = .ok (.aload_n 0, 1) := by decide +kernel
theorem dL_take_3 : decode cL_take 3 = .ok (.iload_n 1, 1) := by decide +kernel
theorem dL_take_4 : decode cL_take 4 = .ok (.invokevirtual 43, 3) := by decide +kernel
theorem dL_take_7 : decode cL_take 7 = .ok (.i2l, 1) := by decide +kernel
theorem dL_take_8 : decode cL_take 8 = .ok (.lastore, 1) := by decide +kernel
theorem dL_take_9 : decode cL_take 9 = .ok (.goto 6, 3) := by decide +kernel
theorem dL_take_12 : decode cL_take 12 = .ok (.astore_n 3, 1) := by decide +kernel
theorem dL_take_13 : decode cL_take 13 = .ok (.iconst 1, 1) := by decide +kernel
theorem dL_take_14 : decode cL_take 14 = .ok (.ireturn, 1) := by decide +kernel
theorem dL_take_15 : decode cL_take 15 = .ok (.iconst 0, 1) := by decide +kernel
theorem dL_take_16 : decode cL_take 16 = .ok (.ireturn, 1) := by decide +kernel
set_option maxRecDepth 20000 in
theorem ggL_run_X3_run : GoodIn wsL_run wsX3_run := goodIn_ca (goodIn_r _ [6, 7, 8, 9, 10, 11, 12, 13, 14, 15, 16, 17, 18, 19, 20, 21, 22, 23, 24, 25, 26, 27, 28, 29, 30, 31, 32, 33, 34, 35, 36, 37, 38, 39, 40, 41, 42, 43, 44, 45, 46, 47, 48, 49, 50, 51, 52, 53, 54, 55, 56, 57, 58, 59, 60, 61, 62, 63, 64, 65, 66, 67, 68, 69, 70, 71, 72, 73, 74, 75, 76, 77, 78, 79, 80, 81, 82, 83, 84, 85, 86, 87, 88, 89, 90, 91, 92, 93, 94, 95, 96, 97, 98, 99, 100, 101, 102, 103, 104, 105, 106, 107, 108, 109, 110, 111, 112, 113, 114, 115, 116, 117, 118, 119, 120, 121, 122, 123, 124, 125, 126, 127, 128, 129, 130, 131, 132, 133, 134, 135, 136, 137, 138, 139, 140, 141, 142, 143, 144, 145, 146, 147, 148, 149, 150, 151, 152, 153, 154, 155, 156, 157, 158, 159, 160, 161, 162, 163, 164, 165, 166, 167, 168, 169, 170, 171, 172, 173, 174, 175, 176, 177, 178, 179, 180, 181, 182, 183, 184, 185, 186, 187, 188, 189, 190, 191, 192, 193, 194, 195, 196, 197, 198, 199, 200, 201, 202, 203, 204, 205, 206, 207, 208, 209, 210, 211, 212, 213, 214, 215, 216, 217, 218, 219, 220, 221, 222, 223, 224, 225, 226, 227, 228, 229, 230, 231] (by decide +kernel) (by decide +kernel)) (goodIn_sub (fun _ h => List.mem_cons_of_mem _ (List.mem_append_right _ h)) (by decide +kernel))
set_option maxRecDepth 20000 in
theorem gL_run_X3_run : GoodIn wsL_run (wsV RL 46 RX3 yX3_run wsX3_run) := goodIn_app (goodIn_of _ (by decide +kernel)) ggL_run_X3_run
theorem dL_run_0 : decode cL_run 0 = .ok (.aload_n 2, 1) := by decide +kernel
theorem dL_run_1 : decode cL_run 1 = .ok (.iconst 0, 1) := by decide +kernel
theorem dL_run_2 : decode cL_run 2 = .ok (.aload_n 0, 1) := by decide +kernel
theorem dL_run_3 : decode cL_run 3 = .ok (.iload_n 1, 1) := by decide +kernel
theorem dL_run_4 : decode cL_run 4 = .ok (.invokevirtual 46, 3) := by decide +kernel
theorem dL_run_7 : decode cL_run 7 = .ok (.i2l, 1) := by decide +kernel
theorem dL_run_8 : decode cL_run 8 = .ok (.lastore, 1) := by decide +kernel
theorem dL_run_9 : decode cL_run 9 = .ok (.goto 6, 3) := by decide +kernel
theorem dL_run_12 : decode cL_run 12 = .ok (.astore_n 3, 1) := by decide +kernel
theorem dL_run_13 : decode cL_run 13 = .ok (.iconst 1, 1) := by decide +kernel
theorem dL_run_14 : decode cL_run 14 = .ok (.ireturn, 1) := by decide +kernel
theorem dL_run_15 : decode cL_run 15 = .ok (.iconst 0, 1) := by decide +kernel
theorem dL_run_16 : decode cL_run 16 = .ok (.ireturn, 1) := by decide +kernel
set_option maxRecDepth 20000 in
theorem ggL_status_X3_status : GoodIn wsL_status wsX3_status := goodIn_ca (goodIn_r _ [6, 7, 8, 9, 10, 11, 12, 13, 14, 15, 16, 17, 18, 19, 20, 21, 22, 23, 24, 25, 26, 27, 28, 29, 30, 31, 32, 33, 34, 35, 36, 37, 38, 39, 40, 41, 42, 43, 44, 45, 46, 47, 48, 49, 50, 51, 52, 53] (by decide +kernel) (by decide +kernel)) (goodIn_sub (fun _ h => List.mem_cons_of_mem _ (List.mem_append_right _ h)) (by decide +kernel))
set_option maxRecDepth 20000 in
theorem gL_status_X3_status : GoodIn wsL_status (wsV RL 49 RX3 yX3_status wsX3_status) := goodIn_app (goodIn_of _ (by decide +kernel)) ggL_status_X3_status
theorem dL_status_0 : decode cL_status 0 = .ok (.aload_n 2, 1) := by decide +kernel
theorem dL_status_1 : decode cL_status 1 = .ok (.iconst 0, 1) := by decide +kernel
theorem dL_status_2 : decode cL_status 2 = .ok (.aload_n 0, 1) := by decide +kernel
theorem dL_status_3 : decode cL_status 3 = .ok (.iload_n 1, 1) := by decide +kernel
theorem dL_status_4 : decode cL_status 4 = .ok (.invokevirtual 49, 3) := by decide +kernel
theorem dL_status_7 : decode cL_status 7 = .ok (.i2l, 1) := by decide +kernel
theorem dL_status_8 : decode cL_status 8 = .ok (.lastore, 1) := by decide +kernel
theorem dL_status_9 : decode cL_status 9 = .ok (.goto 6, 3) := by decide +kernel
theorem dL_status_12 : decode cL_status 12 = .ok (.astore_n 3, 1) := by decide +kernel
theorem dL_status_13 : decode cL_status 13 = .ok (.iconst 1, 1) := by decide +kernel
theorem dL_status_14 : decode cL_status 14 = .ok (.ireturn, 1) := by decide +kernel
theorem dL_status_15 : decode cL_status 15 = .ok (.iconst 0, 1) := by decide +kernel
theorem dL_status_16 : decode cL_status 16 = .ok (.ireturn, 1) := by decide +kernel
set_option maxRecDepth 20000 in
theorem ggL_item_X3_item : GoodIn wsL_item wsX3_item := goodIn_ca (goodIn_ca (goodIn_r _ [7, 8, 9, 10, 11, 12, 13, 14, 15, 16, 17, 18, 19, 20, 21, 22, 23, 24, 25, 26, 27, 28, 29, 30, 31, 32, 33, 34, 35, 36, 37, 38, 39, 40, 41, 42, 43, 44, 45, 46, 47, 48, 49, 50] (by decide +kernel) (by decide +kernel)) (goodIn_sub (fun _ h => List.mem_cons_of_mem _ (List.mem_append_left _ (List.mem_append_right _ h))) (by decide +kernel))) (goodIn_sub (fun _ h => List.mem_cons_of_mem _ (List.mem_append_right _ h)) (by decide +kernel))
set_option maxRecDepth 20000 in
theorem gL_item_X3_item : GoodIn wsL_item (wsV RL 52 RX3 yX3_item wsX3_item) := goodIn_app (goodIn_of _ (by decide +kernel)) ggL_item_X3_item
theorem dL_item_0 : decode cL_item 0 = .ok (.aload_n 3, 1) := by decide +kernel
theorem dL_item_1 : decode cL_item 1 = .ok (.iconst 0, 1) := by decide +kernel
theorem dL_item_2 : decode cL_item 2 = .ok (.aload_n 0, 1) := by decide +kernel
theorem dL_item_3 : decode cL_item 3 = .ok (.iload_n 1, 1) := by decide +kernel
theorem dL_item_4 : decode cL_item 4 = .ok (.iload_n 2, 1) := by decide +kernel
theorem dL_item_5 : decode cL_item 5 = .ok (.invokevirtual 52, 3) := by decide +kernel
theorem dL_item_8 : decode cL_item 8 = .ok (.i2l, 1) := by decide +kernel
theorem dL_item_9 : decode cL_item 9 = .ok (.lastore, 1) := by decide +kernel
theorem dL_item_10 : decode cL_item 10 = .ok (.goto 11, 3) := by decide +kernel
theorem dL_item_13 : decode cL_item 13 = .ok (.astore 4, 2) := by decide +kernel
theorem dL_item_15 : decode cL_item 15 = .ok (.iconst 1, 1) := by decide +kernel
theorem dL_item_16 : decode cL_item 16 = .ok (.ireturn, 1) := by decide +kernel
theorem dL_item_17 : decode cL_item 17 = .ok (.astore 4, 2) := by decide +kernel
theorem dL_item_19 : decode cL_item 19 = .ok (.iconst 2, 1) := by decide +kernel
theorem dL_item_20 : decode cL_item 20 = .ok (.ireturn, 1) := by decide +kernel
theorem dL_item_21 : decode cL_item 21 = .ok (.iconst 0, 1) := by decide +kernel
theorem dL_item_22 : decode cL_item 22 = .ok (.ireturn, 1) := by decide +kernel
set_option maxRecDepth 20000 in
theorem ggL_record_X3_record : GoodIn wsL_record wsX3_record := goodIn_ca (goodIn_ca (goodIn_r _ [7, 8, 9, 10, 11, 12, 13, 14, 15, 16, 17, 18, 19, 20, 21, 22, 23, 24, 25, 26, 27, 28, 29, 30, 31, 32, 33, 34, 35, 36, 37, 38, 39, 40, 41, 42, 43, 44, 45, 46, 47, 48, 49, 50] (by decide +kernel) (by decide +kernel)) (goodIn_sub (fun _ h => List.mem_cons_of_mem _ (List.mem_append_left _ (List.mem_append_right _ h))) (by decide +kernel))) (goodIn_sub (fun _ h => List.mem_cons_of_mem _ (List.mem_append_right _ h)) (by decide +kernel))
set_option maxRecDepth 20000 in
theorem gL_record_X3_record : GoodIn wsL_record (wsV RL 55 RX3 yX3_record wsX3_record) := goodIn_app (goodIn_of _ (by decide +kernel)) ggL_record_X3_record
theorem dL_record_0 : decode cL_record 0 = .ok (.aload_n 3, 1) := by decide +kernel
theorem dL_record_1 : decode cL_record 1 = .ok (.iconst 0, 1) := by decide +kernel
theorem dL_record_2 : decode cL_record 2 = .ok (.aload_n 0, 1) := by decide +kernel
theorem dL_record_3 : decode cL_record 3 = .ok (.iload_n 1, 1) := by decide +kernel
theorem dL_record_4 : decode cL_record 4 = .ok (.iload_n 2, 1) := by decide +kernel
theorem dL_record_5 : decode cL_record 5 = .ok (.invokevirtual 55, 3) := by decide +kernel
theorem dL_record_8 : decode cL_record 8 = .ok (.i2l, 1) := by decide +kernel
theorem dL_record_9 : decode cL_record 9 = .ok (.lastore, 1) := by decide +kernel
theorem dL_record_10 : decode cL_record 10 = .ok (.goto 11, 3) := by decide +kernel
theorem dL_record_13 : decode cL_record 13 = .ok (.astore 4, 2) := by decide +kernel
theorem dL_record_15 : decode cL_record 15 = .ok (.iconst 1, 1) := by decide +kernel
theorem dL_record_16 : decode cL_record 16 = .ok (.ireturn, 1) := by decide +kernel
theorem dL_record_17 : decode cL_record 17 = .ok (.astore 4, 2) := by decide +kernel
theorem dL_record_19 : decode cL_record 19 = .ok (.iconst 2, 1) := by decide +kernel
theorem dL_record_20 : decode cL_record 20 = .ok (.ireturn, 1) := by decide +kernel
theorem dL_record_21 : decode cL_record 21 = .ok (.iconst 0, 1) := by decide +kernel
theorem dL_record_22 : decode cL_record 22 = .ok (.ireturn, 1) := by decide +kernel
set_option maxRecDepth 20000 in
theorem ggL_numberAt_X3_numberAt : GoodIn wsL_numberAt wsX3_numberAt := goodIn_ca (goodIn_r _ [6, 7, 8, 9, 10, 11, 12, 13, 14, 15, 16, 17, 18, 19, 20, 21, 22, 23, 24, 25, 26, 27, 28, 29, 30, 31, 32, 33, 34, 35, 36, 37, 38, 39, 40, 41, 42, 43, 44, 45, 46] (by decide +kernel) (by decide +kernel)) (goodIn_sub (fun _ h => List.mem_cons_of_mem _ (List.mem_append_right _ h)) (by decide +kernel))
set_option maxRecDepth 20000 in
theorem gL_numberAt_X3_numberAt : GoodIn wsL_numberAt (wsV RL 58 RX3 yX3_numberAt wsX3_numberAt) := goodIn_app (goodIn_of _ (by decide +kernel)) ggL_numberAt_X3_numberAt
theorem dL_numberAt_0 : decode cL_numberAt 0 = .ok (.aload_n 3, 1) := by decide +kernel
theorem dL_numberAt_1 : decode cL_numberAt 1 = .ok (.iconst 0, 1) := by decide +kernel
theorem dL_numberAt_2 : decode cL_numberAt 2 = .ok (.aload_n 0, 1) := by decide +kernel
theorem dL_numberAt_3 : decode cL_numberAt 3 = .ok (.iload_n 1, 1) := by decide +kernel
theorem dL_numberAt_4 : decode cL_numberAt 4 = .ok (.iload_n 2, 1) := by decide +kernel
theorem dL_numberAt_5 : decode cL_numberAt 5 = .ok (.invokevirtual 58, 3) := by decide +kernel
theorem dL_numberAt_8 : decode cL_numberAt 8 = .ok (.i2l, 1) := by decide +kernel
theorem dL_numberAt_9 : decode cL_numberAt 9 = .ok (.lastore, 1) := by decide +kernel
theorem dL_numberAt_10 : decode cL_numberAt 10 = .ok (.goto 7, 3) := by decide +kernel
theorem dL_numberAt_13 : decode cL_numberAt 13 = .ok (.astore 4, 2) := by decide +kernel
theorem dL_numberAt_15 : decode cL_numberAt 15 = .ok (.iconst 1, 1) := by decide +kernel
theorem dL_numberAt_16 : decode cL_numberAt 16 = .ok (.ireturn, 1) := by decide +kernel
theorem dL_numberAt_17 : decode cL_numberAt 17 = .ok (.iconst 0, 1) := by decide +kernel
theorem dL_numberAt_18 : decode cL_numberAt 18 = .ok (.ireturn, 1) := by decide +kernel
set_option maxRecDepth 20000 in
theorem ggL_counter_X3_counter : GoodIn wsL_counter wsX3_counter := goodIn_ca (goodIn_r _ [6, 7, 8, 9, 10, 11, 12, 13, 14, 15, 16, 17, 18, 19, 20, 21, 22, 23, 24, 25, 26, 27, 28, 29, 30, 31, 32, 33, 34, 35, 36] (by decide +kernel) (by decide +kernel)) (goodIn_sub (fun _ h => List.mem_cons_of_mem _ (List.mem_append_right _ h)) (by decide +kernel))
set_option maxRecDepth 20000 in
theorem gL_counter_X3_counter : GoodIn wsL_counter (wsV RL 64 RX3 yX3_counter wsX3_counter) := goodIn_app (goodIn_of _ (by decide +kernel)) ggL_counter_X3_counter
theorem dL_counter_0 : decode cL_counter 0 = .ok (.aload_n 2, 1) := by decide +kernel
theorem dL_counter_1 : decode cL_counter 1 = .ok (.iconst 0, 1) := by decide +kernel
theorem dL_counter_2 : decode cL_counter 2 = .ok (.aload_n 0, 1) := by decide +kernel
theorem dL_counter_3 : decode cL_counter 3 = .ok (.iload_n 1, 1) := by decide +kernel
theorem dL_counter_4 : decode cL_counter 4 = .ok (.invokevirtual 64, 3) := by decide +kernel
theorem dL_counter_7 : decode cL_counter 7 = .ok (.i2l, 1) := by decide +kernel
theorem dL_counter_8 : decode cL_counter 8 = .ok (.lastore, 1) := by decide +kernel
theorem dL_counter_9 : decode cL_counter 9 = .ok (.goto 6, 3) := by decide +kernel
theorem dL_counter_12 : decode cL_counter 12 = .ok (.astore_n 3, 1) := by decide +kernel
theorem dL_counter_13 : decode cL_counter 13 = .ok (.iconst 1, 1) := by decide +kernel
theorem dL_counter_14 : decode cL_counter 14 = .ok (.ireturn, 1) := by decide +kernel
theorem dL_counter_15 : decode cL_counter 15 = .ok (.iconst 0, 1) := by decide +kernel
theorem dL_counter_16 : decode cL_counter 16 = .ok (.ireturn, 1) := by decide +kernel
set_option maxRecDepth 20000 in
theorem ggL_spare_X3_spare : GoodIn wsL_spare wsX3_spare := goodIn_ca (goodIn_r _ [6, 7, 8, 9, 10, 5, 11, 12, 13, 14, 15, 16, 17, 18, 19, 20, 21, 22, 23, 24, 25, 26, 27, 28, 29, 30, 31, 32, 33, 34, 35, 36, 37, 38, 39, 40, 41, 42, 43, 44, 45, 46, 47, 48, 49, 50, 51, 52, 53] (by decide +kernel) (by decide +kernel)) (goodIn_sub (fun _ h => List.mem_cons_of_mem _ (List.mem_append_right _ h)) (by decide +kernel))
set_option maxRecDepth 20000 in
theorem gL_spare_X3_spare : GoodIn wsL_spare (wsV RL 67 RX3 yX3_spare wsX3_spare) := goodIn_app (goodIn_of _ (by decide +kernel)) ggL_spare_X3_spare
theorem dL_spare_0 : decode cL_spare 0 = .ok (.aload_n 2, 1) := by decide +kernel
theorem dL_spare_1 : decode cL_spare 1 = .ok (.iconst 0, 1) := by decide +kernel
theorem dL_spare_2 : decode cL_spare 2 = .ok (.aload_n 0, 1) := by decide +kernel
theorem dL_spare_3 : decode cL_spare 3 = .ok (.iload_n 1, 1) := by decide +kernel
theorem dL_spare_4 : decode cL_spare 4 = .ok (.invokevirtual 67, 3) := by decide +kernel
theorem dL_spare_7 : decode cL_spare 7 = .ok (.i2l, 1) := by decide +kernel
theorem dL_spare_8 : decode cL_spare 8 = .ok (.lastore, 1) := by decide +kernel
theorem dL_spare_9 : decode cL_spare 9 = .ok (.goto 6, 3) := by decide +kernel
theorem dL_spare_12 : decode cL_spare 12 = .ok (.astore_n 3, 1) := by decide +kernel
theorem dL_spare_13 : decode cL_spare 13 = .ok (.iconst 1, 1) := by decide +kernel
theorem dL_spare_14 : decode cL_spare 14 = .ok (.ireturn, 1) := by decide +kernel
theorem dL_spare_15 : decode cL_spare 15 = .ok (.iconst 0, 1) := by decide +kernel
theorem dL_spare_16 : decode cL_spare 16 = .ok (.ireturn, 1) := by decide +kernel
set_option maxRecDepth 20000 in
theorem ggL_fate_X3_fate : GoodIn wsL_fate wsX3_fate := goodIn_ca (goodIn_r _ [6, 7, 8, 9, 10, 11, 12, 13, 14, 15, 16, 17, 18, 19, 20, 21, 22, 23, 24, 25, 26, 27, 28, 29, 30, 31, 32, 33, 34, 35, 36, 37, 38, 39, 40, 41, 42, 43, 44, 45, 46, 47, 48, 49, 50, 51, 52, 53, 54, 55, 56, 57, 58, 59, 60, 61, 62, 63, 64, 65, 66, 67, 68, 69, 70, 71, 72, 73, 74, 75, 76, 77, 78, 79, 80, 81, 82, 83, 84, 85, 86, 87, 88, 89, 90, 91, 92, 93, 94, 95, 96, 97, 98, 99, 100, 101, 102, 103, 104, 105, 106, 107, 108, 109, 110, 111, 112, 113, 114, 115, 116, 117, 118, 119, 120, 121, 122, 123, 124, 125, 126, 127, 128, 129, 130, 131, 132, 133, 134, 135, 136, 137, 138, 139, 140, 141, 142, 143, 144, 145, 146, 147, 148, 149, 150, 151, 152, 153, 154, 155, 156, 157, 158, 159, 160, 161, 162, 163, 164, 165, 166, 167, 168, 169, 170, 171, 172, 173, 174, 175, 176, 177, 178, 179, 180, 181, 182, 183, 184, 185, 186, 187, 188, 189, 190, 191, 192, 193, 194, 195, 196, 197, 198, 199, 200, 201, 202, 203, 204, 205, 206, 207, 208, 209, 210, 211, 212, 213] (by decide +kernel) (by decide +kernel)) (goodIn_sub (fun _ h => List.mem_cons_of_mem _ (List.mem_append_right _ h)) (by decide +kernel))
set_option maxRecDepth 20000 in
theorem gL_fate_X3_fate : GoodIn wsL_fate (wsV RL 70 RX3 yX3_fate wsX3_fate) := goodIn_app (goodIn_of _ (by decide +kernel)) ggL_fate_X3_fate
theorem dL_fate_0 : decode cL_fate 0 = .ok (.aload_n 2, 1) := by decide +kernel
theorem dL_fate_1 : decode cL_fate 1 = .ok (.iconst 0, 1) := by decide +kernel
theorem dL_fate_2 : decode cL_fate 2 = .ok (.aload_n 0, 1) := by decide +kernel
theorem dL_fate_3 : decode cL_fate 3 = .ok (.iload_n 1, 1) := by decide +kernel
theorem dL_fate_4 : decode cL_fate 4 = .ok (.invokevirtual 70, 3) := by decide +kernel
theorem dL_fate_7 : decode cL_fate 7 = .ok (.i2l, 1) := by decide +kernel
theorem dL_fate_8 : decode cL_fate 8 = .ok (.lastore, 1) := by decide +kernel
theorem dL_fate_9 : decode cL_fate 9 = .ok (.goto 6, 3) := by decide +kernel
theorem dL_fate_12 : decode cL_fate 12 = .ok (.astore_n 3, 1) := by decide +kernel
theorem dL_fate_13 : decode cL_fate 13 = .ok (.iconst 1, 1) := by decide +kernel
theorem dL_fate_14 : decode cL_fate 14 = .ok (.ireturn, 1) := by decide +kernel
theorem dL_fate_15 : decode cL_fate 15 = .ok (.iconst 0, 1) := by decide +kernel
theorem dL_fate_16 : decode cL_fate 16 = .ok (.ireturn, 1) := by decide +kernel
set_option maxRecDepth 20000 in
theorem ggL_append_X3_append : GoodIn wsL_append wsX3_append := goodIn_ca (goodIn_ca (goodIn_r _ [7, 8, 9, 10, 11, 12, 13, 14, 15, 16, 17, 18] (by decide +kernel) (by decide +kernel)) (goodIn_sub (fun _ h => List.mem_cons_of_mem _ (List.mem_append_left _ (List.mem_append_right _ h))) (by decide +kernel))) (goodIn_sub (fun _ h => List.mem_cons_of_mem _ (List.mem_append_right _ h)) (by decide +kernel))
set_option maxRecDepth 20000 in
theorem gL_append_X3_append : GoodIn wsL_append (wsV RL 73 RX3 yX3_append wsX3_append) := goodIn_app (goodIn_of _ (by decide +kernel)) ggL_append_X3_append
theorem dL_append_0 : decode cL_append 0 = .ok (.aload_n 2, 1) := by decide +kernel
theorem dL_append_1 : decode cL_append 1 = .ok (.iconst 0, 1) := by decide +kernel
theorem dL_append_2 : decode cL_append 2 = .ok (.aload_n 0, 1) := by decide +kernel
theorem dL_append_3 : decode cL_append 3 = .ok (.iload_n 1, 1) := by decide +kernel
theorem dL_append_4 : decode cL_append 4 = .ok (.invokevirtual 73, 3) := by decide +kernel
theorem dL_append_7 : decode cL_append 7 = .ok (.i2l, 1) := by decide +kernel
theorem dL_append_8 : decode cL_append 8 = .ok (.lastore, 1) := by decide +kernel
theorem dL_append_9 : decode cL_append 9 = .ok (.goto 9, 3) := by decide +kernel
theorem dL_append_12 : decode cL_append 12 = .ok (.astore_n 3, 1) := by decide +kernel
theorem dL_append_13 : decode cL_append 13 = .ok (.iconst 1, 1) := by decide +kernel
theorem dL_append_14 : decode cL_append 14 = .ok (.ireturn, 1) := by decide +kernel
theorem dL_append_15 : decode cL_append 15 = .ok (.astore_n 3, 1) := by decide +kernel
theorem dL_append_16 : decode cL_append 16 = .ok (.iconst 2, 1) := by decide +kernel
theorem dL_append_17 : decode cL_append 17 = .ok (.ireturn, 1) := by decide +kernel
theorem dL_append_18 : decode cL_append 18 = .ok (.iconst 0, 1) := by decide +kernel
theorem dL_append_19 : decode cL_append 19 = .ok (.ireturn, 1) := by decide +kernel
set_option maxRecDepth 20000 in
theorem ggL_undo_X3_undo : GoodIn wsL_undo wsX3_undo := goodIn_ca (goodIn_r _ [6, 7, 8, 9, 10, 11, 12, 13, 14, 15, 16, 17, 18, 19, 20, 21, 22, 23, 24, 25, 26, 27, 28, 29, 30, 31, 32, 33, 34, 35, 36, 37, 38, 39, 40, 41, 42, 43, 44, 45, 46, 47, 48, 49, 50, 51, 52, 53, 54, 55, 56, 57, 58, 59, 60, 61, 62, 63, 64, 65, 66, 67, 68, 69, 70, 71, 72, 73, 74, 75, 76, 77, 78, 79, 80, 81, 82, 83, 84, 85, 86, 87, 88, 89, 90, 91, 92, 93] (by decide +kernel) (by decide +kernel)) (goodIn_sub (fun _ h => List.mem_cons_of_mem _ (List.mem_append_right _ h)) (by decide +kernel))
set_option maxRecDepth 20000 in
theorem gL_undo_X3_undo : GoodIn wsL_undo (wsV RL 76 RX3 yX3_undo wsX3_undo) := goodIn_app (goodIn_of _ (by decide +kernel)) ggL_undo_X3_undo
theorem dL_undo_0 : decode cL_undo 0 = .ok (.aload_n 1, 1) := by decide +kernel
theorem dL_undo_1 : decode cL_undo 1 = .ok (.iconst 0, 1) := by decide +kernel
theorem dL_undo_2 : decode cL_undo 2 = .ok (.aload_n 0, 1) := by decide +kernel
theorem dL_undo_3 : decode cL_undo 3 = .ok (.invokevirtual 76, 3) := by decide +kernel
theorem dL_undo_6 : decode cL_undo 6 = .ok (.i2l, 1) := by decide +kernel
theorem dL_undo_7 : decode cL_undo 7 = .ok (.lastore, 1) := by decide +kernel
theorem dL_undo_8 : decode cL_undo 8 = .ok (.goto 6, 3) := by decide +kernel
theorem dL_undo_11 : decode cL_undo 11 = .ok (.astore_n 2, 1) := by decide +kernel
theorem dL_undo_12 : decode cL_undo 12 = .ok (.iconst 1, 1) := by decide +kernel
theorem dL_undo_13 : decode cL_undo 13 = .ok (.ireturn, 1) := by decide +kernel
theorem dL_undo_14 : decode cL_undo 14 = .ok (.iconst 0, 1) := by decide +kernel
theorem dL_undo_15 : decode cL_undo 15 = .ok (.ireturn, 1) := by decide +kernel
