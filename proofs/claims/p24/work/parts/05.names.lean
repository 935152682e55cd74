theorem dX2_cabDetail_71 : decode cX2_cabDetail 71 = .ok (.ireturn, 1) := by decide +kernel
set_option maxRecDepth 20000 in
theorem ggX2_orderDetail_J6_bitCount_0f7a4 : GoodIn wsX2_orderDetail wsJ6_bitCount_0f7a4 := goodIn_r _ [10, 11, 12, 13] (by decide +kernel) (by decide +kernel)
set_option maxRecDepth 20000 in
theorem gX2_orderDetail_J6_bitCount_0f7a4 : GoodIn wsX2_orderDetail (va_wsS RX2 329 yJ6_bitCount_0f7a4 wsJ6_bitCount_0f7a4) := goodIn_app (goodIn_of _ (by decide +kernel)) ggX2_orderDetail_J6_bitCount_0f7a4
theorem dX2_orderDetail_0 : decode cX2_orderDetail 0 = .ok (.iload_n 1, 1) := by decide +kernel
theorem dX2_orderDetail_1 : decode cX2_orderDetail 1 = .ok (.tableswitch 65 0 3 #[31, 36, 55, 60], 31) := by decide +kernel
theorem dX2_orderDetail_32 : decode cX2_orderDetail 32 = .ok (.aload_n 0, 1) := by decide +kernel
theorem dX2_orderDetail_33 : decode cX2_orderDetail 33 = .ok (.getfield 152, 3) := by decide +kernel
theorem dX2_orderDetail_36 : decode cX2_orderDetail 36 = .ok (.ireturn, 1) := by decide +kernel
theorem dX2_orderDetail_37 : decode cX2_orderDetail 37 = .ok (.aload_n 0, 1) := by decide +kernel
theorem dX2_orderDetail_38 : decode cX2_orderDetail 38 = .ok (.getfield 267, 3) := by decide +kernel
theorem dX2_orderDetail_41 : decode cX2_orderDetail 41 = .ok (.ifnonnull 7, 3) := by decide +kernel
theorem dX2_orderDetail_44 : decode cX2_orderDetail 44 = .ok (.iconst (-1), 1) := by decide +kernel
theorem dX2_orderDetail_45 : decode cX2_orderDetail 45 = .ok (.goto 10, 3) := by decide +kernel
theorem dX2_orderDetail_48 : decode cX2_orderDetail 48 = .ok (.aload_n 0, 1) := by decide +kernel
theorem dX2_orderDetail_49 : decode cX2_orderDetail 49 = .ok (.getfield 267, 3) := by decide +kernel
theorem dX2_orderDetail_52 : decode cX2_orderDetail 52 = .ok (.getfield 250, 3) := by decide +kernel
theorem dX2_orderDetail_55 : decode cX2_orderDetail 55 = .ok (.ireturn, 1) := by decide +kernel
theorem dX2_orderDetail_56 : decode cX2_orderDetail 56 = .ok (.aload_n 0, 1) := by decide +kernel
theorem dX2_orderDetail_57 : decode cX2_orderDetail 57 = .ok (.getfield 201, 3) := by decide +kernel
theorem dX2_orderDetail_60 : decode cX2_orderDetail 60 = .ok (.ireturn, 1) := by decide +kernel
theorem dX2_orderDetail_61 : decode cX2_orderDetail 61 = .ok (.aload_n 0, 1) := by decide +kernel
theorem dX2_orderDetail_62 : decode cX2_orderDetail 62 = .ok (.getfield 326, 3) := by decide +kernel
theorem dX2_orderDetail_65 : decode cX2_orderDetail 65 = .ok (.ireturn, 1) := by decide +kernel
theorem dX2_orderDetail_66 : decode cX2_orderDetail 66 = .ok (.aload_n 0, 1) := by decide +kernel
theorem dX2_orderDetail_67 : decode cX2_orderDetail 67 = .ok (.getfield 284, 3) := by decide +kernel
theorem dX2_orderDetail_70 : decode cX2_orderDetail 70 = .ok (.invokestatic 329, 3) := by decide +kernel
theorem dX2_orderDetail_73 : decode cX2_orderDetail 73 = .ok (.ireturn, 1) := by decide +kernel
theorem dX2_wholeFare_0 : decode cX2_wholeFare 0 = .ok (.aload_n 0, 1) := by decide +kernel
theorem dX2_wholeFare_1 : decode cX2_wholeFare 1 = .ok (.getfield 310, 3) := by decide +kernel
theorem dX2_wholeFare_4 : decode cX2_wholeFare 4 = .ok (.aload_n 0, 1) := by decide +kernel
theorem dX2_wholeFare_5 : decode cX2_wholeFare 5 = .ok (.getfield 313, 3) := by decide +kernel
theorem dX2_wholeFare_8 : decode cX2_wholeFare 8 = .ok (.iadd, 1) := by decide +kernel
theorem dX2_wholeFare_9 : decode cX2_wholeFare 9 = .ok (.aload_n 0, 1) := by decide +kernel
theorem dX2_wholeFare_10 : decode cX2_wholeFare 10 = .ok (.getfield 316, 3) := by decide +kernel
theorem dX2_wholeFare_13 : decode cX2_wholeFare 13 = .ok (.iadd, 1) := by decide +kernel
theorem dX2_wholeFare_14 : decode cX2_wholeFare 14 = .ok (.aload_n 0, 1) := by decide +kernel
theorem dX2_wholeFare_15 : decode cX2_wholeFare 15 = .ok (.getfield 319, 3) := by decide +kernel
theorem dX2_wholeFare_18 : decode cX2_wholeFare 18 = .ok (.iadd, 1) := by decide +kernel
theorem dX2_wholeFare_19 : decode cX2_wholeFare 19 = .ok (.ireturn, 1) := by decide +kernel
set_option maxRecDepth 20000 in
theorem ggX2_ordersInState_Jx4a65c_size_8abf5 : GoodIn wsX2_ordersInState wsJx4a65c_size_8abf5 := goodIn_r _ [8, 9, 49, 50, 51] (by decide +kernel) (by decide +kernel)
set_option maxRecDepth 20000 in
theorem gX2_ordersInState_Jx4a65c_size_8abf5 : GoodIn wsX2_ordersInState (wsV RX2 59 RJx4a65c yJx4a65c_size_8abf5 wsJx4a65c_size_8abf5) := goodIn_app (goodIn_of _ (by decide +kernel)) ggX2_ordersInState_Jx4a65c_size_8abf5
set_option maxRecDepth 20000 in
theorem ggX2_ordersInState_Jx4a65c_get_915e3 : GoodIn wsX2_ordersInState wsJx4a65c_get_915e3 := goodIn_r _ [13, 9, 14, 15, 16, 17, 18, 19, 20, 21, 22, 23, 24, 7, 25, 26, 49, 50, 51] (by decide +kernel) (by decide +kernel)
set_option maxRecDepth 20000 in
theorem gX2_ordersInState_Jx4a65c_get_915e3 : GoodIn wsX2_ordersInState (wsV RX2 197 RJx4a65c yJx4a65c_get_915e3 wsJx4a65c_get_915e3) := goodIn_app (goodIn_of _ (by decide +kernel)) ggX2_ordersInState_Jx4a65c_get_915e3
theorem dX2_ordersInState_0 : decode cX2_ordersInState 0 = .ok (.iconst 0, 1) := by decide +kernel
theorem dX2_ordersInState_1 : decode cX2_ordersInState 1 = .ok (.istore_n 2, 1) := by decide +kernel
theorem dX2_ordersInState_2 : decode cX2_ordersInState 2 = .ok (.iconst 0, 1) := by decide +kernel
theorem dX2_ordersInState_3 : decode cX2_ordersInState 3 = .ok (.istore_n 3, 1) := by decide +kernel
theorem dX2_ordersInState_4 : decode cX2_ordersInState 4 = .ok (.iload_n 3, 1) := by decide +kernel
theorem dX2_ordersInState_5 : decode cX2_ordersInState 5 = .ok (.aload_n 0, 1) := by decide +kernel
theorem dX2_ordersInState_6 : decode cX2_ordersInState 6 = .ok (.getfield 20, 3) := by decide +kernel
theorem dX2_ordersInState_9 : decode cX2_ordersInState 9 = .ok (.invokevirtual 59, 3) := by decide +kernel
theorem dX2_ordersInState_12 : decode cX2_ordersInState 12 = .ok (.if_icmp .ge 30, 3) := by decide +kernel
theorem dX2_ordersInState_15 : decode cX2_ordersInState 15 = .ok (.aload_n 0, 1) := by decide +kernel
theorem dX2_ordersInState_16 : decode cX2_ordersInState 16 = .ok (.getfield 20, 3) := by decide +kernel
theorem dX2_ordersInState_19 : decode cX2_ordersInState 19 = .ok (.iload_n 3, 1) := by decide +kernel
theorem dX2_ordersInState_20 : decode cX2_ordersInState 20 = .ok (.invokevirtual 197, 3) := by decide +kernel
theorem dX2_ordersInState_23 : decode cX2_ordersInState 23 = .ok (.checkcast 127, 3) := by decide +kernel
theorem dX2_ordersInState_26 : decode cX2_ordersInState 26 = .ok (.getfield 152, 3) := by decide +kernel
theorem dX2_ordersInState_29 : decode cX2_ordersInState 29 = .ok (.iload_n 1, 1) := by decide +kernel
theorem dX2_ordersInState_30 : decode cX2_ordersInState 30 = .ok (.if_icmp .ne 6, 3) := by decide +kernel
theorem dX2_ordersInState_33 : decode cX2_ordersInState 33 = .ok (.iinc 2 1, 3) := by decide +kernel
theorem dX2_ordersInState_36 : decode cX2_ordersInState 36 = .ok (.iinc 3 1, 3) := by decide +kernel
theorem dX2_ordersInState_39 : decode cX2_ordersInState 39 = .ok (.goto (-35), 3) := by decide +kernel
theorem dX2_ordersInState_42 : decode cX2_ordersInState 42 = .ok (.iload_n 2, 1) := by decide +kernel
theorem dX2_ordersInState_43 : decode cX2_ordersInState 43 = .ok (.ireturn, 1) := by decide +kernel
theorem dX3_init_0 : decode cX3_init 0 = .ok (.aload_n 0, 1) := by decide +kernel
theorem dX3_init_1 : decode cX3_init 1 = .ok (.invokespecial 1, 3) := by decide +kernel
theorem dX3_init_4 : decode cX3_init 4 = .ok (.aload_n 0, 1) := by decide +kernel
theorem dX3_init_5 : decode cX3_init 5 = .ok (.bipush 6, 2) := by decide +kernel
theorem dX3_init_7 : decode cX3_init 7 = .ok (.bipush 6, 2) := by decide +kernel
theorem dX3_init_9 : decode cX3_init 9 = .ok (.multianewarray 7 2, 4) := by decide +kernel
theorem dX3_init_13 : decode cX3_init 13 = .ok (.putfield 9, 3) := by decide +kernel
theorem dX3_init_16 : decode cX3_init 16 = .ok (.aload_n 0, 1) := by decide +kernel
theorem dX3_init_17 : decode cX3_init 17 = .ok (.bipush 10, 2) := by decide +kernel
theorem dX3_init_19 : decode cX3_init 19 = .ok (.anewarray 14, 3) := by decide +kernel
theorem dX3_init_22 : decode cX3_init 22 = .ok (.putfield 16, 3) := by decide +kernel
theorem dX3_init_25 : decode cX3_init 25 = .ok (.aload_n 0, 1) := by decide +kernel
theorem dX3_init_26 : decode cX3_init 26 = .ok (.bipush 60, 2) := by decide +kernel
theorem dX3_init_28 : decode cX3_init 28 = .ok (.anewarray 14, 3) := by decide +kernel
theorem dX3_init_31 : decode cX3_init 31 = .ok (.putfield 19, 3) := by decide +kernel
theorem dX3_init_34 : decode cX3_init 34 = .ok (.aload_n 0, 1) := by decide +kernel
theorem dX3_init_35 : decode cX3_init 35 = .ok (.bipush 6, 2) := by decide +kernel
theorem dX3_init_37 : decode cX3_init 37 = .ok (.bipush 11, 2) := by decide +kernel
theorem dX3_init_39 : decode cX3_init 39 = .ok (.multianewarray 7 2, 4) := by decide +kernel
theorem dX3_init_43 : decode cX3_init 43 = .ok (.putfield 22, 3) := by decide +kernel
theorem dX3_init_46 : decode cX3_init 46 = .ok (.aload_n 0, 1) := by decide +kernel
theorem dX3_init_47 : decode cX3_init 47 = .ok (.bipush 60, 2) := by decide +kernel
theorem dX3_init_49 : decode cX3_init 49 = .ok (.bipush 10, 2) := by decide +kernel
theorem dX3_init_51 : decode cX3_init 51 = .ok (.multianewarray 25 2, 4) := by decide +kernel
theorem dX3_init_55 : decode cX3_init 55 = .ok (.putfield 27, 3) := by decide +kernel
theorem dX3_init_58 : decode cX3_init 58 = .ok (.aload_n 0, 1) := by decide +kernel
theorem dX3_init_59 : decode cX3_init 59 = .ok (.bipush 10, 2) := by decide +kernel
theorem dX3_init_61 : decode cX3_init 61 = .ok (.iconst 2, 1) := by decide +kernel
theorem dX3_init_62 : decode cX3_init 62 = .ok (.multianewarray 7 2, 4) := by decide +kernel
theorem dX3_init_66 : decode cX3_init 66 = .ok (.putfield 30, 3) := by decide +kernel
theorem dX3_init_69 : decode cX3_init 69 = .ok (.aload_n 0, 1) := by decide +kernel
theorem dX3_init_70 : decode cX3_init 70 = .ok (.iconst 4, 1) := by decide +kernel
theorem dX3_init_71 : decode cX3_init 71 = .ok (.putfield 33, 3) := by decide +kernel
theorem dX3_init_74 : decode cX3_init 74 = .ok (.aload_n 0, 1) := by decide +kernel
theorem dX3_init_75 : decode cX3_init 75 = .ok (.iconst 2, 1) := by decide +kernel
theorem dX3_init_76 : decode cX3_init 76 = .ok (.putfield 37, 3) := by decide +kernel
theorem dX3_init_79 : decode cX3_init 79 = .ok (.iconst 0, 1) := by decide +kernel
theorem dX3_init_80 : decode cX3_init 80 = .ok (.istore_n 1, 1) := by decide +kernel
theorem dX3_init_81 : decode cX3_init 81 = .ok (.iload_n 1, 1) := by decide +kernel
theorem dX3_init_82 : decode cX3_init 82 = .ok (.bipush 6, 2) := by decide +kernel
theorem dX3_init_84 : decode cX3_init 84 = .ok (.if_icmp .ge 42, 3) := by decide +kernel
theorem dX3_init_87 : decode cX3_init 87 = .ok (.iconst 0, 1) := by decide +kernel
theorem dX3_init_88 : decode cX3_init 88 = .ok (.istore_n 2, 1) := by decide +kernel
theorem dX3_init_89 : decode cX3_init 89 = .ok (.iload_n 2, 1) := by decide +kernel
theorem dX3_init_90 : decode cX3_init 90 = .ok (.bipush 6, 2) := by decide +kernel
theorem dX3_init_92 : decode cX3_init 92 = .ok (.if_icmp .ge 28, 3) := by decide +kernel
theorem dX3_init_95 : decode cX3_init 95 = .ok (.aload_n 0, 1) := by decide +kernel
theorem dX3_init_96 : decode cX3_init 96 = .ok (.getfield 9, 3) := by decide +kernel
theorem dX3_init_99 : decode cX3_init 99 = .ok (.iload_n 1, 1) := by decide +kernel
theorem dX3_init_100 : decode cX3_init 100 = .ok (.aaload, 1) := by decide +kernel
theorem dX3_init_101 : decode cX3_init 101 = .ok (.iload_n 2, 1) := by decide +kernel
theorem dX3_init_102 : decode cX3_init 102 = .ok (.iload_n 1, 1) := by decide +kernel
theorem dX3_init_103 : decode cX3_init 103 = .ok (.iload_n 2, 1) := by decide +kernel
theorem dX3_init_104 : decode cX3_init 104 = .ok (.if_icmp .ne 7, 3) := by decide +kernel
theorem dX3_init_107 : decode cX3_init 107 = .ok (.iconst 5, 1) := by decide +kernel
theorem dX3_init_108 : decode cX3_init 108 = .ok (.goto 5, 3) := by decide +kernel
theorem dX3_init_111 : decode cX3_init 111 = .ok (.bipush 10, 2) := by decide +kernel
theorem dX3_init_113 : decode cX3_init 113 = .ok (.iastore, 1) := by decide +kernel
theorem dX3_init_114 : decode cX3_init 114 = .ok (.iinc 2 1, 3) := by decide +kernel
theorem dX3_init_117 : decode cX3_init 117 = .ok (.goto (-28), 3) := by decide +kernel
theorem dX3_init_120 : decode cX3_init 120 = .ok (.iinc 1 1, 3) := by decide +kernel
theorem dX3_init_123 : decode cX3_init 123 = .ok (.goto (-42), 3) := by decide +kernel
theorem dX3_init_126 : decode cX3_init 126 = .ok (.return_, 1) := by decide +kernel
theorem dX3_join_0 : decode cX3_join 0 = .ok (.aload_n 0, 1) := by decide +kernel
theorem dX3_join_1 : decode cX3_join 1 = .ok (.getfield 22, 3) := by decide +kernel
theorem dX3_join_4 : decode cX3_join 4 = .ok (.iload_n 1, 1) := by decide +kernel
theorem dX3_join_5 : decode cX3_join 5 = .ok (.aaload, 1) := by decide +kernel
theorem dX3_join_6 : decode cX3_join 6 = .ok (.iconst 0, 1) := by decide +kernel
theorem dX3_join_7 : decode cX3_join 7 = .ok (.dup2, 1) := by decide +kernel
theorem dX3_join_8 : decode cX3_join 8 = .ok (.iaload, 1) := by decide +kernel
theorem dX3_join_9 : decode cX3_join 9 = .ok (.iconst 1, 1) := by decide +kernel
theorem dX3_join_10 : decode cX3_join 10 = .ok (.iadd, 1) := by decide +kernel
theorem dX3_join_11 : decode cX3_join 11 = .ok (.iastore, 1) := by decide +kernel
theorem dX3_join_12 : decode cX3_join 12 = .ok (.aload_n 0, 1) := by decide +kernel
theorem dX3_join_13 : decode cX3_join 13 = .ok (.getfield 22, 3) := by decide +kernel
theorem dX3_join_16 : decode cX3_join 16 = .ok (.iload_n 1, 1) := by decide +kernel
theorem dX3_join_17 : decode cX3_join 17 = .ok (.aaload, 1) := by decide +kernel
theorem dX3_join_18 : decode cX3_join 18 = .ok (.aload_n 0, 1) := by decide +kernel
theorem dX3_join_19 : decode cX3_join 19 = .ok (.getfield 22, 3) := by decide +kernel
theorem dX3_join_22 : decode cX3_join 22 = .ok (.iload_n 1, 1) := by decide +kernel
theorem dX3_join_23 : decode cX3_join 23 = .ok (.aaload, 1) := by decide +kernel
theorem dX3_join_24 : decode cX3_join 24 = .ok (.iconst 0, 1) := by decide +kernel
theorem dX3_join_25 : decode cX3_join 25 = .ok (.iaload, 1) := by decide +kernel
theorem dX3_join_26 : decode cX3_join 26 = .ok (.iload_n 2, 1) := by decide +kernel
theorem dX3_join_27 : decode cX3_join 27 = .ok (.iastore, 1) := by decide +kernel
theorem dX3_join_28 : decode cX3_join 28 = .ok (.aload_n 0, 1) := by decide +kernel
theorem dX3_join_29 : decode cX3_join 29 = .ok (.getfield 22, 3) := by decide +kernel
theorem dX3_join_32 : decode cX3_join 32 = .ok (.iload_n 1, 1) := by decide +kernel
theorem dX3_join_33 : decode cX3_join 33 = .ok (.aaload, 1) := by decide +kernel
theorem dX3_join_34 : decode cX3_join 34 = .ok (.iconst 0, 1) := by decide +kernel
theorem dX3_join_35 : decode cX3_join 35 = .ok (.iaload, 1) := by decide +kernel
theorem dX3_join_36 : decode cX3_join 36 = .ok (.iconst 1, 1) := by decide +kernel
theorem dX3_join_37 : decode cX3_join 37 = .ok (.isub, 1) := by decide +kernel
theorem dX3_join_38 : decode cX3_join 38 = .ok (.ireturn, 1) := by decide +kernel
theorem dX3_leave_0 : decode cX3_leave 0 = .ok (.iconst 1, 1) := by decide +kernel
theorem dX3_leave_1 : decode cX3_leave 1 = .ok (.istore_n 3, 1) := by decide +kernel
theorem dX3_leave_2 : decode cX3_leave 2 = .ok (.aload_n 0, 1) := by decide +kernel
theorem dX3_leave_3 : decode cX3_leave 3 = .ok (.getfield 22, 3) := by decide +kernel
theorem dX3_leave_6 : decode cX3_leave 6 = .ok (.iload_n 1, 1) := by decide +kernel
theorem dX3_leave_7 : decode cX3_leave 7 = .ok (.aaload, 1) := by decide +kernel
theorem dX3_leave_8 : decode cX3_leave 8 = .ok (.iload_n 3, 1) := by decide +kernel
theorem dX3_leave_9 : decode cX3_leave 9 = .ok (.iaload, 1) := by decide +kernel
theorem dX3_leave_10 : decode cX3_leave 10 = .ok (.iload_n 2, 1) := by decide +kernel
theorem dX3_leave_11 : decode cX3_leave 11 = .ok (.if_icmp .eq 9, 3) := by decide +kernel
theorem dX3_leave_14 : decode cX3_leave 14 = .ok (.iinc 3 1, 3) := by decide +kernel
theorem dX3_leave_17 : decode cX3_leave 17 = .ok (.goto (-15), 3) := by decide +kernel
theorem dX3_leave_20 : decode cX3_leave 20 = .ok (.iload_n 3, 1) := by decide +kernel
theorem dX3_leave_21 : decode cX3_leave 21 = .ok (.aload_n 0, 1) := by decide +kernel
theorem dX3_leave_22 : decode cX3_leave 22 = .ok (.getfield 22, 3) := by decide +kernel
theorem dX3_leave_25 : decode cX3_leave 25 = .ok (.iload_n 1, 1) := by decide +kernel
theorem dX3_leave_26 : decode cX3_leave 26 = .ok (.aaload, 1) := by decide +kernel
theorem dX3_leave_27 : decode cX3_leave 27 = .ok (.iconst 0, 1) := by decide +kernel
theorem dX3_leave_28 : decode cX3_leave 28 = .ok (.iaload, 1) := by decide +kernel
theorem dX3_leave_29 : decode cX3_leave 29 = .ok (.if_icmp .ge 27, 3) := by decide +kernel
theorem dX3_leave_32 : decode cX3_leave 32 = .ok (.aload_n 0, 1) := by decide +kernel
theorem dX3_leave_33 : decode cX3_leave 33 = .ok (.getfield 22, 3) := by decide +kernel
theorem dX3_leave_36 : decode cX3_leave 36 = .ok (.iload_n 1, 1) := by decide +kernel
theorem dX3_leave_37 : decode cX3_leave 37 = .ok (.aaload, 1) := by decide +kernel
theorem dX3_leave_38 : decode cX3_leave 38 = .ok (.iload_n 3, 1) := by decide +kernel
theorem dX3_leave_39 : decode cX3_leave 39 = .ok (.aload_n 0, 1) := by decide +kernel
theorem dX3_leave_40 : decode cX3_leave 40 = .ok (.getfield 22, 3) := by decide +kernel
theorem dX3_leave_43 : decode cX3_leave 43 = .ok (.iload_n 1, 1) := by decide +kernel
theorem dX3_leave_44 : decode cX3_leave 44 = .ok (.aaload, 1) := by decide +kernel
theorem dX3_leave_45 : decode cX3_leave 45 = .ok (.iload_n 3, 1) := by decide +kernel
theorem dX3_leave_46 : decode cX3_leave 46 = .ok (.iconst 1, 1) := by decide +kernel
theorem dX3_leave_47 : decode cX3_leave 47 = .ok (.iadd, 1) := by decide +kernel
theorem dX3_leave_48 : decode cX3_leave 48 = .ok (.iaload, 1) := by decide +kernel
theorem dX3_leave_49 : decode cX3_leave 49 = .ok (.iastore, 1) := by decide +kernel
theorem dX3_leave_50 : decode cX3_leave 50 = .ok (.iinc 3 1, 3) := by decide +kernel
theorem dX3_leave_53 : decode cX3_leave 53 = .ok (.goto (-33), 3) := by decide +kernel
theorem dX3_leave_56 : decode cX3_leave 56 = .ok (.aload_n 0, 1) := by decide +kernel
theorem dX3_leave_57 : decode cX3_leave 57 = .ok (.getfield 22, 3) := by decide +kernel
theorem dX3_leave_60 : decode cX3_leave 60 = .ok (.iload_n 1, 1) := by decide +kernel
theorem dX3_leave_61 : decode cX3_leave 61 = .ok (.aaload, 1) := by decide +kernel
theorem dX3_leave_62 : decode cX3_leave 62 = .ok (.iconst 0, 1) := by decide +kernel
theorem dX3_leave_63 : decode cX3_leave 63 = .ok (.dup2, 1) := by decide +kernel
theorem dX3_leave_64 : decode cX3_leave 64 = .ok (.iaload, 1) := by decide +kernel
theorem dX3_leave_65 : decode cX3_leave 65 = .ok (.iconst 1, 1) := by decide +kernel
theorem dX3_leave_66 : decode cX3_leave 66 = .ok (.isub, 1) := by decide +kernel
theorem dX3_leave_67 : decode cX3_leave 67 = .ok (.iastore, 1) := by decide +kernel
theorem dX3_leave_68 : decode cX3_leave 68 = .ok (.return_, 1) := by decide +kernel
theorem dX3_first_0 : decode cX3_first 0 = .ok (.iconst 1, 1) := by decide +kernel
theorem dX3_first_1 : decode cX3_first 1 = .ok (.istore_n 3, 1) := by decide +kernel
theorem dX3_first_2 : decode cX3_first 2 = .ok (.iload_n 3, 1) := by decide +kernel
theorem dX3_first_3 : decode cX3_first 3 = .ok (.aload_n 0, 1) := by decide +kernel
theorem dX3_first_4 : decode cX3_first 4 = .ok (.getfield 22, 3) := by decide +kernel
theorem dX3_first_7 : decode cX3_first 7 = .ok (.iload_n 2, 1) := by decide +kernel
theorem dX3_first_8 : decode cX3_first 8 = .ok (.aaload, 1) := by decide +kernel
theorem dX3_first_9 : decode cX3_first 9 = .ok (.iconst 0, 1) := by decide +kernel
theorem dX3_first_10 : decode cX3_first 10 = .ok (.iaload, 1) := by decide +kernel
theorem dX3_first_11 : decode cX3_first 11 = .ok (.if_icmp .gt 66, 3) := by decide +kernel
theorem dX3_first_14 : decode cX3_first 14 = .ok (.aload_n 0, 1) := by decide +kernel
theorem dX3_first_15 : decode cX3_first 15 = .ok (.getfield 22, 3) := by decide +kernel
theorem dX3_first_18 : decode cX3_first 18 = .ok (.iload_n 2, 1) := by decide +kernel
theorem dX3_first_19 : decode cX3_first 19 = .ok (.aaload, 1) := by decide +kernel
theorem dX3_first_20 : decode cX3_first 20 = .ok (.iload_n 3, 1) := by decide +kernel
theorem dX3_first_21 : decode cX3_first 21 = .ok (.iaload, 1) := by decide +kernel
theorem dX3_first_22 : decode cX3_first 22 = .ok (.istore 4, 2) := by decide +kernel
theorem dX3_first_24 : decode cX3_first 24 = .ok (.aload_n 0, 1) := by decide +kernel
theorem dX3_first_25 : decode cX3_first 25 = .ok (.getfield 16, 3) := by decide +kernel
theorem dX3_first_28 : decode cX3_first 28 = .ok (.iload 4, 2) := by decide +kernel
theorem dX3_first_30 : decode cX3_first 30 = .ok (.aaload, 1) := by decide +kernel
theorem dX3_first_31 : decode cX3_first 31 = .ok (.iconst 3, 1) := by decide +kernel
theorem dX3_first_32 : decode cX3_first 32 = .ok (.iaload, 1) := by decide +kernel
theorem dX3_first_33 : decode cX3_first 33 = .ok (.ifCond .ge 38, 3) := by decide +kernel
theorem dX3_first_36 : decode cX3_first 36 = .ok (.aload_n 0, 1) := by decide +kernel
theorem dX3_first_37 : decode cX3_first 37 = .ok (.getfield 16, 3) := by decide +kernel
theorem dX3_first_40 : decode cX3_first 40 = .ok (.iload 4, 2) := by decide +kernel
theorem dX3_first_42 : decode cX3_first 42 = .ok (.aaload, 1) := by decide +kernel
theorem dX3_first_43 : decode cX3_first 43 = .ok (.iconst 0, 1) := by decide +kernel
theorem dX3_first_44 : decode cX3_first 44 = .ok (.iaload, 1) := by decide +kernel
theorem dX3_first_45 : decode cX3_first 45 = .ok (.aload_n 0, 1) := by decide +kernel
theorem dX3_first_46 : decode cX3_first 46 = .ok (.getfield 19, 3) := by decide +kernel
theorem dX3_first_49 : decode cX3_first 49 = .ok (.iload_n 1, 1) := by decide +kernel
theorem dX3_first_50 : decode cX3_first 50 = .ok (.aaload, 1) := by decide +kernel
theorem dX3_first_51 : decode cX3_first 51 = .ok (.iconst 2, 1) := by decide +kernel
theorem dX3_first_52 : decode cX3_first 52 = .ok (.iaload, 1) := by decide +kernel
theorem dX3_first_53 : decode cX3_first 53 = .ok (.if_icmp .lt 18, 3) := by decide +kernel
theorem dX3_first_56 : decode cX3_first 56 = .ok (.aload_n 0, 1) := by decide +kernel
theorem dX3_first_57 : decode cX3_first 57 = .ok (.getfield 27, 3) := by decide +kernel
theorem dX3_first_60 : decode cX3_first 60 = .ok (.iload_n 1, 1) := by decide +kernel
theorem dX3_first_61 : decode cX3_first 61 = .ok (.aaload, 1) := by decide +kernel
theorem dX3_first_62 : decode cX3_first 62 = .ok (.iload 4, 2) := by decide +kernel
theorem dX3_first_64 : decode cX3_first 64 = .ok (.baload, 1) := by decide +kernel
theorem dX3_first_65 : decode cX3_first 65 = .ok (.ifCond .ne 6, 3) := by decide +kernel
theorem dX3_first_68 : decode cX3_first 68 = .ok (.iload 4, 2) := by decide +kernel
theorem dX3_first_70 : decode cX3_first 70 = .ok (.ireturn, 1) := by decide +kernel
theorem dX3_first_71 : decode cX3_first 71 = .ok (.iinc 3 1, 3) := by decide +kernel
theorem dX3_first_74 : decode cX3_first 74 = .ok (.goto (-72), 3) := by decide +kernel
theorem dX3_first_77 : decode cX3_first 77 = .ok (.iconst (-1), 1) := by decide +kernel
theorem dX3_first_78 : decode cX3_first 78 = .ok (.ireturn, 1) := by decide +kernel
set_option maxRecDepth 20000 in
theorem ggX3_choose_X3_first : GoodIn wsX3_choose wsX3_first := goodIn_r _ [7, 8, 9, 1, 10, 11, 12, 13, 14, 15, 16, 17, 18, 19, 20, 21] (by decide +kernel) (by decide +kernel)
set_option maxRecDepth 20000 in
theorem gX3_choose_X3_first : GoodIn wsX3_choose (wsV RX3 40 RX3 yX3_first wsX3_first) := goodIn_app (goodIn_of _ (by decide +kernel)) ggX3_choose_X3_first
theorem dX3_choose_0 : decode cX3_choose 0 = .ok (.aload_n 0, 1) := by decide +kernel
theorem dX3_choose_1 : decode cX3_choose 1 = .ok (.iload_n 1, 1) := by decide +kernel
theorem dX3_choose_2 : decode cX3_choose 2 = .ok (.aload_n 0, 1) := by decide +kernel
theorem dX3_choose_3 : decode cX3_choose 3 = .ok (.getfield 19, 3) := by decide +kernel
theorem dX3_choose_6 : decode cX3_choose 6 = .ok (.iload_n 1, 1) := by decide +kernel
theorem dX3_choose_7 : decode cX3_choose 7 = .ok (.aaload, 1) := by decide +kernel
theorem dX3_choose_8 : decode cX3_choose 8 = .ok (.iconst 0, 1) := by decide +kernel
theorem dX3_choose_9 : decode cX3_choose 9 = .ok (.iaload, 1) := by decide +kernel
theorem dX3_choose_10 : decode cX3_choose 10 = .ok (.invokevirtual 40, 3) := by decide +kernel
theorem dX3_choose_13 : decode cX3_choose 13 = .ok (.istore_n 2, 1) := by decide +kernel
theorem dX3_choose_14 : decode cX3_choose 14 = .ok (.iconst 1, 1) := by decide +kernel
theorem dX3_choose_15 : decode cX3_choose 15 = .ok (.istore_n 3, 1) := by decide +kernel
theorem dX3_choose_16 : decode cX3_choose 16 = .ok (.iload_n 3, 1) := by decide +kernel
theorem dX3_choose_17 : decode cX3_choose 17 = .ok (.bipush 120, 2) := by decide +kernel
theorem dX3_choose_19 : decode cX3_choose 19 = .ok (.if_icmp .gt 74, 3) := by decide +kernel
theorem dX3_choose_22 : decode cX3_choose 22 = .ok (.iload_n 2, 1) := by decide +kernel
theorem dX3_choose_23 : decode cX3_choose 23 = .ok (.ifCond .ge 70, 3) := by decide +kernel
theorem dX3_choose_26 : decode cX3_choose 26 = .ok (.iconst 0, 1) := by decide +kernel
theorem dX3_choose_27 : decode cX3_choose 27 = .ok (.istore 4, 2) := by decide +kernel
theorem dX3_choose_29 : decode cX3_choose 29 = .ok (.iload 4, 2) := by decide +kernel
theorem dX3_choose_31 : decode cX3_choose 31 = .ok (.bipush 6, 2) := by decide +kernel
theorem dX3_choose_33 : decode cX3_choose 33 = .ok (.if_icmp .ge 54, 3) := by decide +kernel
theorem dX3_choose_36 : decode cX3_choose 36 = .ok (.iload_n 2, 1) := by decide +kernel
theorem dX3_choose_37 : decode cX3_choose 37 = .ok (.ifCond .ge 50, 3) := by decide +kernel
theorem dX3_choose_40 : decode cX3_choose 40 = .ok (.iload 4, 2) := by decide +kernel
theorem dX3_choose_42 : decode cX3_choose 42 = .ok (.aload_n 0, 1) := by decide +kernel
theorem dX3_choose_43 : decode cX3_choose 43 = .ok (.getfield 19, 3) := by decide +kernel
theorem dX3_choose_46 : decode cX3_choose 46 = .ok (.iload_n 1, 1) := by decide +kernel
theorem dX3_choose_47 : decode cX3_choose 47 = .ok (.aaload, 1) := by decide +kernel
theorem dX3_choose_48 : decode cX3_choose 48 = .ok (.iconst 0, 1) := by decide +kernel
theorem dX3_choose_49 : decode cX3_choose 49 = .ok (.iaload, 1) := by decide +kernel
theorem dX3_choose_50 : decode cX3_choose 50 = .ok (.if_icmp .eq 31, 3) := by decide +kernel
theorem dX3_choose_53 : decode cX3_choose 53 = .ok (.aload_n 0, 1) := by decide +kernel
theorem dX3_choose_54 : decode cX3_choose 54 = .ok (.getfield 9, 3) := by decide +kernel
theorem dX3_choose_57 : decode cX3_choose 57 = .ok (.iload 4, 2) := by decide +kernel
theorem dX3_choose_59 : decode cX3_choose 59 = .ok (.aaload, 1) := by decide +kernel
theorem dX3_choose_60 : decode cX3_choose 60 = .ok (.aload_n 0, 1) := by decide +kernel
theorem dX3_choose_61 : decode cX3_choose 61 = .ok (.getfield 19, 3) := by decide +kernel
theorem dX3_choose_64 : decode cX3_choose 64 = .ok (.iload_n 1, 1) := by decide +kernel
theorem dX3_choose_65 : decode cX3_choose 65 = .ok (.aaload, 1) := by decide +kernel
theorem dX3_choose_66 : decode cX3_choose 66 = .ok (.iconst 0, 1) := by decide +kernel
theorem dX3_choose_67 : decode cX3_choose 67 = .ok (.iaload, 1) := by decide +kernel
theorem dX3_choose_68 : decode cX3_choose 68 = .ok (.iaload, 1) := by decide +kernel
theorem dX3_choose_69 : decode cX3_choose 69 = .ok (.iload_n 3, 1) := by decide +kernel
theorem dX3_choose_70 : decode cX3_choose 70 = .ok (.if_icmp .ne 11, 3) := by decide +kernel
theorem dX3_choose_73 : decode cX3_choose 73 = .ok (.aload_n 0, 1) := by decide +kernel
theorem dX3_choose_74 : decode cX3_choose 74 = .ok (.iload_n 1, 1) := by decide +kernel
theorem dX3_choose_75 : decode cX3_choose 75 = .ok (.iload 4, 2) := by decide +kernel
theorem dX3_choose_77 : decode cX3_choose 77 = .ok (.invokevirtual 40, 3) := by decide +kernel
theorem dX3_choose_80 : decode cX3_choose 80 = .ok (.istore_n 2, 1) := by decide +kernel
theorem dX3_choose_81 : decode cX3_choose 81 = .ok (.iinc 4 1, 3) := by decide +kernel
theorem dX3_choose_84 : decode cX3_choose 84 = .ok (.goto (-55), 3) := by decide +kernel
theorem dX3_choose_87 : decode cX3_choose 87 = .ok (.iinc 3 1, 3) := by decide +kernel
theorem dX3_choose_90 : decode cX3_choose 90 = .ok (.goto (-74), 3) := by decide +kernel
theorem dX3_choose_93 : decode cX3_choose 93 = .ok (.iload_n 2, 1) := by decide +kernel
theorem dX3_choose_94 : decode cX3_choose 94 = .ok (.ireturn, 1) := by decide +kernel
set_option maxRecDepth 20000 in
theorem ggX3_offer_X3_choose : GoodIn wsX3_offer wsX3_choose := goodIn_r _ [9, 2, 10, 11, 12, 13, 8, 14, 15, 4, 16, 17, 18, 19, 20, 21, 22, 23, 24, 25, 26, 27] (by decide +kernel) (by decide +kernel)
set_option maxRecDepth 20000 in
theorem gX3_offer_X3_choose : GoodIn wsX3_offer (wsV RX3 50 RX3 yX3_choose wsX3_choose) := goodIn_app (goodIn_of _ (by decide +kernel)) ggX3_offer_X3_choose
theorem dX3_offer_0 : decode cX3_offer 0 = .ok (.iconst (-1), 1) := by decide +kernel
theorem dX3_offer_1 : decode cX3_offer 1 = .ok (.istore_n 1, 1) := by decide +kernel
theorem dX3_offer_2 : decode cX3_offer 2 = .ok (.aload_n 0, 1) := by decide +kernel
theorem dX3_offer_3 : decode cX3_offer 3 = .ok (.getfield 44, 3) := by decide +kernel
theorem dX3_offer_6 : decode cX3_offer 6 = .ok (.iconst 1, 1) := by decide +kernel
theorem dX3_offer_7 : decode cX3_offer 7 = .ok (.isub, 1) := by decide +kernel
theorem dX3_offer_8 : decode cX3_offer 8 = .ok (.istore_n 2, 1) := by decide +kernel
theorem dX3_offer_9 : decode cX3_offer 9 = .ok (.iload_n 2, 1) := by decide +kernel
theorem dX3_offer_10 : decode cX3_offer 10 = .ok (.ifCond .lt 71, 3) := by decide +kernel
theorem dX3_offer_13 : decode cX3_offer 13 = .ok (.aload_n 0, 1) := by decide +kernel
theorem dX3_offer_14 : decode cX3_offer 14 = .ok (.getfield 19, 3) := by decide +kernel
theorem dX3_offer_17 : decode cX3_offer 17 = .ok (.iload_n 2, 1) := by decide +kernel
theorem dX3_offer_18 : decode cX3_offer 18 = .ok (.aaload, 1) := by decide +kernel
theorem dX3_offer_19 : decode cX3_offer 19 = .ok (.iconst 4, 1) := by decide +kernel
theorem dX3_offer_20 : decode cX3_offer 20 = .ok (.iaload, 1) := by decide +kernel
theorem dX3_offer_21 : decode cX3_offer 21 = .ok (.ifCond .ne 54, 3) := by decide +kernel
theorem dX3_offer_24 : decode cX3_offer 24 = .ok (.aload_n 0, 1) := by decide +kernel
theorem dX3_offer_25 : decode cX3_offer 25 = .ok (.getfield 47, 3) := by decide +kernel
theorem dX3_offer_28 : decode cX3_offer 28 = .ok (.aload_n 0, 1) := by decide +kernel
theorem dX3_offer_29 : decode cX3_offer 29 = .ok (.getfield 19, 3) := by decide +kernel
theorem dX3_offer_32 : decode cX3_offer 32 = .ok (.iload_n 2, 1) := by decide +kernel
theorem dX3_offer_33 : decode cX3_offer 33 = .ok (.aaload, 1) := by decide +kernel
theorem dX3_offer_34 : decode cX3_offer 34 = .ok (.iconst 3, 1) := by decide +kernel
theorem dX3_offer_35 : decode cX3_offer 35 = .ok (.iaload, 1) := by decide +kernel
theorem dX3_offer_36 : decode cX3_offer 36 = .ok (.bipush 15, 2) := by decide +kernel
theorem dX3_offer_38 : decode cX3_offer 38 = .ok (.isub, 1) := by decide +kernel
theorem dX3_offer_39 : decode cX3_offer 39 = .ok (.if_icmp .lt 36, 3) := by decide +kernel
theorem dX3_offer_42 : decode cX3_offer 42 = .ok (.aload_n 0, 1) := by decide +kernel
theorem dX3_offer_43 : decode cX3_offer 43 = .ok (.iload_n 2, 1) := by decide +kernel
theorem dX3_offer_44 : decode cX3_offer 44 = .ok (.invokevirtual 50, 3) := by decide +kernel
theorem dX3_offer_47 : decode cX3_offer 47 = .ok (.ifCond .lt 28, 3) := by decide +kernel
theorem dX3_offer_50 : decode cX3_offer 50 = .ok (.iload_n 1, 1) := by decide +kernel
theorem dX3_offer_51 : decode cX3_offer 51 = .ok (.ifCond .lt 22, 3) := by decide +kernel
theorem dX3_offer_54 : decode cX3_offer 54 = .ok (.aload_n 0, 1) := by decide +kernel
theorem dX3_offer_55 : decode cX3_offer 55 = .ok (.getfield 19, 3) := by decide +kernel
theorem dX3_offer_58 : decode cX3_offer 58 = .ok (.iload_n 2, 1) := by decide +kernel
theorem dX3_offer_59 : decode cX3_offer 59 = .ok (.aaload, 1) := by decide +kernel
theorem dX3_offer_60 : decode cX3_offer 60 = .ok (.iconst 3, 1) := by decide +kernel
theorem dX3_offer_61 : decode cX3_offer 61 = .ok (.iaload, 1) := by decide +kernel
theorem dX3_offer_62 : decode cX3_offer 62 = .ok (.aload_n 0, 1) := by decide +kernel
theorem dX3_offer_63 : decode cX3_offer 63 = .ok (.getfield 19, 3) := by decide +kernel
theorem dX3_offer_66 : decode cX3_offer 66 = .ok (.iload_n 1, 1) := by decide +kernel
theorem dX3_offer_67 : decode cX3_offer 67 = .ok (.aaload, 1) := by decide +kernel
theorem dX3_offer_68 : decode cX3_offer 68 = .ok (.iconst 3, 1) := by decide +kernel
theorem dX3_offer_69 : decode cX3_offer 69 = .ok (.iaload, 1) := by decide +kernel
theorem dX3_offer_70 : decode cX3_offer 70 = .ok (.if_icmp .gt 5, 3) := by decide +kernel
theorem dX3_offer_73 : decode cX3_offer 73 = .ok (.iload_n 2, 1) := by decide +kernel
theorem dX3_offer_74 : decode cX3_offer 74 = .ok (.istore_n 1, 1) := by decide +kernel
theorem dX3_offer_75 : decode cX3_offer 75 = .ok (.iinc 2 (-1), 3) := by decide +kernel
theorem dX3_offer_78 : decode cX3_offer 78 = .ok (.goto (-69), 3) := by decide +kernel
theorem dX3_offer_81 : decode cX3_offer 81 = .ok (.iload_n 1, 1) := by decide +kernel
theorem dX3_offer_82 : decode cX3_offer 82 = .ok (.ifCond .ge 4, 3) := by decide +kernel
theorem dX3_offer_85 : decode cX3_offer 85 = .ok (.return_, 1) := by decide +kernel
theorem dX3_offer_86 : decode cX3_offer 86 = .ok (.aload_n 0, 1) := by decide +kernel
theorem dX3_offer_87 : decode cX3_offer 87 = .ok (.iload_n 1, 1) := by decide +kernel
theorem dX3_offer_88 : decode cX3_offer 88 = .ok (.invokevirtual 50, 3) := by decide +kernel
theorem dX3_offer_91 : decode cX3_offer 91 = .ok (.istore_n 2, 1) := by decide +kernel
theorem dX3_offer_92 : decode cX3_offer 92 = .ok (.aload_n 0, 1) := by decide +kernel
theorem dX3_offer_93 : decode cX3_offer 93 = .ok (.getfield 16, 3) := by decide +kernel
theorem dX3_offer_96 : decode cX3_offer 96 = .ok (.iload_n 2, 1) := by decide +kernel
theorem dX3_offer_97 : decode cX3_offer 97 = .ok (.aaload, 1) := by decide +kernel
theorem dX3_offer_98 : decode cX3_offer 98 = .ok (.iconst 3, 1) := by decide +kernel
theorem dX3_offer_99 : decode cX3_offer 99 = .ok (.iload_n 1, 1) := by decide +kernel
theorem dX3_offer_100 : decode cX3_offer 100 = .ok (.iastore, 1) := by decide +kernel
theorem dX3_offer_101 : decode cX3_offer 101 = .ok (.aload_n 0, 1) := by decide +kernel
theorem dX3_offer_102 : decode cX3_offer 102 = .ok (.getfield 16, 3) := by decide +kernel
theorem dX3_offer_105 : decode cX3_offer 105 = .ok (.iload_n 2, 1) := by decide +kernel
theorem dX3_offer_106 : decode cX3_offer 106 = .ok (.aaload, 1) := by decide +kernel
theorem dX3_offer_107 : decode cX3_offer 107 = .ok (.iconst 4, 1) := by decide +kernel
theorem dX3_offer_108 : decode cX3_offer 108 = .ok (.aload_n 0, 1) := by decide +kernel
theorem dX3_offer_109 : decode cX3_offer 109 = .ok (.getfield 47, 3) := by decide +kernel
theorem dX3_offer_112 : decode cX3_offer 112 = .ok (.iastore, 1) := by decide +kernel
theorem dX3_offer_113 : decode cX3_offer 113 = .ok (.aload_n 0, 1) := by decide +kernel
theorem dX3_offer_114 : decode cX3_offer 114 = .ok (.getfield 19, 3) := by decide +kernel
theorem dX3_offer_117 : decode cX3_offer 117 = .ok (.iload_n 1, 1) := by decide +kernel
theorem dX3_offer_118 : decode cX3_offer 118 = .ok (.aaload, 1) := by decide +kernel
theorem dX3_offer_119 : decode cX3_offer 119 = .ok (.iconst 4, 1) := by decide +kernel
theorem dX3_offer_120 : decode cX3_offer 120 = .ok (.iconst 1, 1) := by decide +kernel
theorem dX3_offer_121 : decode cX3_offer 121 = .ok (.iastore, 1) := by decide +kernel
theorem dX3_offer_122 : decode cX3_offer 122 = .ok (.aload_n 0, 1) := by decide +kernel
theorem dX3_offer_123 : decode cX3_offer 123 = .ok (.getfield 19, 3) := by decide +kernel
theorem dX3_offer_126 : decode cX3_offer 126 = .ok (.iload_n 1, 1) := by decide +kernel
theorem dX3_offer_127 : decode cX3_offer 127 = .ok (.aaload, 1) := by decide +kernel
theorem dX3_offer_128 : decode cX3_offer 128 = .ok (.iconst 5, 1) := by decide +kernel
theorem dX3_offer_129 : decode cX3_offer 129 = .ok (.iload_n 2, 1) := by decide +kernel
theorem dX3_offer_130 : decode cX3_offer 130 = .ok (.iastore, 1) := by decide +kernel
theorem dX3_offer_131 : decode cX3_offer 131 = .ok (.goto (-131), 3) := by decide +kernel
theorem dX3_refuse_0 : decode cX3_refuse 0 = .ok (.aload_n 0, 1) := by decide +kernel
theorem dX3_refuse_1 : decode cX3_refuse 1 = .ok (.getfield 16, 3) := by decide +kernel
theorem dX3_refuse_4 : decode cX3_refuse 4 = .ok (.iload_n 1, 1) := by decide +kernel
theorem dX3_refuse_5 : decode cX3_refuse 5 = .ok (.aaload, 1) := by decide +kernel
theorem dX3_refuse_6 : decode cX3_refuse 6 = .ok (.iconst 3, 1) := by decide +kernel
theorem dX3_refuse_7 : decode cX3_refuse 7 = .ok (.iaload, 1) := by decide +kernel
theorem dX3_refuse_8 : decode cX3_refuse 8 = .ok (.istore_n 2, 1) := by decide +kernel
theorem dX3_refuse_9 : decode cX3_refuse 9 = .ok (.aload_n 0, 1) := by decide +kernel
theorem dX3_refuse_10 : decode cX3_refuse 10 = .ok (.getfield 27, 3) := by decide +kernel
theorem dX3_refuse_13 : decode cX3_refuse 13 = .ok (.iload_n 2, 1) := by decide +kernel
theorem dX3_refuse_14 : decode cX3_refuse 14 = .ok (.aaload, 1) := by decide +kernel
theorem dX3_refuse_15 : decode cX3_refuse 15 = .ok (.iload_n 1, 1) := by decide +kernel
theorem dX3_refuse_16 : decode cX3_refuse 16 = .ok (.iconst 1, 1) := by decide +kernel
theorem dX3_refuse_17 : decode cX3_refuse 17 = .ok (.bastore, 1) := by decide +kernel
theorem dX3_refuse_18 : decode cX3_refuse 18 = .ok (.aload_n 0, 1) := by decide +kernel
theorem dX3_refuse_19 : decode cX3_refuse 19 = .ok (.getfield 19, 3) := by decide +kernel
theorem dX3_refuse_22 : decode cX3_refuse 22 = .ok (.iload_n 2, 1) := by decide +kernel
theorem dX3_refuse_23 : decode cX3_refuse 23 = .ok (.aaload, 1) := by decide +kernel
theorem dX3_refuse_24 : decode cX3_refuse 24 = .ok (.bipush 8, 2) := by decide +kernel
theorem dX3_refuse_26 : decode cX3_refuse 26 = .ok (.dup2, 1) := by decide +kernel
theorem dX3_refuse_27 : decode cX3_refuse 27 = .ok (.iaload, 1) := by decide +kernel
theorem dX3_refuse_28 : decode cX3_refuse 28 = .ok (.iconst 1, 1) := by decide +kernel
theorem dX3_refuse_29 : decode cX3_refuse 29 = .ok (.iadd, 1) := by decide +kernel
theorem dX3_refuse_30 : decode cX3_refuse 30 = .ok (.iastore, 1) := by decide +kernel
theorem dX3_refuse_31 : decode cX3_refuse 31 = .ok (.aload_n 0, 1) := by decide +kernel
theorem dX3_refuse_32 : decode cX3_refuse 32 = .ok (.getfield 19, 3) := by decide +kernel
theorem dX3_refuse_35 : decode cX3_refuse 35 = .ok (.iload_n 2, 1) := by decide +kernel
theorem dX3_refuse_36 : decode cX3_refuse 36 = .ok (.aaload, 1) := by decide +kernel
theorem dX3_refuse_37 : decode cX3_refuse 37 = .ok (.iconst 4, 1) := by decide +kernel
theorem dX3_refuse_38 : decode cX3_refuse 38 = .ok (.iconst 0, 1) := by decide +kernel
theorem dX3_refuse_39 : decode cX3_refuse 39 = .ok (.iastore, 1) := by decide +kernel
theorem dX3_refuse_40 : decode cX3_refuse 40 = .ok (.aload_n 0, 1) := by decide +kernel
theorem dX3_refuse_41 : decode cX3_refuse 41 = .ok (.getfield 19, 3) := by decide +kernel
theorem dX3_refuse_44 : decode cX3_refuse 44 = .ok (.iload_n 2, 1) := by decide +kernel
theorem dX3_refuse_45 : decode cX3_refuse 45 = .ok (.aaload, 1) := by decide +kernel
theorem dX3_refuse_46 : decode cX3_refuse 46 = .ok (.iconst 5, 1) := by decide +kernel
theorem dX3_refuse_47 : decode cX3_refuse 47 = .ok (.iconst (-1), 1) := by decide +kernel
theorem dX3_refuse_48 : decode cX3_refuse 48 = .ok (.iastore, 1) := by decide +kernel
theorem dX3_refuse_49 : decode cX3_refuse 49 = .ok (.aload_n 0, 1) := by decide +kernel
theorem dX3_refuse_50 : decode cX3_refuse 50 = .ok (.getfield 16, 3) := by decide +kernel
theorem dX3_refuse_53 : decode cX3_refuse 53 = .ok (.iload_n 1, 1) := by decide +kernel
theorem dX3_refuse_54 : decode cX3_refuse 54 = .ok (.aaload, 1) := by decide +kernel
theorem dX3_refuse_55 : decode cX3_refuse 55 = .ok (.iconst 3, 1) := by decide +kernel
theorem dX3_refuse_56 : decode cX3_refuse 56 = .ok (.iconst (-1), 1) := by decide +kernel
theorem dX3_refuse_57 : decode cX3_refuse 57 = .ok (.iastore, 1) := by decide +kernel
theorem dX3_refuse_58 : decode cX3_refuse 58 = .ok (.return_, 1) := by decide +kernel
set_option maxRecDepth 20000 in
theorem ggX3_back_X3_leave : GoodIn wsX3_back wsX3_leave := goodIn_r _ [6, 7, 12, 13, 14, 15, 16, 17, 18, 19, 20, 21, 22] (by decide +kernel) (by decide +kernel)
set_option maxRecDepth 20000 in
theorem gX3_back_X3_leave : GoodIn wsX3_back (wsV RX3 54 RX3 yX3_leave wsX3_leave) := goodIn_app (goodIn_of _ (by decide +kernel)) ggX3_back_X3_leave
set_option maxRecDepth 20000 in
theorem ggX3_back_X3_join : GoodIn wsX3_back wsX3_join := goodIn_r _ [11, 7, 12, 13, 14, 15, 16, 17, 18, 19, 20, 21, 22] (by decide +kernel) (by decide +kernel)
set_option maxRecDepth 20000 in
theorem gX3_back_X3_join : GoodIn wsX3_back (wsV RX3 58 RX3 yX3_join wsX3_join) := goodIn_app (goodIn_of _ (by decide +kernel)) ggX3_back_X3_join
theorem dX3_back_0 : decode cX3_back 0 = .ok (.aload_n 0, 1) := by decide +kernel
theorem dX3_back_1 : decode cX3_back 1 = .ok (.aload_n 0, 1) := by decide +kernel
theorem dX3_back_2 : decode cX3_back 2 = .ok (.getfield 16, 3) := by decide +kernel
theorem dX3_back_5 : decode cX3_back 5 = .ok (.iload_n 1, 1) := by decide +kernel
theorem dX3_back_6 : decode cX3_back 6 = .ok (.aaload, 1) := by decide +kernel
theorem dX3_back_7 : decode cX3_back 7 = .ok (.iconst 1, 1) := by decide +kernel
theorem dX3_back_8 : decode cX3_back 8 = .ok (.iaload, 1) := by decide +kernel
theorem dX3_back_9 : decode cX3_back 9 = .ok (.iload_n 1, 1) := by decide +kernel
theorem dX3_back_10 : decode cX3_back 10 = .ok (.invokevirtual 54, 3) := by decide +kernel
theorem dX3_back_13 : decode cX3_back 13 = .ok (.aload_n 0, 1) := by decide +kernel
theorem dX3_back_14 : decode cX3_back 14 = .ok (.aload_n 0, 1) := by decide +kernel
theorem dX3_back_15 : decode cX3_back 15 = .ok (.getfield 16, 3) := by decide +kernel
theorem dX3_back_18 : decode cX3_back 18 = .ok (.iload_n 1, 1) := by decide +kernel
theorem dX3_back_19 : decode cX3_back 19 = .ok (.aaload, 1) := by decide +kernel
theorem dX3_back_20 : decode cX3_back 20 = .ok (.iconst 1, 1) := by decide +kernel
theorem dX3_back_21 : decode cX3_back 21 = .ok (.iaload, 1) := by decide +kernel
theorem dX3_back_22 : decode cX3_back 22 = .ok (.iload_n 1, 1) := by decide +kernel
theorem dX3_back_23 : decode cX3_back 23 = .ok (.invokevirtual 58, 3) := by decide +kernel
theorem dX3_back_26 : decode cX3_back 26 = .ok (.pop, 1) := by decide +kernel
theorem dX3_back_27 : decode cX3_back 27 = .ok (.return_, 1) := by decide +kernel
set_option maxRecDepth 20000 in
theorem ggX3_accept_X3_leave : GoodIn wsX3_accept wsX3_leave := goodIn_r _ [9, 10, 11, 12, 13, 14, 15, 16, 17, 18, 19, 20, 21] (by decide +kernel) (by decide +kernel)
set_option maxRecDepth 20000 in
theorem gX3_accept_X3_leave : GoodIn wsX3_accept (wsV RX3 54 RX3 yX3_leave wsX3_leave) := goodIn_app (goodIn_of _ (by decide +kernel)) ggX3_accept_X3_leave
theorem dX3_accept_0 : decode cX3_accept 0 = .ok (.aload_n 0, 1) := by decide +kernel
theorem dX3_accept_1 : decode cX3_accept 1 = .ok (.getfield 19, 3) := by decide +kernel
theorem dX3_accept_4 : decode cX3_accept 4 = .ok (.aload_n 0, 1) := by decide +kernel
theorem dX3_accept_5 : decode cX3_accept 5 = .ok (.getfield 16, 3) := by decide +kernel
theorem dX3_accept_8 : decode cX3_accept 8 = .ok (.iload_n 1, 1) := by decide +kernel
theorem dX3_accept_9 : decode cX3_accept 9 = .ok (.aaload, 1) := by decide +kernel
theorem dX3_accept_10 : decode cX3_accept 10 = .ok (.iconst 3, 1) := by decide +kernel
theorem dX3_accept_11 : decode cX3_accept 11 = .ok (.iaload, 1) := by decide +kernel
theorem dX3_accept_12 : decode cX3_accept 12 = .ok (.aaload, 1) := by decide +kernel
theorem dX3_accept_13 : decode cX3_accept 13 = .ok (.astore_n 2, 1) := by decide +kernel
theorem dX3_accept_14 : decode cX3_accept 14 = .ok (.aload_n 0, 1) := by decide +kernel
theorem dX3_accept_15 : decode cX3_accept 15 = .ok (.getfield 9, 3) := by decide +kernel
theorem dX3_accept_18 : decode cX3_accept 18 = .ok (.aload_n 0, 1) := by decide +kernel
theorem dX3_accept_19 : decode cX3_accept 19 = .ok (.getfield 16, 3) := by decide +kernel
theorem dX3_accept_22 : decode cX3_accept 22 = .ok (.iload_n 1, 1) := by decide +kernel
theorem dX3_accept_23 : decode cX3_accept 23 = .ok (.aaload, 1) := by decide +kernel
theorem dX3_accept_24 : decode cX3_accept 24 = .ok (.iconst 1, 1) := by decide +kernel
theorem dX3_accept_25 : decode cX3_accept 25 = .ok (.iaload, 1) := by decide +kernel
theorem dX3_accept_26 : decode cX3_accept 26 = .ok (.aaload, 1) := by decide +kernel
theorem dX3_accept_27 : decode cX3_accept 27 = .ok (.aload_n 2, 1) := by decide +kernel
theorem dX3_accept_28 : decode cX3_accept 28 = .ok (.iconst 0, 1) := by decide +kernel
theorem dX3_accept_29 : decode cX3_accept 29 = .ok (.iaload, 1) := by decide +kernel
theorem dX3_accept_30 : decode cX3_accept 30 = .ok (.iaload, 1) := by decide +kernel
theorem dX3_accept_31 : decode cX3_accept 31 = .ok (.istore_n 3, 1) := by decide +kernel
theorem dX3_accept_32 : decode cX3_accept 32 = .ok (.aload_n 0, 1) := by decide +kernel
theorem dX3_accept_33 : decode cX3_accept 33 = .ok (.aload_n 0, 1) := by decide +kernel
theorem dX3_accept_34 : decode cX3_accept 34 = .ok (.getfield 16, 3) := by decide +kernel
theorem dX3_accept_37 : decode cX3_accept 37 = .ok (.iload_n 1, 1) := by decide +kernel
theorem dX3_accept_38 : decode cX3_accept 38 = .ok (.aaload, 1) := by decide +kernel
theorem dX3_accept_39 : decode cX3_accept 39 = .ok (.iconst 1, 1) := by decide +kernel
theorem dX3_accept_40 : decode cX3_accept 40 = .ok (.iaload, 1) := by decide +kernel
theorem dX3_accept_41 : decode cX3_accept 41 = .ok (.iload_n 1, 1) := by decide +kernel
theorem dX3_accept_42 : decode cX3_accept 42 = .ok (.invokevirtual 54, 3) := by decide +kernel
theorem dX3_accept_45 : decode cX3_accept 45 = .ok (.aload_n 0, 1) := by decide +kernel
theorem dX3_accept_46 : decode cX3_accept 46 = .ok (.getfield 16, 3) := by decide +kernel
theorem dX3_accept_49 : decode cX3_accept 49 = .ok (.iload_n 1, 1) := by decide +kernel
theorem dX3_accept_50 : decode cX3_accept 50 = .ok (.aaload, 1) := by decide +kernel
theorem dX3_accept_51 : decode cX3_accept 51 = .ok (.iconst 2, 1) := by decide +kernel
theorem dX3_accept_52 : decode cX3_accept 52 = .ok (.iconst 2, 1) := by decide +kernel
theorem dX3_accept_53 : decode cX3_accept 53 = .ok (.iastore, 1) := by decide +kernel
theorem dX3_accept_54 : decode cX3_accept 54 = .ok (.aload_n 0, 1) := by decide +kernel
theorem dX3_accept_55 : decode cX3_accept 55 = .ok (.getfield 16, 3) := by decide +kernel
theorem dX3_accept_58 : decode cX3_accept 58 = .ok (.iload_n 1, 1) := by decide +kernel
theorem dX3_accept_59 : decode cX3_accept 59 = .ok (.aaload, 1) := by decide +kernel
theorem dX3_accept_60 : decode cX3_accept 60 = .ok (.iconst 4, 1) := by decide +kernel
theorem dX3_accept_61 : decode cX3_accept 61 = .ok (.aload_n 0, 1) := by decide +kernel
theorem dX3_accept_62 : decode cX3_accept 62 = .ok (.getfield 47, 3) := by decide +kernel
theorem dX3_accept_65 : decode cX3_accept 65 = .ok (.iload_n 3, 1) := by decide +kernel
theorem dX3_accept_66 : decode cX3_accept 66 = .ok (.iadd, 1) := by decide +kernel
theorem dX3_accept_67 : decode cX3_accept 67 = .ok (.iastore, 1) := by decide +kernel
theorem dX3_accept_68 : decode cX3_accept 68 = .ok (.aload_n 2, 1) := by decide +kernel
theorem dX3_accept_69 : decode cX3_accept 69 = .ok (.iconst 4, 1) := by decide +kernel
theorem dX3_accept_70 : decode cX3_accept 70 = .ok (.iconst 2, 1) := by decide +kernel
theorem dX3_accept_71 : decode cX3_accept 71 = .ok (.iastore, 1) := by decide +kernel
theorem dX3_accept_72 : decode cX3_accept 72 = .ok (.iload_n 3, 1) := by decide +kernel
theorem dX3_accept_73 : decode cX3_accept 73 = .ok (.ireturn, 1) := by decide +kernel
set_option maxRecDepth 20000 in
theorem ggX3_cancel_X3_free : GoodIn wsX3_cancel wsX3_free := goodIn_r _ [7, 2, 8, 9, 10, 6, 11, 12, 13, 14, 15, 16, 17, 18, 19, 20, 21, 22, 23] (by decide +kernel) (by decide +kernel)
set_option maxRecDepth 20000 in
theorem gX3_cancel_X3_free : GoodIn wsX3_cancel (wsV RX3 61 RX3 yX3_free wsX3_free) := goodIn_app (goodIn_of _ (by decide +kernel)) ggX3_cancel_X3_free
theorem dX3_cancel_0 : decode cX3_cancel 0 = .ok (.aload_n 0, 1) := by decide +kernel
theorem dX3_cancel_1 : decode cX3_cancel 1 = .ok (.getfield 19, 3) := by decide +kernel
theorem dX3_cancel_4 : decode cX3_cancel 4 = .ok (.iload_n 1, 1) := by decide +kernel
theorem dX3_cancel_5 : decode cX3_cancel 5 = .ok (.aaload, 1) := by decide +kernel
theorem dX3_cancel_6 : decode cX3_cancel 6 = .ok (.iconst 4, 1) := by decide +kernel
theorem dX3_cancel_7 : decode cX3_cancel 7 = .ok (.iaload, 1) := by decide +kernel
theorem dX3_cancel_8 : decode cX3_cancel 8 = .ok (.istore_n 2, 1) := by decide +kernel
theorem dX3_cancel_9 : decode cX3_cancel 9 = .ok (.aload_n 0, 1) := by decide +kernel
theorem dX3_cancel_10 : decode cX3_cancel 10 = .ok (.getfield 19, 3) := by decide +kernel
theorem dX3_cancel_13 : decode cX3_cancel 13 = .ok (.iload_n 1, 1) := by decide +kernel
theorem dX3_cancel_14 : decode cX3_cancel 14 = .ok (.aaload, 1) := by decide +kernel
theorem dX3_cancel_15 : decode cX3_cancel 15 = .ok (.iconst 5, 1) := by decide +kernel
theorem dX3_cancel_16 : decode cX3_cancel 16 = .ok (.iaload, 1) := by decide +kernel
theorem dX3_cancel_17 : decode cX3_cancel 17 = .ok (.istore_n 3, 1) := by decide +kernel
theorem dX3_cancel_18 : decode cX3_cancel 18 = .ok (.iload_n 2, 1) := by decide +kernel
theorem dX3_cancel_19 : decode cX3_cancel 19 = .ok (.iconst 1, 1) := by decide +kernel
theorem dX3_cancel_20 : decode cX3_cancel 20 = .ok (.if_icmp .ne 12, 3) := by decide +kernel
theorem dX3_cancel_23 : decode cX3_cancel 23 = .ok (.aload_n 0, 1) := by decide +kernel
theorem dX3_cancel_24 : decode cX3_cancel 24 = .ok (.getfield 16, 3) := by decide +kernel
theorem dX3_cancel_27 : decode cX3_cancel 27 = .ok (.iload_n 3, 1) := by decide +kernel
theorem dX3_cancel_28 : decode cX3_cancel 28 = .ok (.aaload, 1) := by decide +kernel
theorem dX3_cancel_29 : decode cX3_cancel 29 = .ok (.iconst 3, 1) := by decide +kernel
theorem dX3_cancel_30 : decode cX3_cancel 30 = .ok (.iconst (-1), 1) := by decide +kernel
theorem dX3_cancel_31 : decode cX3_cancel 31 = .ok (.iastore, 1) := by decide +kernel
theorem dX3_cancel_32 : decode cX3_cancel 32 = .ok (.iload_n 2, 1) := by decide +kernel
theorem dX3_cancel_33 : decode cX3_cancel 33 = .ok (.iconst 2, 1) := by decide +kernel
theorem dX3_cancel_34 : decode cX3_cancel 34 = .ok (.if_icmp .ne 16, 3) := by decide +kernel
theorem dX3_cancel_37 : decode cX3_cancel 37 = .ok (.aload_n 0, 1) := by decide +kernel
theorem dX3_cancel_38 : decode cX3_cancel 38 = .ok (.iload_n 3, 1) := by decide +kernel
theorem dX3_cancel_39 : decode cX3_cancel 39 = .ok (.aload_n 0, 1) := by decide +kernel
theorem dX3_cancel_40 : decode cX3_cancel 40 = .ok (.getfield 16, 3) := by decide +kernel
theorem dX3_cancel_43 : decode cX3_cancel 43 = .ok (.iload_n 3, 1) := by decide +kernel
theorem dX3_cancel_44 : decode cX3_cancel 44 = .ok (.aaload, 1) := by decide +kernel
theorem dX3_cancel_45 : decode cX3_cancel 45 = .ok (.iconst 1, 1) := by decide +kernel
theorem dX3_cancel_46 : decode cX3_cancel 46 = .ok (.iaload, 1) := by decide +kernel
theorem dX3_cancel_47 : decode cX3_cancel 47 = .ok (.invokevirtual 61, 3) := by decide +kernel
theorem dX3_cancel_50 : decode cX3_cancel 50 = .ok (.aload_n 0, 1) := by decide +kernel
theorem dX3_cancel_51 : decode cX3_cancel 51 = .ok (.getfield 19, 3) := by decide +kernel
theorem dX3_cancel_54 : decode cX3_cancel 54 = .ok (.iload_n 1, 1) := by decide +kernel
theorem dX3_cancel_55 : decode cX3_cancel 55 = .ok (.aaload, 1) := by decide +kernel
theorem dX3_cancel_56 : decode cX3_cancel 56 = .ok (.iconst 4, 1) := by decide +kernel
theorem dX3_cancel_57 : decode cX3_cancel 57 = .ok (.iconst 5, 1) := by decide +kernel
theorem dX3_cancel_58 : decode cX3_cancel 58 = .ok (.iastore, 1) := by decide +kernel
theorem dX3_cancel_59 : decode cX3_cancel 59 = .ok (.aload_n 0, 1) := by decide +kernel
theorem dX3_cancel_60 : decode cX3_cancel 60 = .ok (.getfield 19, 3) := by decide +kernel
theorem dX3_cancel_63 : decode cX3_cancel 63 = .ok (.iload_n 1, 1) := by decide +kernel
theorem dX3_cancel_64 : decode cX3_cancel 64 = .ok (.aaload, 1) := by decide +kernel
theorem dX3_cancel_65 : decode cX3_cancel 65 = .ok (.iconst 5, 1) := by decide +kernel
theorem dX3_cancel_66 : decode cX3_cancel 66 = .ok (.iconst (-1), 1) := by decide +kernel
theorem dX3_cancel_67 : decode cX3_cancel 67 = .ok (.iastore, 1) := by decide +kernel
theorem dX3_cancel_68 : decode cX3_cancel 68 = .ok (.iload_n 2, 1) := by decide +kernel
theorem dX3_cancel_69 : decode cX3_cancel 69 = .ok (.ireturn, 1) := by decide +kernel
set_option maxRecDepth 20000 in
theorem ggX3_free_X3_join : GoodIn wsX3_free wsX3_join := goodIn_r _ [6, 7, 8, 9, 10, 11, 12, 13, 14, 15, 16, 17, 18] (by decide +kernel) (by decide +kernel)
set_option maxRecDepth 20000 in
theorem gX3_free_X3_join : GoodIn wsX3_free (wsV RX3 58 RX3 yX3_join wsX3_join) := goodIn_app (goodIn_of _ (by decide +kernel)) ggX3_free_X3_join
theorem dX3_free_0 : decode cX3_free 0 = .ok (.aload_n 0, 1) := by decide +kernel
theorem dX3_free_1 : decode cX3_free 1 = .ok (.getfield 16, 3) := by decide +kernel
theorem dX3_free_4 : decode cX3_free 4 = .ok (.iload_n 1, 1) := by decide +kernel
theorem dX3_free_5 : decode cX3_free 5 = .ok (.aaload, 1) := by decide +kernel
theorem dX3_free_6 : decode cX3_free 6 = .ok (.iconst 2, 1) := by decide +kernel
theorem dX3_free_7 : decode cX3_free 7 = .ok (.iconst 1, 1) := by decide +kernel
theorem dX3_free_8 : decode cX3_free 8 = .ok (.iastore, 1) := by decide +kernel
theorem dX3_free_9 : decode cX3_free 9 = .ok (.aload_n 0, 1) := by decide +kernel
theorem dX3_free_10 : decode cX3_free 10 = .ok (.getfield 16, 3) := by decide +kernel
theorem dX3_free_13 : decode cX3_free 13 = .ok (.iload_n 1, 1) := by decide +kernel
theorem dX3_free_14 : decode cX3_free 14 = .ok (.aaload, 1) := by decide +kernel
theorem dX3_free_15 : decode cX3_free 15 = .ok (.iconst 1, 1) := by decide +kernel
theorem dX3_free_16 : decode cX3_free 16 = .ok (.iload_n 2, 1) := by decide +kernel
theorem dX3_free_17 : decode cX3_free 17 = .ok (.iastore, 1) := by decide +kernel
theorem dX3_free_18 : decode cX3_free 18 = .ok (.aload_n 0, 1) := by decide +kernel
theorem dX3_free_19 : decode cX3_free 19 = .ok (.getfield 16, 3) := by decide +kernel
theorem dX3_free_22 : decode cX3_free 22 = .ok (.iload_n 1, 1) := by decide +kernel
theorem dX3_free_23 : decode cX3_free 23 = .ok (.aaload, 1) := by decide +kernel
theorem dX3_free_24 : decode cX3_free 24 = .ok (.iconst 3, 1) := by decide +kernel
theorem dX3_free_25 : decode cX3_free 25 = .ok (.iconst (-1), 1) := by decide +kernel
theorem dX3_free_26 : decode cX3_free 26 = .ok (.iastore, 1) := by decide +kernel
theorem dX3_free_27 : decode cX3_free 27 = .ok (.aload_n 0, 1) := by decide +kernel
theorem dX3_free_28 : decode cX3_free 28 = .ok (.iload_n 2, 1) := by decide +kernel
theorem dX3_free_29 : decode cX3_free 29 = .ok (.iload_n 1, 1) := by decide +kernel
theorem dX3_free_30 : decode cX3_free 30 = .ok (.invokevirtual 58, 3) := by decide +kernel
theorem dX3_free_33 : decode cX3_free 33 = .ok (.pop, 1) := by decide +kernel
theorem dX3_free_34 : decode cX3_free 34 = .ok (.return_, 1) := by decide +kernel
set_option maxRecDepth 20000 in
theorem ggX3_minute_X3_refuse : GoodIn wsX3_minute wsX3_refuse := goodIn_r _ [13, 3, 14, 4, 45, 46, 47, 48, 49, 50, 51, 52, 53, 54, 55] (by decide +kernel) (by decide +kernel)
set_option maxRecDepth 20000 in
theorem gX3_minute_X3_refuse : GoodIn wsX3_minute (wsV RX3 67 RX3 yX3_refuse wsX3_refuse) := goodIn_app (goodIn_of _ (by decide +kernel)) ggX3_minute_X3_refuse
set_option maxRecDepth 20000 in
theorem ggX3_minute_X3_back : GoodIn wsX3_minute wsX3_back := goodIn_r _ [18, 3, 19, 20, 21, 12, 22, 23, 24, 25, 26, 27, 45, 46, 47, 48, 49, 50, 51, 52, 53, 54, 55] (by decide +kernel) (by decide +kernel)
set_option maxRecDepth 20000 in
theorem gX3_minute_X3_back : GoodIn wsX3_minute (wsV RX3 71 RX3 yX3_back wsX3_back) := goodIn_app (goodIn_of _ (by decide +kernel)) ggX3_minute_X3_back
set_option maxRecDepth 20000 in
theorem ggX3_minute_X3_free : GoodIn wsX3_minute wsX3_free := goodIn_r _ [31, 3, 24, 25, 26, 12, 27, 23, 45, 46, 47, 48, 49, 50, 51, 52, 53, 54, 55] (by decide +kernel) (by decide +kernel)
set_option maxRecDepth 20000 in
theorem gX3_minute_X3_free : GoodIn wsX3_minute (wsV RX3 61 RX3 yX3_free wsX3_free) := goodIn_app (goodIn_of _ (by decide +kernel)) ggX3_minute_X3_free
set_option maxRecDepth 20000 in
theorem ggX3_minute_X3_offer : GoodIn wsX3_minute wsX3_offer := goodIn_r _ [35, 36, 4, 1, 3, 37, 38, 39, 12, 40, 6, 41, 42, 43, 44, 23, 14, 45, 46, 47, 48, 49, 50, 51, 52, 53, 54, 55] (by decide +kernel) (by decide +kernel)
set_option maxRecDepth 20000 in
theorem gX3_minute_X3_offer : GoodIn wsX3_minute (wsV RX3 74 RX3 yX3_offer wsX3_offer) := goodIn_app (goodIn_of _ (by decide +kernel)) ggX3_minute_X3_offer
theorem dX3_minute_0 : decode cX3_minute 0 = .ok (.aload_n 0, 1) := by decide +kernel
theorem dX3_minute_1 : decode cX3_minute 1 = .ok (.dup, 1) := by decide +kernel
theorem dX3_minute_2 : decode cX3_minute 2 = .ok (.getfield 47, 3) := by decide +kernel
theorem dX3_minute_5 : decode cX3_minute 5 = .ok (.iconst 1, 1) := by decide +kernel
theorem dX3_minute_6 : decode cX3_minute 6 = .ok (.iadd, 1) := by decide +kernel
theorem dX3_minute_7 : decode cX3_minute 7 = .ok (.putfield 47, 3) := by decide +kernel
theorem dX3_minute_10 : decode cX3_minute 10 = .ok (.iconst 0, 1) := by decide +kernel
theorem dX3_minute_11 : decode cX3_minute 11 = .ok (.istore_n 1, 1) := by decide +kernel
theorem dX3_minute_12 : decode cX3_minute 12 = .ok (.iload_n 1, 1) := by decide +kernel
theorem dX3_minute_13 : decode cX3_minute 13 = .ok (.aload_n 0, 1) := by decide +kernel
theorem dX3_minute_14 : decode cX3_minute 14 = .ok (.getfield 64, 3) := by decide +kernel
theorem dX3_minute_17 : decode cX3_minute 17 = .ok (.if_icmp .ge 62, 3) := by decide +kernel
theorem dX3_minute_20 : decode cX3_minute 20 = .ok (.aload_n 0, 1) := by decide +kernel
theorem dX3_minute_21 : decode cX3_minute 21 = .ok (.getfield 16, 3) := by decide +kernel
theorem dX3_minute_24 : decode cX3_minute 24 = .ok (.iload_n 1, 1) := by decide +kernel
theorem dX3_minute_25 : decode cX3_minute 25 = .ok (.aaload, 1) := by decide +kernel
theorem dX3_minute_26 : decode cX3_minute 26 = .ok (.iconst 2, 1) := by decide +kernel
theorem dX3_minute_27 : decode cX3_minute 27 = .ok (.iaload, 1) := by decide +kernel
theorem dX3_minute_28 : decode cX3_minute 28 = .ok (.iconst 1, 1) := by decide +kernel
theorem dX3_minute_29 : decode cX3_minute 29 = .ok (.if_icmp .ne 44, 3) := by decide +kernel
theorem dX3_minute_32 : decode cX3_minute 32 = .ok (.aload_n 0, 1) := by decide +kernel
theorem dX3_minute_33 : decode cX3_minute 33 = .ok (.getfield 16, 3) := by decide +kernel
theorem dX3_minute_36 : decode cX3_minute 36 = .ok (.iload_n 1, 1) := by decide +kernel
theorem dX3_minute_37 : decode cX3_minute 37 = .ok (.aaload, 1) := by decide +kernel
theorem dX3_minute_38 : decode cX3_minute 38 = .ok (.iconst 3, 1) := by decide +kernel
theorem dX3_minute_39 : decode cX3_minute 39 = .ok (.iaload, 1) := by decide +kernel
theorem dX3_minute_40 : decode cX3_minute 40 = .ok (.ifCond .lt 33, 3) := by decide +kernel
theorem dX3_minute_43 : decode cX3_minute 43 = .ok (.aload_n 0, 1) := by decide +kernel
theorem dX3_minute_44 : decode cX3_minute 44 = .ok (.getfield 47, 3) := by decide +kernel
theorem dX3_minute_47 : decode cX3_minute 47 = .ok (.aload_n 0, 1) := by decide +kernel
theorem dX3_minute_48 : decode cX3_minute 48 = .ok (.getfield 16, 3) := by decide +kernel
theorem dX3_minute_51 : decode cX3_minute 51 = .ok (.iload_n 1, 1) := by decide +kernel
theorem dX3_minute_52 : decode cX3_minute 52 = .ok (.aaload, 1) := by decide +kernel
theorem dX3_minute_53 : decode cX3_minute 53 = .ok (.iconst 4, 1) := by decide +kernel
theorem dX3_minute_54 : decode cX3_minute 54 = .ok (.iaload, 1) := by decide +kernel
theorem dX3_minute_55 : decode cX3_minute 55 = .ok (.iconst 2, 1) := by decide +kernel
theorem dX3_minute_56 : decode cX3_minute 56 = .ok (.iadd, 1) := by decide +kernel
theorem dX3_minute_57 : decode cX3_minute 57 = .ok (.if_icmp .ge 6, 3) := by decide +kernel
theorem dX3_minute_60 : decode cX3_minute 60 = .ok (.goto 13, 3) := by decide +kernel
theorem dX3_minute_63 : decode cX3_minute 63 = .ok (.aload_n 0, 1) := by decide +kernel
theorem dX3_minute_64 : decode cX3_minute 64 = .ok (.iload_n 1, 1) := by decide +kernel
theorem dX3_minute_65 : decode cX3_minute 65 = .ok (.invokevirtual 67, 3) := by decide +kernel
theorem dX3_minute_68 : decode cX3_minute 68 = .ok (.aload_n 0, 1) := by decide +kernel
theorem dX3_minute_69 : decode cX3_minute 69 = .ok (.iload_n 1, 1) := by decide +kernel
theorem dX3_minute_70 : decode cX3_minute 70 = .ok (.invokevirtual 71, 3) := by decide +kernel
theorem dX3_minute_73 : decode cX3_minute 73 = .ok (.iinc 1 1, 3) := by decide +kernel
theorem dX3_minute_76 : decode cX3_minute 76 = .ok (.goto (-64), 3) := by decide +kernel
theorem dX3_minute_79 : decode cX3_minute 79 = .ok (.iconst 0, 1) := by decide +kernel
theorem dX3_minute_80 : decode cX3_minute 80 = .ok (.istore_n 1, 1) := by decide +kernel
theorem dX3_minute_81 : decode cX3_minute 81 = .ok (.iconst 0, 1) := by decide +kernel
theorem dX3_minute_82 : decode cX3_minute 82 = .ok (.istore_n 2, 1) := by decide +kernel
theorem dX3_minute_83 : decode cX3_minute 83 = .ok (.iload_n 2, 1) := by decide +kernel
theorem dX3_minute_84 : decode cX3_minute 84 = .ok (.aload_n 0, 1) := by decide +kernel
theorem dX3_minute_85 : decode cX3_minute 85 = .ok (.getfield 64, 3) := by decide +kernel
theorem dX3_minute_88 : decode cX3_minute 88 = .ok (.if_icmp .ge 281, 3) := by decide +kernel
theorem dX3_minute_91 : decode cX3_minute 91 = .ok (.aload_n 0, 1) := by decide +kernel
theorem dX3_minute_92 : decode cX3_minute 92 = .ok (.getfield 16, 3) := by decide +kernel
theorem dX3_minute_95 : decode cX3_minute 95 = .ok (.iload_n 2, 1) := by decide +kernel
theorem dX3_minute_96 : decode cX3_minute 96 = .ok (.aaload, 1) := by decide +kernel
theorem dX3_minute_97 : decode cX3_minute 97 = .ok (.iconst 2, 1) := by decide +kernel
theorem dX3_minute_98 : decode cX3_minute 98 = .ok (.iaload, 1) := by decide +kernel
theorem dX3_minute_99 : decode cX3_minute 99 = .ok (.iconst 2, 1) := by decide +kernel
theorem dX3_minute_100 : decode cX3_minute 100 = .ok (.if_icmp .lt 263, 3) := by decide +kernel
theorem dX3_minute_103 : decode cX3_minute 103 = .ok (.aload_n 0, 1) := by decide +kernel
theorem dX3_minute_104 : decode cX3_minute 104 = .ok (.getfield 47, 3) := by decide +kernel
theorem dX3_minute_107 : decode cX3_minute 107 = .ok (.aload_n 0, 1) := by decide +kernel
theorem dX3_minute_108 : decode cX3_minute 108 = .ok (.getfield 16, 3) := by decide +kernel
theorem dX3_minute_111 : decode cX3_minute 111 = .ok (.iload_n 2, 1) := by decide +kernel
theorem dX3_minute_112 : decode cX3_minute 112 = .ok (.aaload, 1) := by decide +kernel
theorem dX3_minute_113 : decode cX3_minute 113 = .ok (.iconst 4, 1) := by decide +kernel
theorem dX3_minute_114 : decode cX3_minute 114 = .ok (.iaload, 1) := by decide +kernel
theorem dX3_minute_115 : decode cX3_minute 115 = .ok (.if_icmp .ge 6, 3) := by decide +kernel
theorem dX3_minute_118 : decode cX3_minute 118 = .ok (.goto 245, 3) := by decide +kernel
theorem dX3_minute_121 : decode cX3_minute 121 = .ok (.aload_n 0, 1) := by decide +kernel
theorem dX3_minute_122 : decode cX3_minute 122 = .ok (.getfield 19, 3) := by decide +kernel
theorem dX3_minute_125 : decode cX3_minute 125 = .ok (.aload_n 0, 1) := by decide +kernel
