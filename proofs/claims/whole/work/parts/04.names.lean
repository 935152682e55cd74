theorem dX2_orderNumbered_6 : decode cX2_orderNumbered 6 = .ok (.getfield 20, 3) := by decide +kernel
theorem dX2_orderNumbered_9 : decode cX2_orderNumbered 9 = .ok (.invokevirtual 59, 3) := by decide +kernel
theorem dX2_orderNumbered_12 : decode cX2_orderNumbered 12 = .ok (.if_icmp .lt 13, 3) := by decide +kernel
theorem dX2_orderNumbered_15 : decode cX2_orderNumbered 15 = .ok (.new 108, 3) := by decide +kernel
theorem dX2_orderNumbered_18 : decode cX2_orderNumbered 18 = .ok (.dup, 1) := by decide +kernel
theorem dX2_orderNumbered_19 : decode cX2_orderNumbered 19 = .ok (.ldc 238, 2) := by decide +kernel
theorem dX2_orderNumbered_21 : decode cX2_orderNumbered 21 = .ok (.invokespecial 112, 3) := by decide +kernel
theorem dX2_orderNumbered_24 : decode cX2_orderNumbered 24 = .ok (.athrow, 1) := by decide +kernel
theorem dX2_orderNumbered_25 : decode cX2_orderNumbered 25 = .ok (.aload_n 0, 1) := by decide +kernel
theorem dX2_orderNumbered_26 : decode cX2_orderNumbered 26 = .ok (.getfield 20, 3) := by decide +kernel
theorem dX2_orderNumbered_29 : decode cX2_orderNumbered 29 = .ok (.iload_n 1, 1) := by decide +kernel
theorem dX2_orderNumbered_30 : decode cX2_orderNumbered 30 = .ok (.invokevirtual 197, 3) := by decide +kernel
theorem dX2_orderNumbered_33 : decode cX2_orderNumbered 33 = .ok (.checkcast 127, 3) := by decide +kernel
theorem dX2_orderNumbered_36 : decode cX2_orderNumbered 36 = .ok (.areturn, 1) := by decide +kernel
theorem dX2_wayBetween_0 : decode cX2_wayBetween 0 = .ok (.iload_n 1, 1) := by decide +kernel
theorem dX2_wayBetween_1 : decode cX2_wayBetween 1 = .ok (.bipush 6, 2) := by decide +kernel
theorem dX2_wayBetween_3 : decode cX2_wayBetween 3 = .ok (.imul, 1) := by decide +kernel
theorem dX2_wayBetween_4 : decode cX2_wayBetween 4 = .ok (.iload_n 2, 1) := by decide +kernel
theorem dX2_wayBetween_5 : decode cX2_wayBetween 5 = .ok (.iadd, 1) := by decide +kernel
theorem dX2_wayBetween_6 : decode cX2_wayBetween 6 = .ok (.istore_n 3, 1) := by decide +kernel
theorem dX2_wayBetween_7 : decode cX2_wayBetween 7 = .ok (.iload_n 3, 1) := by decide +kernel
theorem dX2_wayBetween_8 : decode cX2_wayBetween 8 = .ok (.ifCond .lt 21, 3) := by decide +kernel
theorem dX2_wayBetween_11 : decode cX2_wayBetween 11 = .ok (.iload_n 3, 1) := by decide +kernel
theorem dX2_wayBetween_12 : decode cX2_wayBetween 12 = .ok (.aload_n 0, 1) := by decide +kernel
theorem dX2_wayBetween_13 : decode cX2_wayBetween 13 = .ok (.getfield 9, 3) := by decide +kernel
theorem dX2_wayBetween_16 : decode cX2_wayBetween 16 = .ok (.arraylength, 1) := by decide +kernel
theorem dX2_wayBetween_17 : decode cX2_wayBetween 17 = .ok (.if_icmp .ge 12, 3) := by decide +kernel
theorem dX2_wayBetween_20 : decode cX2_wayBetween 20 = .ok (.aload_n 0, 1) := by decide +kernel
theorem dX2_wayBetween_21 : decode cX2_wayBetween 21 = .ok (.getfield 9, 3) := by decide +kernel
theorem dX2_wayBetween_24 : decode cX2_wayBetween 24 = .ok (.iload_n 3, 1) := by decide +kernel
theorem dX2_wayBetween_25 : decode cX2_wayBetween 25 = .ok (.iaload, 1) := by decide +kernel
theorem dX2_wayBetween_26 : decode cX2_wayBetween 26 = .ok (.goto 4, 3) := by decide +kernel
theorem dX2_wayBetween_29 : decode cX2_wayBetween 29 = .ok (.iconst 5, 1) := by decide +kernel
theorem dX2_wayBetween_30 : decode cX2_wayBetween 30 = .ok (.ireturn, 1) := by decide +kernel
theorem dX2_putWay_0 : decode cX2_putWay 0 = .ok (.iload_n 1, 1) := by decide +kernel
theorem dX2_putWay_1 : decode cX2_putWay 1 = .ok (.bipush 6, 2) := by decide +kernel
theorem dX2_putWay_3 : decode cX2_putWay 3 = .ok (.imul, 1) := by decide +kernel
theorem dX2_putWay_4 : decode cX2_putWay 4 = .ok (.iload_n 2, 1) := by decide +kernel
theorem dX2_putWay_5 : decode cX2_putWay 5 = .ok (.iadd, 1) := by decide +kernel
theorem dX2_putWay_6 : decode cX2_putWay 6 = .ok (.istore 4, 2) := by decide +kernel
theorem dX2_putWay_8 : decode cX2_putWay 8 = .ok (.iload 4, 2) := by decide +kernel
theorem dX2_putWay_10 : decode cX2_putWay 10 = .ok (.ifCond .lt 21, 3) := by decide +kernel
theorem dX2_putWay_13 : decode cX2_putWay 13 = .ok (.iload 4, 2) := by decide +kernel
theorem dX2_putWay_15 : decode cX2_putWay 15 = .ok (.aload_n 0, 1) := by decide +kernel
theorem dX2_putWay_16 : decode cX2_putWay 16 = .ok (.getfield 9, 3) := by decide +kernel
theorem dX2_putWay_19 : decode cX2_putWay 19 = .ok (.arraylength, 1) := by decide +kernel
theorem dX2_putWay_20 : decode cX2_putWay 20 = .ok (.if_icmp .ge 11, 3) := by decide +kernel
theorem dX2_putWay_23 : decode cX2_putWay 23 = .ok (.aload_n 0, 1) := by decide +kernel
theorem dX2_putWay_24 : decode cX2_putWay 24 = .ok (.getfield 9, 3) := by decide +kernel
theorem dX2_putWay_27 : decode cX2_putWay 27 = .ok (.iload 4, 2) := by decide +kernel
theorem dX2_putWay_29 : decode cX2_putWay 29 = .ok (.iload_n 3, 1) := by decide +kernel
theorem dX2_putWay_30 : decode cX2_putWay 30 = .ok (.iastore, 1) := by decide +kernel
theorem dX2_putWay_31 : decode cX2_putWay 31 = .ok (.return_, 1) := by decide +kernel
theorem dX2_joinQueue_0 : decode cX2_joinQueue 0 = .ok (.aload_n 1, 1) := by decide +kernel
theorem dX2_joinQueue_1 : decode cX2_joinQueue 1 = .ok (.iconst 1, 1) := by decide +kernel
theorem dX2_joinQueue_2 : decode cX2_joinQueue 2 = .ok (.putfield 80, 3) := by decide +kernel
theorem dX2_joinQueue_5 : decode cX2_joinQueue 5 = .ok (.aload_n 1, 1) := by decide +kernel
theorem dX2_joinQueue_6 : decode cX2_joinQueue 6 = .ok (.aload_n 0, 1) := by decide +kernel
theorem dX2_joinQueue_7 : decode cX2_joinQueue 7 = .ok (.getfield 240, 3) := by decide +kernel
theorem dX2_joinQueue_10 : decode cX2_joinQueue 10 = .ok (.putfield 243, 3) := by decide +kernel
theorem dX2_joinQueue_13 : decode cX2_joinQueue 13 = .ok (.aload_n 0, 1) := by decide +kernel
theorem dX2_joinQueue_14 : decode cX2_joinQueue 14 = .ok (.dup, 1) := by decide +kernel
theorem dX2_joinQueue_15 : decode cX2_joinQueue 15 = .ok (.getfield 240, 3) := by decide +kernel
theorem dX2_joinQueue_18 : decode cX2_joinQueue 18 = .ok (.iconst 1, 1) := by decide +kernel
theorem dX2_joinQueue_19 : decode cX2_joinQueue 19 = .ok (.iadd, 1) := by decide +kernel
theorem dX2_joinQueue_20 : decode cX2_joinQueue 20 = .ok (.putfield 240, 3) := by decide +kernel
theorem dX2_joinQueue_23 : decode cX2_joinQueue 23 = .ok (.return_, 1) := by decide +kernel
theorem dX2_isInQueue_0 : decode cX2_isInQueue 0 = .ok (.aload_n 0, 1) := by decide +kernel
theorem dX2_isInQueue_1 : decode cX2_isInQueue 1 = .ok (.getfield 80, 3) := by decide +kernel
theorem dX2_isInQueue_4 : decode cX2_isInQueue 4 = .ok (.iconst 1, 1) := by decide +kernel
theorem dX2_isInQueue_5 : decode cX2_isInQueue 5 = .ok (.if_icmp .ne 15, 3) := by decide +kernel
theorem dX2_isInQueue_8 : decode cX2_isInQueue 8 = .ok (.aload_n 0, 1) := by decide +kernel
theorem dX2_isInQueue_9 : decode cX2_isInQueue 9 = .ok (.getfield 101, 3) := by decide +kernel
theorem dX2_isInQueue_12 : decode cX2_isInQueue 12 = .ok (.iload_n 1, 1) := by decide +kernel
theorem dX2_isInQueue_13 : decode cX2_isInQueue 13 = .ok (.if_icmp .ne 7, 3) := by decide +kernel
theorem dX2_isInQueue_16 : decode cX2_isInQueue 16 = .ok (.iconst 1, 1) := by decide +kernel
theorem dX2_isInQueue_17 : decode cX2_isInQueue 17 = .ok (.goto 4, 3) := by decide +kernel
theorem dX2_isInQueue_20 : decode cX2_isInQueue 20 = .ok (.iconst 0, 1) := by decide +kernel
theorem dX2_isInQueue_21 : decode cX2_isInQueue 21 = .ok (.ireturn, 1) := by decide +kernel
set_option maxRecDepth 20000 in
theorem ggX2_placeOf_Jx4a65c_size_8abf5 : GoodIn wsX2_placeOf wsJx4a65c_size_8abf5 := goodIn_r _ [10, 11, 49, 50, 51] (by decide +kernel) (by decide +kernel)
set_option maxRecDepth 20000 in
theorem gX2_placeOf_Jx4a65c_size_8abf5 : GoodIn wsX2_placeOf (wsV RX2 59 RJx4a65c yJx4a65c_size_8abf5 wsJx4a65c_size_8abf5) := goodIn_app (goodIn_of _ (by decide +kernel)) ggX2_placeOf_Jx4a65c_size_8abf5
set_option maxRecDepth 20000 in
theorem ggX2_placeOf_Jx4a65c_get_915e3 : GoodIn wsX2_placeOf wsJx4a65c_get_915e3 := goodIn_r _ [15, 11, 16, 17, 18, 19, 20, 21, 22, 23, 24, 25, 26, 9, 27, 28, 49, 50, 51] (by decide +kernel) (by decide +kernel)
set_option maxRecDepth 20000 in
theorem gX2_placeOf_Jx4a65c_get_915e3 : GoodIn wsX2_placeOf (wsV RX2 197 RJx4a65c yJx4a65c_get_915e3 wsJx4a65c_get_915e3) := goodIn_app (goodIn_of _ (by decide +kernel)) ggX2_placeOf_Jx4a65c_get_915e3
set_option maxRecDepth 20000 in
theorem ggX2_placeOf_X2_isInQueue : GoodIn wsX2_placeOf wsX2_isInQueue := goodIn_r _ [32, 1, 4, 33, 34, 35, 36, 37, 38, 39, 40, 41] (by decide +kernel) (by decide +kernel)
set_option maxRecDepth 20000 in
theorem gX2_placeOf_X2_isInQueue : GoodIn wsX2_placeOf (va_wsS RX2 246 yX2_isInQueue wsX2_isInQueue) := goodIn_app (goodIn_of _ (by decide +kernel)) ggX2_placeOf_X2_isInQueue
theorem dX2_placeOf_0 : decode cX2_placeOf 0 = .ok (.aload_n 1, 1) := by decide +kernel
theorem dX2_placeOf_1 : decode cX2_placeOf 1 = .ok (.getfield 80, 3) := by decide +kernel
theorem dX2_placeOf_4 : decode cX2_placeOf 4 = .ok (.iconst 1, 1) := by decide +kernel
theorem dX2_placeOf_5 : decode cX2_placeOf 5 = .ok (.if_icmp .eq 5, 3) := by decide +kernel
theorem dX2_placeOf_8 : decode cX2_placeOf 8 = .ok (.iconst (-1), 1) := by decide +kernel
theorem dX2_placeOf_9 : decode cX2_placeOf 9 = .ok (.ireturn, 1) := by decide +kernel
theorem dX2_placeOf_10 : decode cX2_placeOf 10 = .ok (.iconst 0, 1) := by decide +kernel
theorem dX2_placeOf_11 : decode cX2_placeOf 11 = .ok (.istore_n 2, 1) := by decide +kernel
theorem dX2_placeOf_12 : decode cX2_placeOf 12 = .ok (.iconst 0, 1) := by decide +kernel
theorem dX2_placeOf_13 : decode cX2_placeOf 13 = .ok (.istore_n 3, 1) := by decide +kernel
theorem dX2_placeOf_14 : decode cX2_placeOf 14 = .ok (.iload_n 3, 1) := by decide +kernel
theorem dX2_placeOf_15 : decode cX2_placeOf 15 = .ok (.aload_n 0, 1) := by decide +kernel
theorem dX2_placeOf_16 : decode cX2_placeOf 16 = .ok (.getfield 16, 3) := by decide +kernel
theorem dX2_placeOf_19 : decode cX2_placeOf 19 = .ok (.invokevirtual 59, 3) := by decide +kernel
theorem dX2_placeOf_22 : decode cX2_placeOf 22 = .ok (.if_icmp .ge 49, 3) := by decide +kernel
theorem dX2_placeOf_25 : decode cX2_placeOf 25 = .ok (.aload_n 0, 1) := by decide +kernel
theorem dX2_placeOf_26 : decode cX2_placeOf 26 = .ok (.getfield 16, 3) := by decide +kernel
theorem dX2_placeOf_29 : decode cX2_placeOf 29 = .ok (.iload_n 3, 1) := by decide +kernel
theorem dX2_placeOf_30 : decode cX2_placeOf 30 = .ok (.invokevirtual 197, 3) := by decide +kernel
theorem dX2_placeOf_33 : decode cX2_placeOf 33 = .ok (.checkcast 68, 3) := by decide +kernel
theorem dX2_placeOf_36 : decode cX2_placeOf 36 = .ok (.astore 4, 2) := by decide +kernel
theorem dX2_placeOf_38 : decode cX2_placeOf 38 = .ok (.aload 4, 2) := by decide +kernel
theorem dX2_placeOf_40 : decode cX2_placeOf 40 = .ok (.aload_n 1, 1) := by decide +kernel
theorem dX2_placeOf_41 : decode cX2_placeOf 41 = .ok (.getfield 101, 3) := by decide +kernel
theorem dX2_placeOf_44 : decode cX2_placeOf 44 = .ok (.invokestatic 246, 3) := by decide +kernel
theorem dX2_placeOf_47 : decode cX2_placeOf 47 = .ok (.ifCond .eq 18, 3) := by decide +kernel
theorem dX2_placeOf_50 : decode cX2_placeOf 50 = .ok (.aload 4, 2) := by decide +kernel
theorem dX2_placeOf_52 : decode cX2_placeOf 52 = .ok (.getfield 243, 3) := by decide +kernel
theorem dX2_placeOf_55 : decode cX2_placeOf 55 = .ok (.aload_n 1, 1) := by decide +kernel
theorem dX2_placeOf_56 : decode cX2_placeOf 56 = .ok (.getfield 243, 3) := by decide +kernel
theorem dX2_placeOf_59 : decode cX2_placeOf 59 = .ok (.if_icmp .ge 6, 3) := by decide +kernel
theorem dX2_placeOf_62 : decode cX2_placeOf 62 = .ok (.iinc 2 1, 3) := by decide +kernel
theorem dX2_placeOf_65 : decode cX2_placeOf 65 = .ok (.iinc 3 1, 3) := by decide +kernel
theorem dX2_placeOf_68 : decode cX2_placeOf 68 = .ok (.goto (-54), 3) := by decide +kernel
theorem dX2_placeOf_71 : decode cX2_placeOf 71 = .ok (.iload_n 2, 1) := by decide +kernel
theorem dX2_placeOf_72 : decode cX2_placeOf 72 = .ok (.ireturn, 1) := by decide +kernel
set_option maxRecDepth 20000 in
theorem ggX2_cabInQueue_Jx4a65c_size_8abf5 : GoodIn wsX2_cabInQueue wsJx4a65c_size_8abf5 := goodIn_r _ [8, 9, 54, 55, 56] (by decide +kernel) (by decide +kernel)
set_option maxRecDepth 20000 in
theorem gX2_cabInQueue_Jx4a65c_size_8abf5 : GoodIn wsX2_cabInQueue (wsV RX2 59 RJx4a65c yJx4a65c_size_8abf5 wsJx4a65c_size_8abf5) := goodIn_app (goodIn_of _ (by decide +kernel)) ggX2_cabInQueue_Jx4a65c_size_8abf5
set_option maxRecDepth 20000 in
theorem ggX2_cabInQueue_Jx4a65c_get_915e3 : GoodIn wsX2_cabInQueue wsJx4a65c_get_915e3 := goodIn_r _ [13, 9, 14, 15, 16, 17, 18, 19, 20, 21, 22, 23, 24, 7, 25, 26, 54, 55, 56] (by decide +kernel) (by decide +kernel)
set_option maxRecDepth 20000 in
theorem gX2_cabInQueue_Jx4a65c_get_915e3 : GoodIn wsX2_cabInQueue (wsV RX2 197 RJx4a65c yJx4a65c_get_915e3 wsJx4a65c_get_915e3) := goodIn_app (goodIn_of _ (by decide +kernel)) ggX2_cabInQueue_Jx4a65c_get_915e3
set_option maxRecDepth 20000 in
theorem ggX2_cabInQueue_X2_isInQueue : GoodIn wsX2_cabInQueue wsX2_isInQueue := goodIn_r _ [30, 31, 32, 45, 46, 47, 48, 49, 50, 51, 52, 53] (by decide +kernel) (by decide +kernel)
set_option maxRecDepth 20000 in
theorem gX2_cabInQueue_X2_isInQueue : GoodIn wsX2_cabInQueue (va_wsS RX2 246 yX2_isInQueue wsX2_isInQueue) := goodIn_app (goodIn_of _ (by decide +kernel)) ggX2_cabInQueue_X2_isInQueue
set_option maxRecDepth 20000 in
theorem ggX2_cabInQueue_X2_placeOf : GoodIn wsX2_cabInQueue wsX2_placeOf := goodIn_r _ [36, 31, 1, 2, 32, 37, 4, 5, 6, 7, 8, 9, 10, 11, 12, 13, 14, 15, 16, 17, 18, 19, 20, 21, 22, 23, 24, 25, 26, 27, 28, 29, 30, 45, 46, 47, 48, 49, 50, 51, 52, 53, 38, 39, 40, 41, 42, 43, 44, 54, 55, 56] (by decide +kernel) (by decide +kernel)
set_option maxRecDepth 20000 in
theorem gX2_cabInQueue_X2_placeOf : GoodIn wsX2_cabInQueue (wsV RX2 92 RX2 yX2_placeOf wsX2_placeOf) := goodIn_app (goodIn_of _ (by decide +kernel)) ggX2_cabInQueue_X2_placeOf
theorem dX2_cabInQueue_0 : decode cX2_cabInQueue 0 = .ok (.iconst 0, 1) := by decide +kernel
theorem dX2_cabInQueue_1 : decode cX2_cabInQueue 1 = .ok (.istore_n 3, 1) := by decide +kernel
theorem dX2_cabInQueue_2 : decode cX2_cabInQueue 2 = .ok (.iload_n 3, 1) := by decide +kernel
theorem dX2_cabInQueue_3 : decode cX2_cabInQueue 3 = .ok (.aload_n 0, 1) := by decide +kernel
theorem dX2_cabInQueue_4 : decode cX2_cabInQueue 4 = .ok (.getfield 16, 3) := by decide +kernel
theorem dX2_cabInQueue_7 : decode cX2_cabInQueue 7 = .ok (.invokevirtual 59, 3) := by decide +kernel
theorem dX2_cabInQueue_10 : decode cX2_cabInQueue 10 = .ok (.if_icmp .ge 47, 3) := by decide +kernel
theorem dX2_cabInQueue_13 : decode cX2_cabInQueue 13 = .ok (.aload_n 0, 1) := by decide +kernel
theorem dX2_cabInQueue_14 : decode cX2_cabInQueue 14 = .ok (.getfield 16, 3) := by decide +kernel
theorem dX2_cabInQueue_17 : decode cX2_cabInQueue 17 = .ok (.iload_n 3, 1) := by decide +kernel
theorem dX2_cabInQueue_18 : decode cX2_cabInQueue 18 = .ok (.invokevirtual 197, 3) := by decide +kernel
theorem dX2_cabInQueue_21 : decode cX2_cabInQueue 21 = .ok (.checkcast 68, 3) := by decide +kernel
theorem dX2_cabInQueue_24 : decode cX2_cabInQueue 24 = .ok (.astore 4, 2) := by decide +kernel
theorem dX2_cabInQueue_26 : decode cX2_cabInQueue 26 = .ok (.aload 4, 2) := by decide +kernel
theorem dX2_cabInQueue_28 : decode cX2_cabInQueue 28 = .ok (.iload_n 1, 1) := by decide +kernel
theorem dX2_cabInQueue_29 : decode cX2_cabInQueue 29 = .ok (.invokestatic 246, 3) := by decide +kernel
theorem dX2_cabInQueue_32 : decode cX2_cabInQueue 32 = .ok (.ifCond .eq 19, 3) := by decide +kernel
theorem dX2_cabInQueue_35 : decode cX2_cabInQueue 35 = .ok (.aload_n 0, 1) := by decide +kernel
theorem dX2_cabInQueue_36 : decode cX2_cabInQueue 36 = .ok (.aload 4, 2) := by decide +kernel
theorem dX2_cabInQueue_38 : decode cX2_cabInQueue 38 = .ok (.invokevirtual 92, 3) := by decide +kernel
theorem dX2_cabInQueue_41 : decode cX2_cabInQueue 41 = .ok (.iload_n 2, 1) := by decide +kernel
theorem dX2_cabInQueue_42 : decode cX2_cabInQueue 42 = .ok (.if_icmp .ne 9, 3) := by decide +kernel
theorem dX2_cabInQueue_45 : decode cX2_cabInQueue 45 = .ok (.aload 4, 2) := by decide +kernel
theorem dX2_cabInQueue_47 : decode cX2_cabInQueue 47 = .ok (.getfield 250, 3) := by decide +kernel
theorem dX2_cabInQueue_50 : decode cX2_cabInQueue 50 = .ok (.ireturn, 1) := by decide +kernel
theorem dX2_cabInQueue_51 : decode cX2_cabInQueue 51 = .ok (.iinc 3 1, 3) := by decide +kernel
theorem dX2_cabInQueue_54 : decode cX2_cabInQueue 54 = .ok (.goto (-52), 3) := by decide +kernel
theorem dX2_cabInQueue_57 : decode cX2_cabInQueue 57 = .ok (.iconst (-1), 1) := by decide +kernel
theorem dX2_cabInQueue_58 : decode cX2_cabInQueue 58 = .ok (.ireturn, 1) := by decide +kernel
theorem dX2_isIdle_0 : decode cX2_isIdle 0 = .ok (.aload_n 0, 1) := by decide +kernel
theorem dX2_isIdle_1 : decode cX2_isIdle 1 = .ok (.getfield 80, 3) := by decide +kernel
theorem dX2_isIdle_4 : decode cX2_isIdle 4 = .ok (.iconst 1, 1) := by decide +kernel
theorem dX2_isIdle_5 : decode cX2_isIdle 5 = .ok (.if_icmp .ne 14, 3) := by decide +kernel
theorem dX2_isIdle_8 : decode cX2_isIdle 8 = .ok (.aload_n 0, 1) := by decide +kernel
theorem dX2_isIdle_9 : decode cX2_isIdle 9 = .ok (.getfield 251, 3) := by decide +kernel
theorem dX2_isIdle_12 : decode cX2_isIdle 12 = .ok (.ifnonnull 7, 3) := by decide +kernel
theorem dX2_isIdle_15 : decode cX2_isIdle 15 = .ok (.iconst 1, 1) := by decide +kernel
theorem dX2_isIdle_16 : decode cX2_isIdle 16 = .ok (.goto 4, 3) := by decide +kernel
theorem dX2_isIdle_19 : decode cX2_isIdle 19 = .ok (.iconst 0, 1) := by decide +kernel
theorem dX2_isIdle_20 : decode cX2_isIdle 20 = .ok (.ireturn, 1) := by decide +kernel
theorem dX2_offeredTo_0 : decode cX2_offeredTo 0 = .ok (.aload_n 0, 1) := by decide +kernel
theorem dX2_offeredTo_1 : decode cX2_offeredTo 1 = .ok (.getfield 80, 3) := by decide +kernel
theorem dX2_offeredTo_4 : decode cX2_offeredTo 4 = .ok (.iconst 1, 1) := by decide +kernel
theorem dX2_offeredTo_5 : decode cX2_offeredTo 5 = .ok (.if_icmp .ne 10, 3) := by decide +kernel
theorem dX2_offeredTo_8 : decode cX2_offeredTo 8 = .ok (.aload_n 0, 1) := by decide +kernel
theorem dX2_offeredTo_9 : decode cX2_offeredTo 9 = .ok (.getfield 251, 3) := by decide +kernel
theorem dX2_offeredTo_12 : decode cX2_offeredTo 12 = .ok (.goto 4, 3) := by decide +kernel
theorem dX2_offeredTo_15 : decode cX2_offeredTo 15 = .ok (.aconst_null, 1) := by decide +kernel
theorem dX2_offeredTo_16 : decode cX2_offeredTo 16 = .ok (.areturn, 1) := by decide +kernel
set_option maxRecDepth 20000 in
theorem ggX2_makeOffers_Jx4a65c_size_8abf5 : GoodIn wsX2_makeOffers wsJx4a65c_size_8abf5 := goodIn_r _ [6, 7, 80, 81, 82] (by decide +kernel) (by decide +kernel)
set_option maxRecDepth 20000 in
theorem gX2_makeOffers_Jx4a65c_size_8abf5 : GoodIn wsX2_makeOffers (wsV RX2 59 RJx4a65c yJx4a65c_size_8abf5 wsJx4a65c_size_8abf5) := goodIn_app (goodIn_of _ (by decide +kernel)) ggX2_makeOffers_Jx4a65c_size_8abf5
set_option maxRecDepth 20000 in
theorem ggX2_makeOffers_X2_makeNextOffer : GoodIn wsX2_makeOffers wsX2_makeNextOffer := goodIn_r _ [12, 13, 14, 15, 16, 17, 18, 19, 20, 2, 3, 4, 5, 6, 7, 21, 22, 23, 24, 25, 26, 27, 28, 29, 30, 31, 32, 33, 34, 35, 36, 37, 38, 39, 40, 11, 41, 42, 43, 44, 45, 1, 46, 47, 48, 49, 50, 51, 52, 53, 54, 55, 56, 57, 58, 59, 60, 61, 62, 63, 64, 65, 66, 67, 68, 69, 70, 71, 72, 73, 74, 75, 76, 77, 78, 79, 83, 84, 85, 86, 87, 88, 89, 90, 91, 92, 93, 94, 95, 96, 97, 98, 99, 100, 101, 102, 103, 104, 105, 106, 80, 81, 82] (by decide +kernel) (by decide +kernel)
set_option maxRecDepth 20000 in
theorem gX2_makeOffers_X2_makeNextOffer : GoodIn wsX2_makeOffers (wsV RX2 255 RX2 yX2_makeNextOffer wsX2_makeNextOffer) := goodIn_app (goodIn_of _ (by decide +kernel)) ggX2_makeOffers_X2_makeNextOffer
theorem dX2_makeOffers_0 : decode cX2_makeOffers 0 = .ok (.iconst 1, 1) := by decide +kernel
theorem dX2_makeOffers_1 : decode cX2_makeOffers 1 = .ok (.istore_n 1, 1) := by decide +kernel
theorem dX2_makeOffers_2 : decode cX2_makeOffers 2 = .ok (.iconst 0, 1) := by decide +kernel
theorem dX2_makeOffers_3 : decode cX2_makeOffers 3 = .ok (.istore_n 2, 1) := by decide +kernel
theorem dX2_makeOffers_4 : decode cX2_makeOffers 4 = .ok (.iload_n 1, 1) := by decide +kernel
theorem dX2_makeOffers_5 : decode cX2_makeOffers 5 = .ok (.ifCond .eq 25, 3) := by decide +kernel
theorem dX2_makeOffers_8 : decode cX2_makeOffers 8 = .ok (.iload_n 2, 1) := by decide +kernel
theorem dX2_makeOffers_9 : decode cX2_makeOffers 9 = .ok (.aload_n 0, 1) := by decide +kernel
theorem dX2_makeOffers_10 : decode cX2_makeOffers 10 = .ok (.getfield 16, 3) := by decide +kernel
theorem dX2_makeOffers_13 : decode cX2_makeOffers 13 = .ok (.invokevirtual 59, 3) := by decide +kernel
theorem dX2_makeOffers_16 : decode cX2_makeOffers 16 = .ok (.if_icmp .ge 14, 3) := by decide +kernel
theorem dX2_makeOffers_19 : decode cX2_makeOffers 19 = .ok (.aload_n 0, 1) := by decide +kernel
theorem dX2_makeOffers_20 : decode cX2_makeOffers 20 = .ok (.invokevirtual 255, 3) := by decide +kernel
theorem dX2_makeOffers_23 : decode cX2_makeOffers 23 = .ok (.istore_n 1, 1) := by decide +kernel
theorem dX2_makeOffers_24 : decode cX2_makeOffers 24 = .ok (.iinc 2 1, 3) := by decide +kernel
theorem dX2_makeOffers_27 : decode cX2_makeOffers 27 = .ok (.goto (-23), 3) := by decide +kernel
theorem dX2_makeOffers_30 : decode cX2_makeOffers 30 = .ok (.return_, 1) := by decide +kernel
set_option maxRecDepth 20000 in
theorem ggX2_makeNextOffer_Jx4a65c_size_8abf5 : GoodIn wsX2_makeNextOffer wsJx4a65c_size_8abf5 := goodIn_r _ [13, 14, 100, 101, 102] (by decide +kernel) (by decide +kernel)
set_option maxRecDepth 20000 in
theorem gX2_makeNextOffer_Jx4a65c_size_8abf5 : GoodIn wsX2_makeNextOffer (wsV RX2 59 RJx4a65c yJx4a65c_size_8abf5 wsJx4a65c_size_8abf5) := goodIn_app (goodIn_of _ (by decide +kernel)) ggX2_makeNextOffer_Jx4a65c_size_8abf5
set_option maxRecDepth 20000 in
theorem ggX2_makeNextOffer_Jx4a65c_get_915e3 : GoodIn wsX2_makeNextOffer wsJx4a65c_get_915e3 := goodIn_r _ [18, 14, 19, 20, 21, 22, 23, 24, 25, 26, 27, 28, 29, 12, 30, 31, 100, 101, 102] (by decide +kernel) (by decide +kernel)
set_option maxRecDepth 20000 in
theorem gX2_makeNextOffer_Jx4a65c_get_915e3 : GoodIn wsX2_makeNextOffer (wsV RX2 197 RJx4a65c yJx4a65c_get_915e3 wsJx4a65c_get_915e3) := goodIn_app (goodIn_of _ (by decide +kernel)) ggX2_makeNextOffer_Jx4a65c_get_915e3
set_option maxRecDepth 20000 in
theorem ggX2_makeNextOffer_X2_isLookedAt : GoodIn wsX2_makeNextOffer wsX2_isLookedAt := goodIn_r _ [36, 4, 6, 3, 76, 77, 78, 79, 80, 81, 82, 83, 84, 85, 86, 87, 88, 89, 90, 69, 70, 71, 72, 73, 74, 75] (by decide +kernel) (by decide +kernel)
set_option maxRecDepth 20000 in
theorem gX2_makeNextOffer_X2_isLookedAt : GoodIn wsX2_makeNextOffer (wsV RX2 259 RX2 yX2_isLookedAt wsX2_isLookedAt) := goodIn_app (goodIn_of _ (by decide +kernel)) ggX2_makeNextOffer_X2_isLookedAt
set_option maxRecDepth 20000 in
theorem ggX2_makeNextOffer_X2_cabFor : GoodIn wsX2_makeNextOffer wsX2_cabFor := goodIn_r _ [40, 41, 42, 43, 44, 45, 9, 10, 11, 12, 13, 14, 15, 16, 17, 18, 19, 20, 21, 22, 23, 24, 25, 26, 27, 28, 29, 30, 31, 46, 47, 35, 48, 49, 50, 51, 52, 53, 54, 55, 8, 56, 57, 58, 59, 60, 61, 62, 63, 64, 65, 66, 67, 68, 69, 70, 71, 72, 73, 74, 75, 91, 92, 93, 94, 95, 96, 97, 98, 99, 76, 77, 78, 79, 80, 81, 82, 83, 84, 85, 86, 87, 88, 89, 90, 100, 101, 102] (by decide +kernel) (by decide +kernel)
set_option maxRecDepth 20000 in
theorem gX2_makeNextOffer_X2_cabFor : GoodIn wsX2_makeNextOffer (wsV RX2 263 RX2 yX2_cabFor wsX2_cabFor) := goodIn_app (goodIn_of _ (by decide +kernel)) ggX2_makeNextOffer_X2_cabFor
theorem dX2_makeNextOffer_0 : decode cX2_makeNextOffer 0 = .ok (.aconst_null, 1) := by decide +kernel
theorem dX2_makeNextOffer_1 : decode cX2_makeNextOffer 1 = .ok (.astore_n 1, 1) := by decide +kernel
theorem dX2_makeNextOffer_2 : decode cX2_makeNextOffer 2 = .ok (.aconst_null, 1) := by decide +kernel
theorem dX2_makeNextOffer_3 : decode cX2_makeNextOffer 3 = .ok (.astore_n 2, 1) := by decide +kernel
theorem dX2_makeNextOffer_4 : decode cX2_makeNextOffer 4 = .ok (.iconst 0, 1) := by decide +kernel
theorem dX2_makeNextOffer_5 : decode cX2_makeNextOffer 5 = .ok (.istore_n 3, 1) := by decide +kernel
theorem dX2_makeNextOffer_6 : decode cX2_makeNextOffer 6 = .ok (.iload_n 3, 1) := by decide +kernel
theorem dX2_makeNextOffer_7 : decode cX2_makeNextOffer 7 = .ok (.aload_n 0, 1) := by decide +kernel
theorem dX2_makeNextOffer_8 : decode cX2_makeNextOffer 8 = .ok (.getfield 20, 3) := by decide +kernel
theorem dX2_makeNextOffer_11 : decode cX2_makeNextOffer 11 = .ok (.invokevirtual 59, 3) := by decide +kernel
theorem dX2_makeNextOffer_14 : decode cX2_makeNextOffer 14 = .ok (.if_icmp .ge 66, 3) := by decide +kernel
theorem dX2_makeNextOffer_17 : decode cX2_makeNextOffer 17 = .ok (.aload_n 0, 1) := by decide +kernel
theorem dX2_makeNextOffer_18 : decode cX2_makeNextOffer 18 = .ok (.getfield 20, 3) := by decide +kernel
theorem dX2_makeNextOffer_21 : decode cX2_makeNextOffer 21 = .ok (.iload_n 3, 1) := by decide +kernel
theorem dX2_makeNextOffer_22 : decode cX2_makeNextOffer 22 = .ok (.invokevirtual 197, 3) := by decide +kernel
theorem dX2_makeNextOffer_25 : decode cX2_makeNextOffer 25 = .ok (.checkcast 127, 3) := by decide +kernel
theorem dX2_makeNextOffer_28 : decode cX2_makeNextOffer 28 = .ok (.astore 4, 2) := by decide +kernel
theorem dX2_makeNextOffer_30 : decode cX2_makeNextOffer 30 = .ok (.aload_n 0, 1) := by decide +kernel
theorem dX2_makeNextOffer_31 : decode cX2_makeNextOffer 31 = .ok (.aload 4, 2) := by decide +kernel
theorem dX2_makeNextOffer_33 : decode cX2_makeNextOffer 33 = .ok (.invokevirtual 259, 3) := by decide +kernel
theorem dX2_makeNextOffer_36 : decode cX2_makeNextOffer 36 = .ok (.ifCond .eq 38, 3) := by decide +kernel
theorem dX2_makeNextOffer_39 : decode cX2_makeNextOffer 39 = .ok (.aload_n 1, 1) := by decide +kernel
theorem dX2_makeNextOffer_40 : decode cX2_makeNextOffer 40 = .ok (.ifnull 15, 3) := by decide +kernel
theorem dX2_makeNextOffer_43 : decode cX2_makeNextOffer 43 = .ok (.aload 4, 2) := by decide +kernel
theorem dX2_makeNextOffer_45 : decode cX2_makeNextOffer 45 = .ok (.getfield 141, 3) := by decide +kernel
theorem dX2_makeNextOffer_48 : decode cX2_makeNextOffer 48 = .ok (.aload_n 1, 1) := by decide +kernel
theorem dX2_makeNextOffer_49 : decode cX2_makeNextOffer 49 = .ok (.getfield 141, 3) := by decide +kernel
theorem dX2_makeNextOffer_52 : decode cX2_makeNextOffer 52 = .ok (.if_icmp .ge 22, 3) := by decide +kernel
theorem dX2_makeNextOffer_55 : decode cX2_makeNextOffer 55 = .ok (.aload_n 0, 1) := by decide +kernel
theorem dX2_makeNextOffer_56 : decode cX2_makeNextOffer 56 = .ok (.aload 4, 2) := by decide +kernel
theorem dX2_makeNextOffer_58 : decode cX2_makeNextOffer 58 = .ok (.invokevirtual 263, 3) := by decide +kernel
theorem dX2_makeNextOffer_61 : decode cX2_makeNextOffer 61 = .ok (.astore 5, 2) := by decide +kernel
theorem dX2_makeNextOffer_63 : decode cX2_makeNextOffer 63 = .ok (.aload 5, 2) := by decide +kernel
theorem dX2_makeNextOffer_65 : decode cX2_makeNextOffer 65 = .ok (.ifnull 9, 3) := by decide +kernel
theorem dX2_makeNextOffer_68 : decode cX2_makeNextOffer 68 = .ok (.aload 4, 2) := by decide +kernel
theorem dX2_makeNextOffer_70 : decode cX2_makeNextOffer 70 = .ok (.astore_n 1, 1) := by decide +kernel
theorem dX2_makeNextOffer_71 : decode cX2_makeNextOffer 71 = .ok (.aload 5, 2) := by decide +kernel
theorem dX2_makeNextOffer_73 : decode cX2_makeNextOffer 73 = .ok (.astore_n 2, 1) := by decide +kernel
theorem dX2_makeNextOffer_74 : decode cX2_makeNextOffer 74 = .ok (.iinc 3 1, 3) := by decide +kernel
theorem dX2_makeNextOffer_77 : decode cX2_makeNextOffer 77 = .ok (.goto (-71), 3) := by decide +kernel
theorem dX2_makeNextOffer_80 : decode cX2_makeNextOffer 80 = .ok (.aload_n 1, 1) := by decide +kernel
theorem dX2_makeNextOffer_81 : decode cX2_makeNextOffer 81 = .ok (.ifnull 7, 3) := by decide +kernel
theorem dX2_makeNextOffer_84 : decode cX2_makeNextOffer 84 = .ok (.aload_n 2, 1) := by decide +kernel
theorem dX2_makeNextOffer_85 : decode cX2_makeNextOffer 85 = .ok (.ifnonnull 5, 3) := by decide +kernel
theorem dX2_makeNextOffer_88 : decode cX2_makeNextOffer 88 = .ok (.iconst 0, 1) := by decide +kernel
theorem dX2_makeNextOffer_89 : decode cX2_makeNextOffer 89 = .ok (.ireturn, 1) := by decide +kernel
theorem dX2_makeNextOffer_90 : decode cX2_makeNextOffer 90 = .ok (.aload_n 1, 1) := by decide +kernel
theorem dX2_makeNextOffer_91 : decode cX2_makeNextOffer 91 = .ok (.iconst 1, 1) := by decide +kernel
theorem dX2_makeNextOffer_92 : decode cX2_makeNextOffer 92 = .ok (.putfield 152, 3) := by decide +kernel
theorem dX2_makeNextOffer_95 : decode cX2_makeNextOffer 95 = .ok (.aload_n 1, 1) := by decide +kernel
theorem dX2_makeNextOffer_96 : decode cX2_makeNextOffer 96 = .ok (.aload_n 2, 1) := by decide +kernel
theorem dX2_makeNextOffer_97 : decode cX2_makeNextOffer 97 = .ok (.putfield 267, 3) := by decide +kernel
theorem dX2_makeNextOffer_100 : decode cX2_makeNextOffer 100 = .ok (.aload_n 1, 1) := by decide +kernel
theorem dX2_makeNextOffer_101 : decode cX2_makeNextOffer 101 = .ok (.aload_n 0, 1) := by decide +kernel
theorem dX2_makeNextOffer_102 : decode cX2_makeNextOffer 102 = .ok (.getfield 120, 3) := by decide +kernel
theorem dX2_makeNextOffer_105 : decode cX2_makeNextOffer 105 = .ok (.putfield 271, 3) := by decide +kernel
theorem dX2_makeNextOffer_108 : decode cX2_makeNextOffer 108 = .ok (.aload_n 2, 1) := by decide +kernel
theorem dX2_makeNextOffer_109 : decode cX2_makeNextOffer 109 = .ok (.aload_n 1, 1) := by decide +kernel
theorem dX2_makeNextOffer_110 : decode cX2_makeNextOffer 110 = .ok (.putfield 251, 3) := by decide +kernel
theorem dX2_makeNextOffer_113 : decode cX2_makeNextOffer 113 = .ok (.iconst 1, 1) := by decide +kernel
theorem dX2_makeNextOffer_114 : decode cX2_makeNextOffer 114 = .ok (.ireturn, 1) := by decide +kernel
theorem dX2_isLookedAt_0 : decode cX2_isLookedAt 0 = .ok (.aload_n 1, 1) := by decide +kernel
theorem dX2_isLookedAt_1 : decode cX2_isLookedAt 1 = .ok (.getfield 152, 3) := by decide +kernel
theorem dX2_isLookedAt_4 : decode cX2_isLookedAt 4 = .ok (.ifCond .ne 21, 3) := by decide +kernel
theorem dX2_isLookedAt_7 : decode cX2_isLookedAt 7 = .ok (.aload_n 0, 1) := by decide +kernel
theorem dX2_isLookedAt_8 : decode cX2_isLookedAt 8 = .ok (.getfield 120, 3) := by decide +kernel
theorem dX2_isLookedAt_11 : decode cX2_isLookedAt 11 = .ok (.aload_n 1, 1) := by decide +kernel
theorem dX2_isLookedAt_12 : decode cX2_isLookedAt 12 = .ok (.getfield 141, 3) := by decide +kernel
theorem dX2_isLookedAt_15 : decode cX2_isLookedAt 15 = .ok (.bipush 15, 2) := by decide +kernel
theorem dX2_isLookedAt_17 : decode cX2_isLookedAt 17 = .ok (.isub, 1) := by decide +kernel
theorem dX2_isLookedAt_18 : decode cX2_isLookedAt 18 = .ok (.if_icmp .lt 7, 3) := by decide +kernel
theorem dX2_isLookedAt_21 : decode cX2_isLookedAt 21 = .ok (.iconst 1, 1) := by decide +kernel
theorem dX2_isLookedAt_22 : decode cX2_isLookedAt 22 = .ok (.goto 4, 3) := by decide +kernel
theorem dX2_isLookedAt_25 : decode cX2_isLookedAt 25 = .ok (.iconst 0, 1) := by decide +kernel
theorem dX2_isLookedAt_26 : decode cX2_isLookedAt 26 = .ok (.ireturn, 1) := by decide +kernel
set_option maxRecDepth 20000 in
theorem ggX2_cabFor_Jx4a65c_size_8abf5 : GoodIn wsX2_cabFor wsJx4a65c_size_8abf5 := goodIn_r _ [10, 11, 85, 86, 87] (by decide +kernel) (by decide +kernel)
set_option maxRecDepth 20000 in
theorem gX2_cabFor_Jx4a65c_size_8abf5 : GoodIn wsX2_cabFor (wsV RX2 59 RJx4a65c yJx4a65c_size_8abf5 wsJx4a65c_size_8abf5) := goodIn_app (goodIn_of _ (by decide +kernel)) ggX2_cabFor_Jx4a65c_size_8abf5
set_option maxRecDepth 20000 in
theorem ggX2_cabFor_Jx4a65c_get_915e3 : GoodIn wsX2_cabFor wsJx4a65c_get_915e3 := goodIn_r _ [15, 11, 16, 17, 18, 19, 20, 21, 22, 23, 24, 25, 26, 9, 27, 28, 85, 86, 87] (by decide +kernel) (by decide +kernel)
set_option maxRecDepth 20000 in
theorem gX2_cabFor_Jx4a65c_get_915e3 : GoodIn wsX2_cabFor (wsV RX2 197 RJx4a65c yJx4a65c_get_915e3 wsJx4a65c_get_915e3) := goodIn_app (goodIn_of _ (by decide +kernel)) ggX2_cabFor_Jx4a65c_get_915e3
set_option maxRecDepth 20000 in
theorem ggX2_cabFor_X2_canBeOffered : GoodIn wsX2_cabFor wsX2_canBeOffered := goodIn_r _ [32, 33, 34, 35, 36, 37, 31, 38, 39, 40, 41, 42, 43, 44, 61, 62, 63, 64, 65, 66, 67, 68, 69, 70, 71, 72, 73, 74, 75, 76, 77, 78, 79, 80, 81, 82, 83, 84] (by decide +kernel) (by decide +kernel)
set_option maxRecDepth 20000 in
theorem gX2_cabFor_X2_canBeOffered : GoodIn wsX2_cabFor (va_wsS RX2 274 yX2_canBeOffered wsX2_canBeOffered) := goodIn_app (goodIn_of _ (by decide +kernel)) ggX2_cabFor_X2_canBeOffered
set_option maxRecDepth 20000 in
theorem ggX2_cabFor_X2_rankOfZone : GoodIn wsX2_cabFor wsX2_rankOfZone := goodIn_r _ [48, 49, 50, 51, 31, 52, 53, 54, 55, 56, 57, 58, 59, 60] (by decide +kernel) (by decide +kernel)
set_option maxRecDepth 20000 in
theorem gX2_cabFor_X2_rankOfZone : GoodIn wsX2_cabFor (wsV RX2 278 RX2 yX2_rankOfZone wsX2_rankOfZone) := goodIn_app (goodIn_of _ (by decide +kernel)) ggX2_cabFor_X2_rankOfZone
theorem dX2_cabFor_0 : decode cX2_cabFor 0 = .ok (.aconst_null, 1) := by decide +kernel
theorem dX2_cabFor_1 : decode cX2_cabFor 1 = .ok (.astore_n 2, 1) := by decide +kernel
theorem dX2_cabFor_2 : decode cX2_cabFor 2 = .ok (.iconst 0, 1) := by decide +kernel
theorem dX2_cabFor_3 : decode cX2_cabFor 3 = .ok (.istore_n 3, 1) := by decide +kernel
theorem dX2_cabFor_4 : decode cX2_cabFor 4 = .ok (.iconst 0, 1) := by decide +kernel
theorem dX2_cabFor_5 : decode cX2_cabFor 5 = .ok (.istore 4, 2) := by decide +kernel
theorem dX2_cabFor_7 : decode cX2_cabFor 7 = .ok (.iload 4, 2) := by decide +kernel
theorem dX2_cabFor_9 : decode cX2_cabFor 9 = .ok (.aload_n 0, 1) := by decide +kernel
theorem dX2_cabFor_10 : decode cX2_cabFor 10 = .ok (.getfield 16, 3) := by decide +kernel
theorem dX2_cabFor_13 : decode cX2_cabFor 13 = .ok (.invokevirtual 59, 3) := by decide +kernel
theorem dX2_cabFor_16 : decode cX2_cabFor 16 = .ok (.if_icmp .ge 81, 3) := by decide +kernel
theorem dX2_cabFor_19 : decode cX2_cabFor 19 = .ok (.aload_n 0, 1) := by decide +kernel
theorem dX2_cabFor_20 : decode cX2_cabFor 20 = .ok (.getfield 16, 3) := by decide +kernel
theorem dX2_cabFor_23 : decode cX2_cabFor 23 = .ok (.iload 4, 2) := by decide +kernel
theorem dX2_cabFor_25 : decode cX2_cabFor 25 = .ok (.invokevirtual 197, 3) := by decide +kernel
theorem dX2_cabFor_28 : decode cX2_cabFor 28 = .ok (.checkcast 68, 3) := by decide +kernel
theorem dX2_cabFor_31 : decode cX2_cabFor 31 = .ok (.astore 5, 2) := by decide +kernel
theorem dX2_cabFor_33 : decode cX2_cabFor 33 = .ok (.aload_n 1, 1) := by decide +kernel
theorem dX2_cabFor_34 : decode cX2_cabFor 34 = .ok (.aload 5, 2) := by decide +kernel
theorem dX2_cabFor_36 : decode cX2_cabFor 36 = .ok (.invokestatic 274, 3) := by decide +kernel
theorem dX2_cabFor_39 : decode cX2_cabFor 39 = .ok (.ifCond .eq 52, 3) := by decide +kernel
theorem dX2_cabFor_42 : decode cX2_cabFor 42 = .ok (.aload_n 0, 1) := by decide +kernel
theorem dX2_cabFor_43 : decode cX2_cabFor 43 = .ok (.aload 5, 2) := by decide +kernel
theorem dX2_cabFor_45 : decode cX2_cabFor 45 = .ok (.getfield 101, 3) := by decide +kernel
theorem dX2_cabFor_48 : decode cX2_cabFor 48 = .ok (.aload_n 1, 1) := by decide +kernel
theorem dX2_cabFor_49 : decode cX2_cabFor 49 = .ok (.getfield 138, 3) := by decide +kernel
theorem dX2_cabFor_52 : decode cX2_cabFor 52 = .ok (.invokevirtual 278, 3) := by decide +kernel
theorem dX2_cabFor_55 : decode cX2_cabFor 55 = .ok (.istore 6, 2) := by decide +kernel
theorem dX2_cabFor_57 : decode cX2_cabFor 57 = .ok (.aload_n 2, 1) := by decide +kernel
theorem dX2_cabFor_58 : decode cX2_cabFor 58 = .ok (.ifnull 27, 3) := by decide +kernel
theorem dX2_cabFor_61 : decode cX2_cabFor 61 = .ok (.iload 6, 2) := by decide +kernel
theorem dX2_cabFor_63 : decode cX2_cabFor 63 = .ok (.iload_n 3, 1) := by decide +kernel
theorem dX2_cabFor_64 : decode cX2_cabFor 64 = .ok (.if_icmp .lt 21, 3) := by decide +kernel
theorem dX2_cabFor_67 : decode cX2_cabFor 67 = .ok (.iload 6, 2) := by decide +kernel
theorem dX2_cabFor_69 : decode cX2_cabFor 69 = .ok (.iload_n 3, 1) := by decide +kernel
theorem dX2_cabFor_70 : decode cX2_cabFor 70 = .ok (.if_icmp .ne 21, 3) := by decide +kernel
theorem dX2_cabFor_73 : decode cX2_cabFor 73 = .ok (.aload 5, 2) := by decide +kernel
theorem dX2_cabFor_75 : decode cX2_cabFor 75 = .ok (.getfield 243, 3) := by decide +kernel
theorem dX2_cabFor_78 : decode cX2_cabFor 78 = .ok (.aload_n 2, 1) := by decide +kernel
theorem dX2_cabFor_79 : decode cX2_cabFor 79 = .ok (.getfield 243, 3) := by decide +kernel
theorem dX2_cabFor_82 : decode cX2_cabFor 82 = .ok (.if_icmp .ge 9, 3) := by decide +kernel
theorem dX2_cabFor_85 : decode cX2_cabFor 85 = .ok (.aload 5, 2) := by decide +kernel
theorem dX2_cabFor_87 : decode cX2_cabFor 87 = .ok (.astore_n 2, 1) := by decide +kernel
theorem dX2_cabFor_88 : decode cX2_cabFor 88 = .ok (.iload 6, 2) := by decide +kernel
theorem dX2_cabFor_90 : decode cX2_cabFor 90 = .ok (.istore_n 3, 1) := by decide +kernel
theorem dX2_cabFor_91 : decode cX2_cabFor 91 = .ok (.iinc 4 1, 3) := by decide +kernel
theorem dX2_cabFor_94 : decode cX2_cabFor 94 = .ok (.goto (-87), 3) := by decide +kernel
theorem dX2_cabFor_97 : decode cX2_cabFor 97 = .ok (.aload_n 2, 1) := by decide +kernel
theorem dX2_cabFor_98 : decode cX2_cabFor 98 = .ok (.areturn, 1) := by decide +kernel
set_option maxRecDepth 20000 in
theorem ggX2_rankOfZone_X2_wayBetween : GoodIn wsX2_rankOfZone wsX2_wayBetween := goodIn_r _ [5, 6, 7, 8, 9, 10, 11, 12, 13] (by decide +kernel) (by decide +kernel)
set_option maxRecDepth 20000 in
theorem gX2_rankOfZone_X2_wayBetween : GoodIn wsX2_rankOfZone (wsV RX2 43 RX2 yX2_wayBetween wsX2_wayBetween) := goodIn_app (goodIn_of _ (by decide +kernel)) ggX2_rankOfZone_X2_wayBetween
theorem dX2_rankOfZone_0 : decode cX2_rankOfZone 0 = .ok (.iload_n 1, 1) := by decide +kernel
theorem dX2_rankOfZone_1 : decode cX2_rankOfZone 1 = .ok (.iload_n 2, 1) := by decide +kernel
theorem dX2_rankOfZone_2 : decode cX2_rankOfZone 2 = .ok (.if_icmp .ne 7, 3) := by decide +kernel
theorem dX2_rankOfZone_5 : decode cX2_rankOfZone 5 = .ok (.iconst 0, 1) := by decide +kernel
theorem dX2_rankOfZone_6 : decode cX2_rankOfZone 6 = .ok (.goto 14, 3) := by decide +kernel
theorem dX2_rankOfZone_9 : decode cX2_rankOfZone 9 = .ok (.aload_n 0, 1) := by decide +kernel
theorem dX2_rankOfZone_10 : decode cX2_rankOfZone 10 = .ok (.iload_n 1, 1) := by decide +kernel
theorem dX2_rankOfZone_11 : decode cX2_rankOfZone 11 = .ok (.iload_n 2, 1) := by decide +kernel
theorem dX2_rankOfZone_12 : decode cX2_rankOfZone 12 = .ok (.invokevirtual 43, 3) := by decide +kernel
theorem dX2_rankOfZone_15 : decode cX2_rankOfZone 15 = .ok (.bipush 6, 2) := by decide +kernel
theorem dX2_rankOfZone_17 : decode cX2_rankOfZone 17 = .ok (.imul, 1) := by decide +kernel
theorem dX2_rankOfZone_18 : decode cX2_rankOfZone 18 = .ok (.iload_n 1, 1) := by decide +kernel
theorem dX2_rankOfZone_19 : decode cX2_rankOfZone 19 = .ok (.iadd, 1) := by decide +kernel
theorem dX2_rankOfZone_20 : decode cX2_rankOfZone 20 = .ok (.ireturn, 1) := by decide +kernel
set_option maxRecDepth 20000 in
theorem ggX2_canBeOffered_X2_isIdle : GoodIn wsX2_canBeOffered wsX2_isIdle := goodIn_r _ [7, 8, 9, 14, 15, 16, 17, 18, 19, 20, 21, 22] (by decide +kernel) (by decide +kernel)
set_option maxRecDepth 20000 in
theorem gX2_canBeOffered_X2_isIdle : GoodIn wsX2_canBeOffered (va_wsS RX2 204 yX2_isIdle wsX2_isIdle) := goodIn_app (goodIn_of _ (by decide +kernel)) ggX2_canBeOffered_X2_isIdle
set_option maxRecDepth 20000 in
theorem ggX2_canBeOffered_X2_refuserBit : GoodIn wsX2_canBeOffered wsX2_refuserBit := goodIn_r _ [12, 13, 14, 15, 16, 17, 18, 19, 20, 21, 22] (by decide +kernel) (by decide +kernel)
set_option maxRecDepth 20000 in
theorem gX2_canBeOffered_X2_refuserBit : GoodIn wsX2_canBeOffered (va_wsS RX2 287 yX2_refuserBit wsX2_refuserBit) := goodIn_app (goodIn_of _ (by decide +kernel)) ggX2_canBeOffered_X2_refuserBit
theorem dX2_canBeOffered_0 : decode cX2_canBeOffered 0 = .ok (.aload_n 1, 1) := by decide +kernel
theorem dX2_canBeOffered_1 : decode cX2_canBeOffered 1 = .ok (.invokestatic 204, 3) := by decide +kernel
theorem dX2_canBeOffered_4 : decode cX2_canBeOffered 4 = .ok (.ifCond .eq 30, 3) := by decide +kernel
theorem dX2_canBeOffered_7 : decode cX2_canBeOffered 7 = .ok (.aload_n 1, 1) := by decide +kernel
theorem dX2_canBeOffered_8 : decode cX2_canBeOffered 8 = .ok (.getfield 208, 3) := by decide +kernel
theorem dX2_canBeOffered_11 : decode cX2_canBeOffered 11 = .ok (.aload_n 0, 1) := by decide +kernel
theorem dX2_canBeOffered_12 : decode cX2_canBeOffered 12 = .ok (.getfield 281, 3) := by decide +kernel
theorem dX2_canBeOffered_15 : decode cX2_canBeOffered 15 = .ok (.if_icmp .lt 19, 3) := by decide +kernel
theorem dX2_canBeOffered_18 : decode cX2_canBeOffered 18 = .ok (.aload_n 0, 1) := by decide +kernel
theorem dX2_canBeOffered_19 : decode cX2_canBeOffered 19 = .ok (.getfield 284, 3) := by decide +kernel
theorem dX2_canBeOffered_22 : decode cX2_canBeOffered 22 = .ok (.aload_n 1, 1) := by decide +kernel
theorem dX2_canBeOffered_23 : decode cX2_canBeOffered 23 = .ok (.invokestatic 287, 3) := by decide +kernel
theorem dX2_canBeOffered_26 : decode cX2_canBeOffered 26 = .ok (.iand, 1) := by decide +kernel
theorem dX2_canBeOffered_27 : decode cX2_canBeOffered 27 = .ok (.ifCond .ne 7, 3) := by decide +kernel
theorem dX2_canBeOffered_30 : decode cX2_canBeOffered 30 = .ok (.iconst 1, 1) := by decide +kernel
theorem dX2_canBeOffered_31 : decode cX2_canBeOffered 31 = .ok (.goto 4, 3) := by decide +kernel
theorem dX2_canBeOffered_34 : decode cX2_canBeOffered 34 = .ok (.iconst 0, 1) := by decide +kernel
theorem dX2_canBeOffered_35 : decode cX2_canBeOffered 35 = .ok (.ireturn, 1) := by decide +kernel
theorem dX2_refuserBit_0 : decode cX2_refuserBit 0 = .ok (.iconst 1, 1) := by decide +kernel
theorem dX2_refuserBit_1 : decode cX2_refuserBit 1 = .ok (.aload_n 0, 1) := by decide +kernel
theorem dX2_refuserBit_2 : decode cX2_refuserBit 2 = .ok (.getfield 250, 3) := by decide +kernel
theorem dX2_refuserBit_5 : decode cX2_refuserBit 5 = .ok (.ishl, 1) := by decide +kernel
theorem dX2_refuserBit_6 : decode cX2_refuserBit 6 = .ok (.ireturn, 1) := by decide +kernel
set_option maxRecDepth 20000 in
theorem ggX2_turnDown_X2_offeredTo : GoodIn wsX2_turnDown wsX2_offeredTo := goodIn_r _ [8, 9, 4, 35, 36, 37, 38, 39, 40, 41, 42, 43] (by decide +kernel) (by decide +kernel)
set_option maxRecDepth 20000 in
theorem gX2_turnDown_X2_offeredTo : GoodIn wsX2_turnDown (va_wsS RX2 132 yX2_offeredTo wsX2_offeredTo) := goodIn_app (goodIn_of _ (by decide +kernel)) ggX2_turnDown_X2_offeredTo
set_option maxRecDepth 20000 in
theorem ggX2_turnDown_X2_refuserBit : GoodIn wsX2_turnDown wsX2_refuserBit := goodIn_r _ [12, 13, 35, 36, 37, 38, 39, 40, 41, 42, 43] (by decide +kernel) (by decide +kernel)
set_option maxRecDepth 20000 in
theorem gX2_turnDown_X2_refuserBit : GoodIn wsX2_turnDown (va_wsS RX2 287 yX2_refuserBit wsX2_refuserBit) := goodIn_app (goodIn_of _ (by decide +kernel)) ggX2_turnDown_X2_refuserBit
set_option maxRecDepth 20000 in
theorem ggX2_turnDown_X2_joinQueue : GoodIn wsX2_turnDown wsX2_joinQueue := goodIn_r _ [17, 9, 18, 19, 35, 36, 37, 38, 39, 40, 41, 42, 43, 44, 45, 46, 47, 48, 49, 50] (by decide +kernel) (by decide +kernel)
set_option maxRecDepth 20000 in
theorem gX2_turnDown_X2_joinQueue : GoodIn wsX2_turnDown (wsV RX2 85 RX2 yX2_joinQueue wsX2_joinQueue) := goodIn_app (goodIn_of _ (by decide +kernel)) ggX2_turnDown_X2_joinQueue
theorem dX2_turnDown_0 : decode cX2_turnDown 0 = .ok (.aload_n 1, 1) := by decide +kernel
theorem dX2_turnDown_1 : decode cX2_turnDown 1 = .ok (.invokestatic 132, 3) := by decide +kernel
theorem dX2_turnDown_4 : decode cX2_turnDown 4 = .ok (.astore_n 2, 1) := by decide +kernel
theorem dX2_turnDown_5 : decode cX2_turnDown 5 = .ok (.aload_n 2, 1) := by decide +kernel
theorem dX2_turnDown_6 : decode cX2_turnDown 6 = .ok (.ifnonnull 4, 3) := by decide +kernel
theorem dX2_turnDown_9 : decode cX2_turnDown 9 = .ok (.return_, 1) := by decide +kernel
theorem dX2_turnDown_10 : decode cX2_turnDown 10 = .ok (.aload_n 2, 1) := by decide +kernel
theorem dX2_turnDown_11 : decode cX2_turnDown 11 = .ok (.dup, 1) := by decide +kernel
theorem dX2_turnDown_12 : decode cX2_turnDown 12 = .ok (.getfield 284, 3) := by decide +kernel
theorem dX2_turnDown_15 : decode cX2_turnDown 15 = .ok (.aload_n 1, 1) := by decide +kernel
theorem dX2_turnDown_16 : decode cX2_turnDown 16 = .ok (.invokestatic 287, 3) := by decide +kernel
theorem dX2_turnDown_19 : decode cX2_turnDown 19 = .ok (.ior, 1) := by decide +kernel
theorem dX2_turnDown_20 : decode cX2_turnDown 20 = .ok (.putfield 284, 3) := by decide +kernel
theorem dX2_turnDown_23 : decode cX2_turnDown 23 = .ok (.aload_n 2, 1) := by decide +kernel
theorem dX2_turnDown_24 : decode cX2_turnDown 24 = .ok (.iconst 0, 1) := by decide +kernel
theorem dX2_turnDown_25 : decode cX2_turnDown 25 = .ok (.putfield 152, 3) := by decide +kernel
theorem dX2_turnDown_28 : decode cX2_turnDown 28 = .ok (.aload_n 2, 1) := by decide +kernel
theorem dX2_turnDown_29 : decode cX2_turnDown 29 = .ok (.aconst_null, 1) := by decide +kernel
theorem dX2_turnDown_30 : decode cX2_turnDown 30 = .ok (.putfield 267, 3) := by decide +kernel
theorem dX2_turnDown_33 : decode cX2_turnDown 33 = .ok (.aload_n 1, 1) := by decide +kernel
theorem dX2_turnDown_34 : decode cX2_turnDown 34 = .ok (.aconst_null, 1) := by decide +kernel
theorem dX2_turnDown_35 : decode cX2_turnDown 35 = .ok (.putfield 251, 3) := by decide +kernel
theorem dX2_turnDown_38 : decode cX2_turnDown 38 = .ok (.aload_n 0, 1) := by decide +kernel
theorem dX2_turnDown_39 : decode cX2_turnDown 39 = .ok (.aload_n 1, 1) := by decide +kernel
theorem dX2_turnDown_40 : decode cX2_turnDown 40 = .ok (.invokevirtual 85, 3) := by decide +kernel
theorem dX2_turnDown_43 : decode cX2_turnDown 43 = .ok (.return_, 1) := by decide +kernel
set_option maxRecDepth 20000 in
theorem ggX2_releaseCab_X2_joinQueue : GoodIn wsX2_releaseCab wsX2_joinQueue := goodIn_r _ [8, 3, 9, 10, 26, 27, 28, 29, 30, 31, 32, 33, 34, 35, 36, 37, 38, 39, 40, 41] (by decide +kernel) (by decide +kernel)
set_option maxRecDepth 20000 in
theorem gX2_releaseCab_X2_joinQueue : GoodIn wsX2_releaseCab (wsV RX2 85 RX2 yX2_joinQueue wsX2_joinQueue) := goodIn_app (goodIn_of _ (by decide +kernel)) ggX2_releaseCab_X2_joinQueue
theorem dX2_releaseCab_0 : decode cX2_releaseCab 0 = .ok (.aload_n 1, 1) := by decide +kernel
theorem dX2_releaseCab_1 : decode cX2_releaseCab 1 = .ok (.getfield 267, 3) := by decide +kernel
theorem dX2_releaseCab_4 : decode cX2_releaseCab 4 = .ok (.astore_n 2, 1) := by decide +kernel
theorem dX2_releaseCab_5 : decode cX2_releaseCab 5 = .ok (.aload_n 2, 1) := by decide +kernel
theorem dX2_releaseCab_6 : decode cX2_releaseCab 6 = .ok (.ifnonnull 4, 3) := by decide +kernel
theorem dX2_releaseCab_9 : decode cX2_releaseCab 9 = .ok (.return_, 1) := by decide +kernel
theorem dX2_releaseCab_10 : decode cX2_releaseCab 10 = .ok (.aload_n 1, 1) := by decide +kernel
theorem dX2_releaseCab_11 : decode cX2_releaseCab 11 = .ok (.aconst_null, 1) := by decide +kernel
theorem dX2_releaseCab_12 : decode cX2_releaseCab 12 = .ok (.putfield 267, 3) := by decide +kernel
theorem dX2_releaseCab_15 : decode cX2_releaseCab 15 = .ok (.aload_n 2, 1) := by decide +kernel
theorem dX2_releaseCab_16 : decode cX2_releaseCab 16 = .ok (.aconst_null, 1) := by decide +kernel
theorem dX2_releaseCab_17 : decode cX2_releaseCab 17 = .ok (.putfield 251, 3) := by decide +kernel
theorem dX2_releaseCab_20 : decode cX2_releaseCab 20 = .ok (.aload_n 2, 1) := by decide +kernel
theorem dX2_releaseCab_21 : decode cX2_releaseCab 21 = .ok (.getfield 80, 3) := by decide +kernel
theorem dX2_releaseCab_24 : decode cX2_releaseCab 24 = .ok (.iconst 2, 1) := by decide +kernel
theorem dX2_releaseCab_25 : decode cX2_releaseCab 25 = .ok (.if_icmp .ne 8, 3) := by decide +kernel
theorem dX2_releaseCab_28 : decode cX2_releaseCab 28 = .ok (.aload_n 0, 1) := by decide +kernel
theorem dX2_releaseCab_29 : decode cX2_releaseCab 29 = .ok (.aload_n 2, 1) := by decide +kernel
theorem dX2_releaseCab_30 : decode cX2_releaseCab 30 = .ok (.invokevirtual 85, 3) := by decide +kernel
theorem dX2_releaseCab_33 : decode cX2_releaseCab 33 = .ok (.return_, 1) := by decide +kernel
set_option maxRecDepth 20000 in
theorem ggX2_passMinute_X2_refuseOldOffers : GoodIn wsX2_passMinute wsX2_refuseOldOffers := goodIn_r _ [6, 7, 8, 1, 9, 10, 11, 12, 13, 14, 15, 16, 17, 18, 19, 20, 21, 22, 23, 24, 25, 26, 27, 28, 29, 30, 31, 32, 33, 34, 5, 35, 36, 37, 38, 39, 40, 41, 42, 43, 44, 45, 46, 47, 48, 49, 50, 51, 52, 53, 54, 128, 129, 130, 131, 132, 133, 134, 135, 136, 137, 138, 139, 140, 141, 142, 143, 144, 145, 146, 147, 148, 149, 150, 151, 152, 153, 154, 155, 156, 157, 158, 159, 160, 161] (by decide +kernel) (by decide +kernel)
set_option maxRecDepth 20000 in
theorem gX2_passMinute_X2_refuseOldOffers : GoodIn wsX2_passMinute (wsV RX2 290 RX2 yX2_refuseOldOffers wsX2_refuseOldOffers) := goodIn_app (goodIn_of _ (by decide +kernel)) ggX2_passMinute_X2_refuseOldOffers
set_option maxRecDepth 20000 in
theorem ggX2_passMinute_X2_bringCabsOn : GoodIn wsX2_passMinute wsX2_bringCabsOn := goodIn_r _ [58, 7, 8, 37, 1, 59, 36, 10, 11, 12, 13, 14, 15, 16, 17, 18, 19, 20, 21, 22, 23, 24, 25, 26, 27, 28, 29, 30, 31, 32, 60, 61, 62, 5, 63, 64, 65, 66, 43, 67, 68, 69, 70, 71, 72, 73, 74, 75, 76, 77, 78, 79, 80, 81, 82, 83, 84, 85, 86, 87, 88, 89, 90, 91, 92, 93, 94, 95, 96, 97, 49, 50, 51, 52, 53, 54, 128, 129, 130, 131, 132, 133, 134, 153, 154, 155, 156, 157, 158, 159, 160, 161, 150, 151, 152, 135, 136, 137, 138, 139, 140, 141, 142, 143, 144, 145, 146, 147, 148, 149] (by decide +kernel) (by decide +kernel)
set_option maxRecDepth 20000 in
theorem gX2_passMinute_X2_bringCabsOn : GoodIn wsX2_passMinute (wsV RX2 293 RX2 yX2_bringCabsOn wsX2_bringCabsOn) := goodIn_app (goodIn_of _ (by decide +kernel)) ggX2_passMinute_X2_bringCabsOn
set_option maxRecDepth 20000 in
theorem ggX2_passMinute_X2_makeOffers : GoodIn wsX2_passMinute wsX2_makeOffers := goodIn_r _ [101, 7, 10, 11, 12, 13, 14, 15, 102, 103, 104, 5, 105, 106, 107, 81, 43, 44, 1, 9, 37, 16, 17, 18, 19, 20, 21, 22, 23, 24, 25, 26, 27, 28, 29, 30, 31, 32, 108, 109, 110, 111, 112, 113, 114, 115, 8, 66, 64, 54, 116, 117, 118, 119, 120, 42, 121, 122, 123, 36, 45, 46, 47, 48, 124, 125, 126, 127, 68, 69, 70, 71, 72, 128, 129, 130, 131, 132, 133, 134, 150, 151, 152, 135, 136, 137, 138, 139, 140, 141, 142, 143, 144, 145, 146, 147, 148, 149, 153, 154, 155, 156, 157, 158, 159, 160, 161] (by decide +kernel) (by decide +kernel)
set_option maxRecDepth 20000 in
theorem gX2_passMinute_X2_makeOffers : GoodIn wsX2_passMinute (wsV RX2 89 RX2 yX2_makeOffers wsX2_makeOffers) := goodIn_app (goodIn_of _ (by decide +kernel)) ggX2_passMinute_X2_makeOffers
theorem dX2_passMinute_0 : decode cX2_passMinute 0 = .ok (.aload_n 0, 1) := by decide +kernel
theorem dX2_passMinute_1 : decode cX2_passMinute 1 = .ok (.dup, 1) := by decide +kernel
theorem dX2_passMinute_2 : decode cX2_passMinute 2 = .ok (.getfield 120, 3) := by decide +kernel
theorem dX2_passMinute_5 : decode cX2_passMinute 5 = .ok (.iconst 1, 1) := by decide +kernel
theorem dX2_passMinute_6 : decode cX2_passMinute 6 = .ok (.iadd, 1) := by decide +kernel
theorem dX2_passMinute_7 : decode cX2_passMinute 7 = .ok (.putfield 120, 3) := by decide +kernel
theorem dX2_passMinute_10 : decode cX2_passMinute 10 = .ok (.aload_n 0, 1) := by decide +kernel
theorem dX2_passMinute_11 : decode cX2_passMinute 11 = .ok (.invokevirtual 290, 3) := by decide +kernel
theorem dX2_passMinute_14 : decode cX2_passMinute 14 = .ok (.aload_n 0, 1) := by decide +kernel
theorem dX2_passMinute_15 : decode cX2_passMinute 15 = .ok (.invokevirtual 293, 3) := by decide +kernel
theorem dX2_passMinute_18 : decode cX2_passMinute 18 = .ok (.istore_n 1, 1) := by decide +kernel
theorem dX2_passMinute_19 : decode cX2_passMinute 19 = .ok (.aload_n 0, 1) := by decide +kernel
theorem dX2_passMinute_20 : decode cX2_passMinute 20 = .ok (.invokevirtual 89, 3) := by decide +kernel
theorem dX2_passMinute_23 : decode cX2_passMinute 23 = .ok (.iload_n 1, 1) := by decide +kernel
theorem dX2_passMinute_24 : decode cX2_passMinute 24 = .ok (.ireturn, 1) := by decide +kernel
set_option maxRecDepth 20000 in
theorem ggX2_refuseOldOffers_Jx4a65c_size_8abf5 : GoodIn wsX2_refuseOldOffers wsJx4a65c_size_8abf5 := goodIn_r _ [9, 10, 73, 74, 75] (by decide +kernel) (by decide +kernel)
set_option maxRecDepth 20000 in
theorem gX2_refuseOldOffers_Jx4a65c_size_8abf5 : GoodIn wsX2_refuseOldOffers (wsV RX2 59 RJx4a65c yJx4a65c_size_8abf5 wsJx4a65c_size_8abf5) := goodIn_app (goodIn_of _ (by decide +kernel)) ggX2_refuseOldOffers_Jx4a65c_size_8abf5
set_option maxRecDepth 20000 in
theorem ggX2_refuseOldOffers_Jx4a65c_get_915e3 : GoodIn wsX2_refuseOldOffers wsJx4a65c_get_915e3 := goodIn_r _ [14, 10, 15, 16, 17, 18, 19, 20, 21, 22, 23, 24, 25, 8, 26, 27, 73, 74, 75] (by decide +kernel) (by decide +kernel)
set_option maxRecDepth 20000 in
theorem gX2_refuseOldOffers_Jx4a65c_get_915e3 : GoodIn wsX2_refuseOldOffers (wsV RX2 197 RJx4a65c yJx4a65c_get_915e3 wsJx4a65c_get_915e3) := goodIn_app (goodIn_of _ (by decide +kernel)) ggX2_refuseOldOffers_Jx4a65c_get_915e3
set_option maxRecDepth 20000 in
theorem ggX2_refuseOldOffers_X2_offeredTo : GoodIn wsX2_refuseOldOffers wsX2_offeredTo := goodIn_r _ [31, 32, 33, 76, 77, 78, 79, 80, 81, 82, 83, 84] (by decide +kernel) (by decide +kernel)
set_option maxRecDepth 20000 in
theorem gX2_refuseOldOffers_X2_offeredTo : GoodIn wsX2_refuseOldOffers (va_wsS RX2 132 yX2_offeredTo wsX2_offeredTo) := goodIn_app (goodIn_of _ (by decide +kernel)) ggX2_refuseOldOffers_X2_offeredTo
set_option maxRecDepth 20000 in
theorem ggX2_refuseOldOffers_X2_turnDown : GoodIn wsX2_refuseOldOffers wsX2_turnDown := goodIn_r _ [37, 38, 39, 40, 33, 28, 29, 30, 31, 32, 41, 42, 43, 44, 45, 46, 47, 48, 49, 50, 58, 59, 60, 61, 62, 63, 64, 65, 66, 67, 68, 69, 70, 71, 72, 76, 77, 78, 79, 80, 81, 82, 83, 84, 51, 52, 53, 54, 55, 56, 57] (by decide +kernel) (by decide +kernel)
set_option maxRecDepth 20000 in
theorem gX2_refuseOldOffers_X2_turnDown : GoodIn wsX2_refuseOldOffers (wsV RX2 98 RX2 yX2_turnDown wsX2_turnDown) := goodIn_app (goodIn_of _ (by decide +kernel)) ggX2_refuseOldOffers_X2_turnDown
theorem dX2_refuseOldOffers_0 : decode cX2_refuseOldOffers 0 = .ok (.iconst 0, 1) := by decide +kernel
theorem dX2_refuseOldOffers_1 : decode cX2_refuseOldOffers 1 = .ok (.istore_n 1, 1) := by decide +kernel
theorem dX2_refuseOldOffers_2 : decode cX2_refuseOldOffers 2 = .ok (.iload_n 1, 1) := by decide +kernel
theorem dX2_refuseOldOffers_3 : decode cX2_refuseOldOffers 3 = .ok (.aload_n 0, 1) := by decide +kernel
theorem dX2_refuseOldOffers_4 : decode cX2_refuseOldOffers 4 = .ok (.getfield 16, 3) := by decide +kernel
theorem dX2_refuseOldOffers_7 : decode cX2_refuseOldOffers 7 = .ok (.invokevirtual 59, 3) := by decide +kernel
theorem dX2_refuseOldOffers_10 : decode cX2_refuseOldOffers 10 = .ok (.if_icmp .ge 48, 3) := by decide +kernel
theorem dX2_refuseOldOffers_13 : decode cX2_refuseOldOffers 13 = .ok (.aload_n 0, 1) := by decide +kernel
theorem dX2_refuseOldOffers_14 : decode cX2_refuseOldOffers 14 = .ok (.getfield 16, 3) := by decide +kernel
theorem dX2_refuseOldOffers_17 : decode cX2_refuseOldOffers 17 = .ok (.iload_n 1, 1) := by decide +kernel
theorem dX2_refuseOldOffers_18 : decode cX2_refuseOldOffers 18 = .ok (.invokevirtual 197, 3) := by decide +kernel
theorem dX2_refuseOldOffers_21 : decode cX2_refuseOldOffers 21 = .ok (.checkcast 68, 3) := by decide +kernel
theorem dX2_refuseOldOffers_24 : decode cX2_refuseOldOffers 24 = .ok (.astore_n 2, 1) := by decide +kernel
theorem dX2_refuseOldOffers_25 : decode cX2_refuseOldOffers 25 = .ok (.aload_n 2, 1) := by decide +kernel
theorem dX2_refuseOldOffers_26 : decode cX2_refuseOldOffers 26 = .ok (.invokestatic 132, 3) := by decide +kernel
theorem dX2_refuseOldOffers_29 : decode cX2_refuseOldOffers 29 = .ok (.astore_n 3, 1) := by decide +kernel
theorem dX2_refuseOldOffers_30 : decode cX2_refuseOldOffers 30 = .ok (.aload_n 3, 1) := by decide +kernel
theorem dX2_refuseOldOffers_31 : decode cX2_refuseOldOffers 31 = .ok (.ifnull 21, 3) := by decide +kernel
theorem dX2_refuseOldOffers_34 : decode cX2_refuseOldOffers 34 = .ok (.aload_n 0, 1) := by decide +kernel
theorem dX2_refuseOldOffers_35 : decode cX2_refuseOldOffers 35 = .ok (.getfield 120, 3) := by decide +kernel
theorem dX2_refuseOldOffers_38 : decode cX2_refuseOldOffers 38 = .ok (.aload_n 3, 1) := by decide +kernel
theorem dX2_refuseOldOffers_39 : decode cX2_refuseOldOffers 39 = .ok (.getfield 271, 3) := by decide +kernel
theorem dX2_refuseOldOffers_42 : decode cX2_refuseOldOffers 42 = .ok (.isub, 1) := by decide +kernel
theorem dX2_refuseOldOffers_43 : decode cX2_refuseOldOffers 43 = .ok (.iconst 2, 1) := by decide +kernel
theorem dX2_refuseOldOffers_44 : decode cX2_refuseOldOffers 44 = .ok (.if_icmp .lt 8, 3) := by decide +kernel
theorem dX2_refuseOldOffers_47 : decode cX2_refuseOldOffers 47 = .ok (.aload_n 0, 1) := by decide +kernel
theorem dX2_refuseOldOffers_48 : decode cX2_refuseOldOffers 48 = .ok (.aload_n 2, 1) := by decide +kernel
theorem dX2_refuseOldOffers_49 : decode cX2_refuseOldOffers 49 = .ok (.invokevirtual 98, 3) := by decide +kernel
theorem dX2_refuseOldOffers_52 : decode cX2_refuseOldOffers 52 = .ok (.iinc 1 1, 3) := by decide +kernel
theorem dX2_refuseOldOffers_55 : decode cX2_refuseOldOffers 55 = .ok (.goto (-53), 3) := by decide +kernel
theorem dX2_refuseOldOffers_58 : decode cX2_refuseOldOffers 58 = .ok (.return_, 1) := by decide +kernel
set_option maxRecDepth 20000 in
theorem ggX2_bringCabsOn_Jx4a65c_size_8abf5 : GoodIn wsX2_bringCabsOn wsJx4a65c_size_8abf5 := goodIn_r _ [11, 12, 92, 93, 94] (by decide +kernel) (by decide +kernel)
set_option maxRecDepth 20000 in
theorem gX2_bringCabsOn_Jx4a65c_size_8abf5 : GoodIn wsX2_bringCabsOn (wsV RX2 59 RJx4a65c yJx4a65c_size_8abf5 wsJx4a65c_size_8abf5) := goodIn_app (goodIn_of _ (by decide +kernel)) ggX2_bringCabsOn_Jx4a65c_size_8abf5
set_option maxRecDepth 20000 in
theorem ggX2_bringCabsOn_Jx4a65c_get_915e3 : GoodIn wsX2_bringCabsOn wsJx4a65c_get_915e3 := goodIn_r _ [16, 12, 17, 18, 19, 20, 21, 22, 23, 24, 25, 26, 27, 10, 28, 29, 92, 93, 94] (by decide +kernel) (by decide +kernel)
set_option maxRecDepth 20000 in
theorem gX2_bringCabsOn_Jx4a65c_get_915e3 : GoodIn wsX2_bringCabsOn (wsV RX2 197 RJx4a65c yJx4a65c_get_915e3 wsJx4a65c_get_915e3) := goodIn_app (goodIn_of _ (by decide +kernel)) ggX2_bringCabsOn_Jx4a65c_get_915e3
set_option maxRecDepth 20000 in
theorem ggX2_bringCabsOn_X2_beginRide : GoodIn wsX2_bringCabsOn wsX2_beginRide := goodIn_r _ [34, 35, 36, 6, 37, 4, 5, 38, 39, 40, 41, 42, 33, 43, 44, 45, 46, 47, 48, 49, 50, 51, 52, 53, 54, 55, 56, 57, 58, 59, 95, 96, 97, 98, 99, 100, 101, 102, 103, 104, 105, 106, 107, 108, 109, 83, 84, 85, 86, 87, 88, 89, 90, 91, 76, 77, 78, 79, 80, 81, 82] (by decide +kernel) (by decide +kernel)
set_option maxRecDepth 20000 in
theorem gX2_bringCabsOn_X2_beginRide : GoodIn wsX2_bringCabsOn (wsV RX2 296 RX2 yX2_beginRide wsX2_beginRide) := goodIn_app (goodIn_of _ (by decide +kernel)) ggX2_bringCabsOn_X2_beginRide
set_option maxRecDepth 20000 in
theorem ggX2_bringCabsOn_X2_endRide : GoodIn wsX2_bringCabsOn wsX2_endRide := goodIn_r _ [63, 64, 65, 36, 37, 3, 38, 4, 66, 67, 68, 33, 69, 50, 52, 58, 59, 70, 71, 72, 73, 6, 74, 75, 83, 84, 85, 86, 87, 88, 89, 90, 91, 95, 96, 97, 98, 99, 100, 101, 102, 103, 104, 105, 106, 107, 108, 109, 76, 77, 78, 79, 80, 81, 82] (by decide +kernel) (by decide +kernel)
set_option maxRecDepth 20000 in
theorem gX2_bringCabsOn_X2_endRide : GoodIn wsX2_bringCabsOn (wsV RX2 300 RX2 yX2_endRide wsX2_endRide) := goodIn_app (goodIn_of _ (by decide +kernel)) ggX2_bringCabsOn_X2_endRide
theorem dX2_bringCabsOn_0 : decode cX2_bringCabsOn 0 = .ok (.iconst 0, 1) := by decide +kernel
theorem dX2_bringCabsOn_1 : decode cX2_bringCabsOn 1 = .ok (.istore_n 1, 1) := by decide +kernel
theorem dX2_bringCabsOn_2 : decode cX2_bringCabsOn 2 = .ok (.iconst 0, 1) := by decide +kernel
theorem dX2_bringCabsOn_3 : decode cX2_bringCabsOn 3 = .ok (.istore_n 2, 1) := by decide +kernel
theorem dX2_bringCabsOn_4 : decode cX2_bringCabsOn 4 = .ok (.iload_n 2, 1) := by decide +kernel
theorem dX2_bringCabsOn_5 : decode cX2_bringCabsOn 5 = .ok (.aload_n 0, 1) := by decide +kernel
theorem dX2_bringCabsOn_6 : decode cX2_bringCabsOn 6 = .ok (.getfield 16, 3) := by decide +kernel
theorem dX2_bringCabsOn_9 : decode cX2_bringCabsOn 9 = .ok (.invokevirtual 59, 3) := by decide +kernel
theorem dX2_bringCabsOn_12 : decode cX2_bringCabsOn 12 = .ok (.if_icmp .ge 82, 3) := by decide +kernel
theorem dX2_bringCabsOn_15 : decode cX2_bringCabsOn 15 = .ok (.aload_n 0, 1) := by decide +kernel
theorem dX2_bringCabsOn_16 : decode cX2_bringCabsOn 16 = .ok (.getfield 16, 3) := by decide +kernel
theorem dX2_bringCabsOn_19 : decode cX2_bringCabsOn 19 = .ok (.iload_n 2, 1) := by decide +kernel
theorem dX2_bringCabsOn_20 : decode cX2_bringCabsOn 20 = .ok (.invokevirtual 197, 3) := by decide +kernel
theorem dX2_bringCabsOn_23 : decode cX2_bringCabsOn 23 = .ok (.checkcast 68, 3) := by decide +kernel
theorem dX2_bringCabsOn_26 : decode cX2_bringCabsOn 26 = .ok (.astore_n 3, 1) := by decide +kernel
theorem dX2_bringCabsOn_27 : decode cX2_bringCabsOn 27 = .ok (.aload_n 3, 1) := by decide +kernel
theorem dX2_bringCabsOn_28 : decode cX2_bringCabsOn 28 = .ok (.getfield 251, 3) := by decide +kernel
theorem dX2_bringCabsOn_31 : decode cX2_bringCabsOn 31 = .ok (.astore 4, 2) := by decide +kernel
theorem dX2_bringCabsOn_33 : decode cX2_bringCabsOn 33 = .ok (.aload 4, 2) := by decide +kernel
theorem dX2_bringCabsOn_35 : decode cX2_bringCabsOn 35 = .ok (.ifnull 53, 3) := by decide +kernel
theorem dX2_bringCabsOn_38 : decode cX2_bringCabsOn 38 = .ok (.aload_n 0, 1) := by decide +kernel
theorem dX2_bringCabsOn_39 : decode cX2_bringCabsOn 39 = .ok (.getfield 120, 3) := by decide +kernel
theorem dX2_bringCabsOn_42 : decode cX2_bringCabsOn 42 = .ok (.aload_n 3, 1) := by decide +kernel
theorem dX2_bringCabsOn_43 : decode cX2_bringCabsOn 43 = .ok (.getfield 149, 3) := by decide +kernel
theorem dX2_bringCabsOn_46 : decode cX2_bringCabsOn 46 = .ok (.if_icmp .ge 6, 3) := by decide +kernel
theorem dX2_bringCabsOn_49 : decode cX2_bringCabsOn 49 = .ok (.goto 39, 3) := by decide +kernel
theorem dX2_bringCabsOn_52 : decode cX2_bringCabsOn 52 = .ok (.aload_n 3, 1) := by decide +kernel
theorem dX2_bringCabsOn_53 : decode cX2_bringCabsOn 53 = .ok (.getfield 80, 3) := by decide +kernel
theorem dX2_bringCabsOn_56 : decode cX2_bringCabsOn 56 = .ok (.iconst 2, 1) := by decide +kernel
theorem dX2_bringCabsOn_57 : decode cX2_bringCabsOn 57 = .ok (.if_icmp .ne 13, 3) := by decide +kernel
theorem dX2_bringCabsOn_60 : decode cX2_bringCabsOn 60 = .ok (.aload_n 0, 1) := by decide +kernel
theorem dX2_bringCabsOn_61 : decode cX2_bringCabsOn 61 = .ok (.aload_n 3, 1) := by decide +kernel
theorem dX2_bringCabsOn_62 : decode cX2_bringCabsOn 62 = .ok (.aload 4, 2) := by decide +kernel
theorem dX2_bringCabsOn_64 : decode cX2_bringCabsOn 64 = .ok (.invokevirtual 296, 3) := by decide +kernel
theorem dX2_bringCabsOn_67 : decode cX2_bringCabsOn 67 = .ok (.goto 21, 3) := by decide +kernel
theorem dX2_bringCabsOn_70 : decode cX2_bringCabsOn 70 = .ok (.aload_n 3, 1) := by decide +kernel
theorem dX2_bringCabsOn_71 : decode cX2_bringCabsOn 71 = .ok (.getfield 80, 3) := by decide +kernel
theorem dX2_bringCabsOn_74 : decode cX2_bringCabsOn 74 = .ok (.iconst 3, 1) := by decide +kernel
theorem dX2_bringCabsOn_75 : decode cX2_bringCabsOn 75 = .ok (.if_icmp .ne 13, 3) := by decide +kernel
theorem dX2_bringCabsOn_78 : decode cX2_bringCabsOn 78 = .ok (.aload_n 0, 1) := by decide +kernel
theorem dX2_bringCabsOn_79 : decode cX2_bringCabsOn 79 = .ok (.aload_n 3, 1) := by decide +kernel
theorem dX2_bringCabsOn_80 : decode cX2_bringCabsOn 80 = .ok (.aload 4, 2) := by decide +kernel
theorem dX2_bringCabsOn_82 : decode cX2_bringCabsOn 82 = .ok (.invokevirtual 300, 3) := by decide +kernel
theorem dX2_bringCabsOn_85 : decode cX2_bringCabsOn 85 = .ok (.iinc 1 1, 3) := by decide +kernel
theorem dX2_bringCabsOn_88 : decode cX2_bringCabsOn 88 = .ok (.iinc 2 1, 3) := by decide +kernel
theorem dX2_bringCabsOn_91 : decode cX2_bringCabsOn 91 = .ok (.goto (-87), 3) := by decide +kernel
theorem dX2_bringCabsOn_94 : decode cX2_bringCabsOn 94 = .ok (.iload_n 1, 1) := by decide +kernel
theorem dX2_bringCabsOn_95 : decode cX2_bringCabsOn 95 = .ok (.ireturn, 1) := by decide +kernel
set_option maxRecDepth 20000 in
theorem ggX2_beginRide_X2_wayBetween : GoodIn wsX2_beginRide wsX2_wayBetween := goodIn_r _ [13, 14, 54, 55, 56, 57, 58, 59, 60] (by decide +kernel) (by decide +kernel)
set_option maxRecDepth 20000 in
theorem gX2_beginRide_X2_wayBetween : GoodIn wsX2_beginRide (wsV RX2 43 RX2 yX2_wayBetween wsX2_wayBetween) := goodIn_app (goodIn_of _ (by decide +kernel)) ggX2_beginRide_X2_wayBetween
set_option maxRecDepth 20000 in
theorem ggX2_beginRide_X2_meterFare : GoodIn wsX2_beginRide wsX2_meterFare := goodIn_r _ [18, 19, 20, 21, 22, 5, 23, 24, 25, 26, 27, 28, 29, 54, 55, 56, 57, 58, 59, 60, 30, 31, 32, 33, 34, 35, 36, 37, 38, 39, 40, 41, 42, 43, 44] (by decide +kernel) (by decide +kernel)
set_option maxRecDepth 20000 in
theorem gX2_beginRide_X2_meterFare : GoodIn wsX2_beginRide (wsV RX2 306 RX2 yX2_meterFare wsX2_meterFare) := goodIn_app (goodIn_of _ (by decide +kernel)) ggX2_beginRide_X2_meterFare
theorem dX2_beginRide_0 : decode cX2_beginRide 0 = .ok (.aload_n 0, 1) := by decide +kernel
theorem dX2_beginRide_1 : decode cX2_beginRide 1 = .ok (.aload_n 2, 1) := by decide +kernel
theorem dX2_beginRide_2 : decode cX2_beginRide 2 = .ok (.getfield 138, 3) := by decide +kernel
theorem dX2_beginRide_5 : decode cX2_beginRide 5 = .ok (.aload_n 2, 1) := by decide +kernel
theorem dX2_beginRide_6 : decode cX2_beginRide 6 = .ok (.getfield 303, 3) := by decide +kernel
theorem dX2_beginRide_9 : decode cX2_beginRide 9 = .ok (.invokevirtual 43, 3) := by decide +kernel
theorem dX2_beginRide_12 : decode cX2_beginRide 12 = .ok (.istore_n 3, 1) := by decide +kernel
theorem dX2_beginRide_13 : decode cX2_beginRide 13 = .ok (.aload_n 1, 1) := by decide +kernel
theorem dX2_beginRide_14 : decode cX2_beginRide 14 = .ok (.iconst 3, 1) := by decide +kernel
theorem dX2_beginRide_15 : decode cX2_beginRide 15 = .ok (.putfield 80, 3) := by decide +kernel
theorem dX2_beginRide_18 : decode cX2_beginRide 18 = .ok (.aload_n 1, 1) := by decide +kernel
theorem dX2_beginRide_19 : decode cX2_beginRide 19 = .ok (.aload_n 2, 1) := by decide +kernel
theorem dX2_beginRide_20 : decode cX2_beginRide 20 = .ok (.getfield 138, 3) := by decide +kernel
theorem dX2_beginRide_23 : decode cX2_beginRide 23 = .ok (.putfield 101, 3) := by decide +kernel
theorem dX2_beginRide_26 : decode cX2_beginRide 26 = .ok (.aload_n 1, 1) := by decide +kernel
theorem dX2_beginRide_27 : decode cX2_beginRide 27 = .ok (.aload_n 0, 1) := by decide +kernel
theorem dX2_beginRide_28 : decode cX2_beginRide 28 = .ok (.getfield 120, 3) := by decide +kernel
theorem dX2_beginRide_31 : decode cX2_beginRide 31 = .ok (.iload_n 3, 1) := by decide +kernel
theorem dX2_beginRide_32 : decode cX2_beginRide 32 = .ok (.iadd, 1) := by decide +kernel
theorem dX2_beginRide_33 : decode cX2_beginRide 33 = .ok (.putfield 149, 3) := by decide +kernel
theorem dX2_beginRide_36 : decode cX2_beginRide 36 = .ok (.aload_n 2, 1) := by decide +kernel
theorem dX2_beginRide_37 : decode cX2_beginRide 37 = .ok (.iconst 3, 1) := by decide +kernel
theorem dX2_beginRide_38 : decode cX2_beginRide 38 = .ok (.putfield 152, 3) := by decide +kernel
theorem dX2_beginRide_41 : decode cX2_beginRide 41 = .ok (.aload_n 2, 1) := by decide +kernel
theorem dX2_beginRide_42 : decode cX2_beginRide 42 = .ok (.aload_n 0, 1) := by decide +kernel
theorem dX2_beginRide_43 : decode cX2_beginRide 43 = .ok (.getfield 120, 3) := by decide +kernel
theorem dX2_beginRide_46 : decode cX2_beginRide 46 = .ok (.putfield 201, 3) := by decide +kernel
theorem dX2_beginRide_49 : decode cX2_beginRide 49 = .ok (.aload_n 0, 1) := by decide +kernel
theorem dX2_beginRide_50 : decode cX2_beginRide 50 = .ok (.aload_n 2, 1) := by decide +kernel
theorem dX2_beginRide_51 : decode cX2_beginRide 51 = .ok (.iload_n 3, 1) := by decide +kernel
theorem dX2_beginRide_52 : decode cX2_beginRide 52 = .ok (.invokevirtual 306, 3) := by decide +kernel
theorem dX2_beginRide_55 : decode cX2_beginRide 55 = .ok (.return_, 1) := by decide +kernel
theorem dX2_meterFare_0 : decode cX2_meterFare 0 = .ok (.aload_n 1, 1) := by decide +kernel
theorem dX2_meterFare_1 : decode cX2_meterFare 1 = .ok (.aload_n 0, 1) := by decide +kernel
theorem dX2_meterFare_2 : decode cX2_meterFare 2 = .ok (.getfield 23, 3) := by decide +kernel
theorem dX2_meterFare_5 : decode cX2_meterFare 5 = .ok (.putfield 310, 3) := by decide +kernel
theorem dX2_meterFare_8 : decode cX2_meterFare 8 = .ok (.aload_n 1, 1) := by decide +kernel
theorem dX2_meterFare_9 : decode cX2_meterFare 9 = .ok (.aload_n 0, 1) := by decide +kernel
theorem dX2_meterFare_10 : decode cX2_meterFare 10 = .ok (.getfield 27, 3) := by decide +kernel
theorem dX2_meterFare_13 : decode cX2_meterFare 13 = .ok (.iload_n 2, 1) := by decide +kernel
theorem dX2_meterFare_14 : decode cX2_meterFare 14 = .ok (.imul, 1) := by decide +kernel
theorem dX2_meterFare_15 : decode cX2_meterFare 15 = .ok (.putfield 313, 3) := by decide +kernel
theorem dX2_meterFare_18 : decode cX2_meterFare 18 = .ok (.aload_n 1, 1) := by decide +kernel
theorem dX2_meterFare_19 : decode cX2_meterFare 19 = .ok (.aload_n 0, 1) := by decide +kernel
theorem dX2_meterFare_20 : decode cX2_meterFare 20 = .ok (.getfield 120, 3) := by decide +kernel
theorem dX2_meterFare_23 : decode cX2_meterFare 23 = .ok (.aload_n 1, 1) := by decide +kernel
theorem dX2_meterFare_24 : decode cX2_meterFare 24 = .ok (.getfield 141, 3) := by decide +kernel
theorem dX2_meterFare_27 : decode cX2_meterFare 27 = .ok (.isub, 1) := by decide +kernel
theorem dX2_meterFare_28 : decode cX2_meterFare 28 = .ok (.iconst 5, 1) := by decide +kernel
theorem dX2_meterFare_29 : decode cX2_meterFare 29 = .ok (.invokestatic 211, 3) := by decide +kernel
theorem dX2_meterFare_32 : decode cX2_meterFare 32 = .ok (.ineg, 1) := by decide +kernel
theorem dX2_meterFare_33 : decode cX2_meterFare 33 = .ok (.putfield 316, 3) := by decide +kernel
theorem dX2_meterFare_36 : decode cX2_meterFare 36 = .ok (.aload_n 1, 1) := by decide +kernel
theorem dX2_meterFare_37 : decode cX2_meterFare 37 = .ok (.aload_n 0, 1) := by decide +kernel
theorem dX2_meterFare_38 : decode cX2_meterFare 38 = .ok (.getfield 120, 3) := by decide +kernel
theorem dX2_meterFare_41 : decode cX2_meterFare 41 = .ok (.sipush 1440, 3) := by decide +kernel
theorem dX2_meterFare_44 : decode cX2_meterFare 44 = .ok (.irem, 1) := by decide +kernel
theorem dX2_meterFare_45 : decode cX2_meterFare 45 = .ok (.sipush 360, 3) := by decide +kernel
theorem dX2_meterFare_48 : decode cX2_meterFare 48 = .ok (.if_icmp .ge 17, 3) := by decide +kernel
theorem dX2_meterFare_51 : decode cX2_meterFare 51 = .ok (.aload_n 1, 1) := by decide +kernel
theorem dX2_meterFare_52 : decode cX2_meterFare 52 = .ok (.getfield 310, 3) := by decide +kernel
theorem dX2_meterFare_55 : decode cX2_meterFare 55 = .ok (.aload_n 1, 1) := by decide +kernel
theorem dX2_meterFare_56 : decode cX2_meterFare 56 = .ok (.getfield 313, 3) := by decide +kernel
theorem dX2_meterFare_59 : decode cX2_meterFare 59 = .ok (.iadd, 1) := by decide +kernel
theorem dX2_meterFare_60 : decode cX2_meterFare 60 = .ok (.iconst 2, 1) := by decide +kernel
theorem dX2_meterFare_61 : decode cX2_meterFare 61 = .ok (.idiv, 1) := by decide +kernel
theorem dX2_meterFare_62 : decode cX2_meterFare 62 = .ok (.goto 4, 3) := by decide +kernel
theorem dX2_meterFare_65 : decode cX2_meterFare 65 = .ok (.iconst 0, 1) := by decide +kernel
theorem dX2_meterFare_66 : decode cX2_meterFare 66 = .ok (.putfield 319, 3) := by decide +kernel
theorem dX2_meterFare_69 : decode cX2_meterFare 69 = .ok (.return_, 1) := by decide +kernel
set_option maxRecDepth 20000 in
theorem ggX2_endRide_X2_wholeFare : GoodIn wsX2_endRide wsX2_wholeFare := goodIn_r _ [12, 13, 14, 15, 16, 33, 34, 35, 36, 37, 38, 39, 40, 41, 42, 43, 44, 45, 46, 47] (by decide +kernel) (by decide +kernel)
set_option maxRecDepth 20000 in
theorem gX2_endRide_X2_wholeFare : GoodIn wsX2_endRide (va_wsS RX2 322 yX2_wholeFare wsX2_wholeFare) := goodIn_app (goodIn_of _ (by decide +kernel)) ggX2_endRide_X2_wholeFare
set_option maxRecDepth 20000 in
theorem ggX2_endRide_X2_joinQueue : GoodIn wsX2_endRide wsX2_joinQueue := goodIn_r _ [20, 21, 22, 23, 24, 25, 26, 27, 28, 29, 30, 31, 32, 48, 49, 50, 51, 52, 53, 54] (by decide +kernel) (by decide +kernel)
set_option maxRecDepth 20000 in
theorem gX2_endRide_X2_joinQueue : GoodIn wsX2_endRide (wsV RX2 85 RX2 yX2_joinQueue wsX2_joinQueue) := goodIn_app (goodIn_of _ (by decide +kernel)) ggX2_endRide_X2_joinQueue
theorem dX2_endRide_0 : decode cX2_endRide 0 = .ok (.aload_n 2, 1) := by decide +kernel
theorem dX2_endRide_1 : decode cX2_endRide 1 = .ok (.invokestatic 322, 3) := by decide +kernel
theorem dX2_endRide_4 : decode cX2_endRide 4 = .ok (.istore_n 3, 1) := by decide +kernel
theorem dX2_endRide_5 : decode cX2_endRide 5 = .ok (.iload_n 3, 1) := by decide +kernel
theorem dX2_endRide_6 : decode cX2_endRide 6 = .ok (.bipush 80, 2) := by decide +kernel
theorem dX2_endRide_8 : decode cX2_endRide 8 = .ok (.imul, 1) := by decide +kernel
theorem dX2_endRide_9 : decode cX2_endRide 9 = .ok (.bipush 100, 2) := by decide +kernel
theorem dX2_endRide_11 : decode cX2_endRide 11 = .ok (.idiv, 1) := by decide +kernel
theorem dX2_endRide_12 : decode cX2_endRide 12 = .ok (.istore 4, 2) := by decide +kernel
theorem dX2_endRide_14 : decode cX2_endRide 14 = .ok (.aload_n 1, 1) := by decide +kernel
theorem dX2_endRide_15 : decode cX2_endRide 15 = .ok (.dup, 1) := by decide +kernel
theorem dX2_endRide_16 : decode cX2_endRide 16 = .ok (.getfield 194, 3) := by decide +kernel
theorem dX2_endRide_19 : decode cX2_endRide 19 = .ok (.iload 4, 2) := by decide +kernel
theorem dX2_endRide_21 : decode cX2_endRide 21 = .ok (.iadd, 1) := by decide +kernel
theorem dX2_endRide_22 : decode cX2_endRide 22 = .ok (.putfield 194, 3) := by decide +kernel
theorem dX2_endRide_25 : decode cX2_endRide 25 = .ok (.aload_n 1, 1) := by decide +kernel
theorem dX2_endRide_26 : decode cX2_endRide 26 = .ok (.dup, 1) := by decide +kernel
theorem dX2_endRide_27 : decode cX2_endRide 27 = .ok (.getfield 193, 3) := by decide +kernel
theorem dX2_endRide_30 : decode cX2_endRide 30 = .ok (.iload_n 3, 1) := by decide +kernel
theorem dX2_endRide_31 : decode cX2_endRide 31 = .ok (.iload 4, 2) := by decide +kernel
theorem dX2_endRide_33 : decode cX2_endRide 33 = .ok (.isub, 1) := by decide +kernel
theorem dX2_endRide_34 : decode cX2_endRide 34 = .ok (.iadd, 1) := by decide +kernel
theorem dX2_endRide_35 : decode cX2_endRide 35 = .ok (.putfield 193, 3) := by decide +kernel
theorem dX2_endRide_38 : decode cX2_endRide 38 = .ok (.aload_n 1, 1) := by decide +kernel
theorem dX2_endRide_39 : decode cX2_endRide 39 = .ok (.aload_n 2, 1) := by decide +kernel
theorem dX2_endRide_40 : decode cX2_endRide 40 = .ok (.getfield 303, 3) := by decide +kernel
theorem dX2_endRide_43 : decode cX2_endRide 43 = .ok (.putfield 101, 3) := by decide +kernel
theorem dX2_endRide_46 : decode cX2_endRide 46 = .ok (.aload_n 1, 1) := by decide +kernel
theorem dX2_endRide_47 : decode cX2_endRide 47 = .ok (.aconst_null, 1) := by decide +kernel
theorem dX2_endRide_48 : decode cX2_endRide 48 = .ok (.putfield 251, 3) := by decide +kernel
theorem dX2_endRide_51 : decode cX2_endRide 51 = .ok (.aload_n 0, 1) := by decide +kernel
theorem dX2_endRide_52 : decode cX2_endRide 52 = .ok (.aload_n 1, 1) := by decide +kernel
theorem dX2_endRide_53 : decode cX2_endRide 53 = .ok (.invokevirtual 85, 3) := by decide +kernel
theorem dX2_endRide_56 : decode cX2_endRide 56 = .ok (.aload_n 2, 1) := by decide +kernel
theorem dX2_endRide_57 : decode cX2_endRide 57 = .ok (.iconst 4, 1) := by decide +kernel
theorem dX2_endRide_58 : decode cX2_endRide 58 = .ok (.putfield 152, 3) := by decide +kernel
theorem dX2_endRide_61 : decode cX2_endRide 61 = .ok (.aload_n 2, 1) := by decide +kernel
theorem dX2_endRide_62 : decode cX2_endRide 62 = .ok (.aload_n 0, 1) := by decide +kernel
theorem dX2_endRide_63 : decode cX2_endRide 63 = .ok (.getfield 120, 3) := by decide +kernel
theorem dX2_endRide_66 : decode cX2_endRide 66 = .ok (.putfield 326, 3) := by decide +kernel
theorem dX2_endRide_69 : decode cX2_endRide 69 = .ok (.return_, 1) := by decide +kernel
set_option maxRecDepth 20000 in
theorem ggX2_cabDetail_X2_placeOf : GoodIn wsX2_cabDetail wsX2_placeOf := goodIn_r _ [10, 1, 11, 12, 2, 13, 14, 15, 16, 17, 18, 19, 20, 21, 22, 23, 24, 25, 26, 27, 28, 29, 30, 31, 32, 33, 34, 35, 36, 37, 38, 9, 39, 40, 41, 42, 43, 44, 45, 46, 47, 48, 64, 65, 66, 67, 68, 69, 70, 71, 72, 73] (by decide +kernel) (by decide +kernel)
set_option maxRecDepth 20000 in
theorem gX2_cabDetail_X2_placeOf : GoodIn wsX2_cabDetail (wsV RX2 92 RX2 yX2_placeOf wsX2_placeOf) := goodIn_app (goodIn_of _ (by decide +kernel)) ggX2_cabDetail_X2_placeOf
theorem dX2_cabDetail_0 : decode cX2_cabDetail 0 = .ok (.iload_n 2, 1) := by decide +kernel
theorem dX2_cabDetail_1 : decode cX2_cabDetail 1 = .ok (.tableswitch 65 0 3 #[31, 36, 41, 46], 31) := by decide +kernel
theorem dX2_cabDetail_32 : decode cX2_cabDetail 32 = .ok (.aload_n 1, 1) := by decide +kernel
theorem dX2_cabDetail_33 : decode cX2_cabDetail 33 = .ok (.getfield 80, 3) := by decide +kernel
theorem dX2_cabDetail_36 : decode cX2_cabDetail 36 = .ok (.ireturn, 1) := by decide +kernel
theorem dX2_cabDetail_37 : decode cX2_cabDetail 37 = .ok (.aload_n 1, 1) := by decide +kernel
theorem dX2_cabDetail_38 : decode cX2_cabDetail 38 = .ok (.getfield 101, 3) := by decide +kernel
theorem dX2_cabDetail_41 : decode cX2_cabDetail 41 = .ok (.ireturn, 1) := by decide +kernel
theorem dX2_cabDetail_42 : decode cX2_cabDetail 42 = .ok (.aload_n 1, 1) := by decide +kernel
theorem dX2_cabDetail_43 : decode cX2_cabDetail 43 = .ok (.getfield 208, 3) := by decide +kernel
theorem dX2_cabDetail_46 : decode cX2_cabDetail 46 = .ok (.ireturn, 1) := by decide +kernel
theorem dX2_cabDetail_47 : decode cX2_cabDetail 47 = .ok (.aload_n 1, 1) := by decide +kernel
theorem dX2_cabDetail_48 : decode cX2_cabDetail 48 = .ok (.getfield 251, 3) := by decide +kernel
theorem dX2_cabDetail_51 : decode cX2_cabDetail 51 = .ok (.ifnonnull 7, 3) := by decide +kernel
theorem dX2_cabDetail_54 : decode cX2_cabDetail 54 = .ok (.iconst (-1), 1) := by decide +kernel
theorem dX2_cabDetail_55 : decode cX2_cabDetail 55 = .ok (.goto 10, 3) := by decide +kernel
theorem dX2_cabDetail_58 : decode cX2_cabDetail 58 = .ok (.aload_n 1, 1) := by decide +kernel
theorem dX2_cabDetail_59 : decode cX2_cabDetail 59 = .ok (.getfield 251, 3) := by decide +kernel
theorem dX2_cabDetail_62 : decode cX2_cabDetail 62 = .ok (.getfield 153, 3) := by decide +kernel
theorem dX2_cabDetail_65 : decode cX2_cabDetail 65 = .ok (.ireturn, 1) := by decide +kernel
theorem dX2_cabDetail_66 : decode cX2_cabDetail 66 = .ok (.aload_n 0, 1) := by decide +kernel
theorem dX2_cabDetail_67 : decode cX2_cabDetail 67 = .ok (.aload_n 1, 1) := by decide +kernel
theorem dX2_cabDetail_68 : decode cX2_cabDetail 68 = .ok (.invokevirtual 92, 3) := by decide +kernel
theorem dX2_cabDetail_71 : decode cX2_cabDetail 71 = .ok (.ireturn, 1) := by decide +kernel
set_option maxRecDepth 20000 in
theorem ggX2_orderDetail_J6_bitCount_0f7a4 : GoodIn wsX2_orderDetail wsJ6_bitCount_0f7a4 := goodIn_r _ [10, 11, 12, 13] (by decide +kernel) (by decide +kernel)
set_option maxRecDepth 20000 in
theorem gX2_orderDetail_J6_bitCount_0f7a4 : GoodIn wsX2_orderDetail (va_wsS RX2 329 yJ6_bitCount_0f7a4 wsJ6_bitCount_0f7a4) := goodIn_app (goodIn_of _ (by decide +kernel)) ggX2_orderDetail_J6_bitCount_0f7a4
theorem dX2_orderDetail_0 : decode cX2_orderDetail 0 = .ok (.iload_n 1, 1) := by decide +kernel
theorem dX2_orderDetail_1 : decode cX2_orderDetail 1 = .ok (.tableswitch 65 0 3 #[31, 36, 55, 60], 31) := by decide +kernel
theorem dX2_orderDetail_32 : decode cX2_orderDetail 32 = .ok (.aload_n 0, 1) := by decide +kernel
theorem dX2_orderDetail_33 : decode cX2_orderDetail 33 = .ok (.getfield 152, 3) := by decide +kernel
theorem dX2_orderDetail_36 : decode cX2_orderDetail 36 = .ok (.ireturn, 1) := by decide +kernel
theorem dX2_orderDetail_37 : decode cX2_orderDetail 37 = .ok (.aload_n 0, 1) := by decide +kernel
theorem dX2_orderDetail_38 : decode cX2_orderDetail 38 = .ok (.getfield 267, 3) := by decide +kernel
theorem dX2_orderDetail_41 : decode cX2_orderDetail 41 = .ok (.ifnonnull 7, 3) := by decide +kernel
theorem dX2_orderDetail_44 : decode cX2_orderDetail 44 = .ok (.iconst (-1), 1) := by decide +kernel
theorem dX2_orderDetail_45 : decode cX2_orderDetail 45 = .ok (.goto 10, 3) := by decide +kernel
theorem dX2_orderDetail_48 : decode cX2_orderDetail 48 = .ok (.aload_n 0, 1) := by decide +kernel
theorem dX2_orderDetail_49 : decode cX2_orderDetail 49 = .ok (.getfield 267, 3) := by decide +kernel
theorem dX2_orderDetail_52 : decode cX2_orderDetail 52 = .ok (.getfield 250, 3) := by decide +kernel
theorem dX2_orderDetail_55 : decode cX2_orderDetail 55 = .ok (.ireturn, 1) := by decide +kernel
theorem dX2_orderDetail_56 : decode cX2_orderDetail 56 = .ok (.aload_n 0, 1) := by decide +kernel
theorem dX2_orderDetail_57 : decode cX2_orderDetail 57 = .ok (.getfield 201, 3) := by decide +kernel
theorem dX2_orderDetail_60 : decode cX2_orderDetail 60 = .ok (.ireturn, 1) := by decide +kernel
theorem dX2_orderDetail_61 : decode cX2_orderDetail 61 = .ok (.aload_n 0, 1) := by decide +kernel
theorem dX2_orderDetail_62 : decode cX2_orderDetail 62 = .ok (.getfield 326, 3) := by decide +kernel
theorem dX2_orderDetail_65 : decode cX2_orderDetail 65 = .ok (.ireturn, 1) := by decide +kernel
theorem dX2_orderDetail_66 : decode cX2_orderDetail 66 = .ok (.aload_n 0, 1) := by decide +kernel
theorem dX2_orderDetail_67 : decode cX2_orderDetail 67 = .ok (.getfield 284, 3) := by decide +kernel
theorem dX2_orderDetail_70 : decode cX2_orderDetail 70 = .ok (.invokestatic 329, 3) := by decide +kernel
theorem dX2_orderDetail_73 : decode cX2_orderDetail 73 = .ok (.ireturn, 1) := by decide +kernel
set_option maxRecDepth 20000 in
theorem ggX2_farePart_X2_wholeFare : GoodIn wsX2_farePart wsX2_wholeFare := goodIn_r _ [8, 1, 2, 3, 4, 9, 10, 11, 12, 13, 14, 15, 16, 17, 18, 19, 20, 21, 22, 23] (by decide +kernel) (by decide +kernel)
set_option maxRecDepth 20000 in
theorem gX2_farePart_X2_wholeFare : GoodIn wsX2_farePart (va_wsS RX2 322 yX2_wholeFare wsX2_wholeFare) := goodIn_app (goodIn_of _ (by decide +kernel)) ggX2_farePart_X2_wholeFare
theorem dX2_farePart_0 : decode cX2_farePart 0 = .ok (.iload_n 1, 1) := by decide +kernel
theorem dX2_farePart_1 : decode cX2_farePart 1 = .ok (.tableswitch 51 0 3 #[31, 36, 41, 46], 31) := by decide +kernel
theorem dX2_farePart_32 : decode cX2_farePart 32 = .ok (.aload_n 0, 1) := by decide +kernel
theorem dX2_farePart_33 : decode cX2_farePart 33 = .ok (.getfield 310, 3) := by decide +kernel
theorem dX2_farePart_36 : decode cX2_farePart 36 = .ok (.ireturn, 1) := by decide +kernel
theorem dX2_farePart_37 : decode cX2_farePart 37 = .ok (.aload_n 0, 1) := by decide +kernel
theorem dX2_farePart_38 : decode cX2_farePart 38 = .ok (.getfield 313, 3) := by decide +kernel
theorem dX2_farePart_41 : decode cX2_farePart 41 = .ok (.ireturn, 1) := by decide +kernel
theorem dX2_farePart_42 : decode cX2_farePart 42 = .ok (.aload_n 0, 1) := by decide +kernel
theorem dX2_farePart_43 : decode cX2_farePart 43 = .ok (.getfield 316, 3) := by decide +kernel
theorem dX2_farePart_46 : decode cX2_farePart 46 = .ok (.ireturn, 1) := by decide +kernel
theorem dX2_farePart_47 : decode cX2_farePart 47 = .ok (.aload_n 0, 1) := by decide +kernel
theorem dX2_farePart_48 : decode cX2_farePart 48 = .ok (.getfield 319, 3) := by decide +kernel
theorem dX2_farePart_51 : decode cX2_farePart 51 = .ok (.ireturn, 1) := by decide +kernel
theorem dX2_farePart_52 : decode cX2_farePart 52 = .ok (.aload_n 0, 1) := by decide +kernel
theorem dX2_farePart_53 : decode cX2_farePart 53 = .ok (.invokestatic 322, 3) := by decide +kernel
theorem dX2_farePart_56 : decode cX2_farePart 56 = .ok (.ireturn, 1) := by decide +kernel
theorem dX2_wholeFare_0 : decode cX2_wholeFare 0 = .ok (.aload_n 0, 1) := by decide +kernel
theorem dX2_wholeFare_1 : decode cX2_wholeFare 1 = .ok (.getfield 310, 3) := by decide +kernel
theorem dX2_wholeFare_4 : decode cX2_wholeFare 4 = .ok (.aload_n 0, 1) := by decide +kernel
theorem dX2_wholeFare_5 : decode cX2_wholeFare 5 = .ok (.getfield 313, 3) := by decide +kernel
theorem dX2_wholeFare_8 : decode cX2_wholeFare 8 = .ok (.iadd, 1) := by decide +kernel
theorem dX2_wholeFare_9 : decode cX2_wholeFare 9 = .ok (.aload_n 0, 1) := by decide +kernel
theorem dX2_wholeFare_10 : decode cX2_wholeFare 10 = .ok (.getfield 316, 3) := by decide +kernel
theorem dX2_wholeFare_13 : decode cX2_wholeFare 13 = .ok (.iadd, 1) := by decide +kernel
theorem dX2_wholeFare_14 : decode cX2_wholeFare 14 = .ok (.aload_n 0, 1) := by decide +kernel
theorem dX2_wholeFare_15 : decode cX2_wholeFare 15 = .ok (.getfield 319, 3) := by decide +kernel
theorem dX2_wholeFare_18 : decode cX2_wholeFare 18 = .ok (.iadd, 1) := by decide +kernel
theorem dX2_wholeFare_19 : decode cX2_wholeFare 19 = .ok (.ireturn, 1) := by decide +kernel
set_option maxRecDepth 20000 in
theorem ggX2_ordersInState_Jx4a65c_size_8abf5 : GoodIn wsX2_ordersInState wsJx4a65c_size_8abf5 := goodIn_r _ [8, 9, 49, 50, 51] (by decide +kernel) (by decide +kernel)
set_option maxRecDepth 20000 in
theorem gX2_ordersInState_Jx4a65c_size_8abf5 : GoodIn wsX2_ordersInState (wsV RX2 59 RJx4a65c yJx4a65c_size_8abf5 wsJx4a65c_size_8abf5) := goodIn_app (goodIn_of _ (by decide +kernel)) ggX2_ordersInState_Jx4a65c_size_8abf5
set_option maxRecDepth 20000 in
theorem ggX2_ordersInState_Jx4a65c_get_915e3 : GoodIn wsX2_ordersInState wsJx4a65c_get_915e3 := goodIn_r _ [13, 9, 14, 15, 16, 17, 18, 19, 20, 21, 22, 23, 24, 7, 25, 26, 49, 50, 51] (by decide +kernel) (by decide +kernel)
set_option maxRecDepth 20000 in
theorem gX2_ordersInState_Jx4a65c_get_915e3 : GoodIn wsX2_ordersInState (wsV RX2 197 RJx4a65c yJx4a65c_get_915e3 wsJx4a65c_get_915e3) := goodIn_app (goodIn_of _ (by decide +kernel)) ggX2_ordersInState_Jx4a65c_get_915e3
theorem dX2_ordersInState_0 : decode cX2_ordersInState 0 = .ok (.iconst 0, 1) := by decide +kernel
theorem dX2_ordersInState_1 : decode cX2_ordersInState 1 = .ok (.istore_n 2, 1) := by decide +kernel
theorem dX2_ordersInState_2 : decode cX2_ordersInState 2 = .ok (.iconst 0, 1) := by decide +kernel
theorem dX2_ordersInState_3 : decode cX2_ordersInState 3 = .ok (.istore_n 3, 1) := by decide +kernel
theorem dX2_ordersInState_4 : decode cX2_ordersInState 4 = .ok (.iload_n 3, 1) := by decide +kernel
theorem dX2_ordersInState_5 : decode cX2_ordersInState 5 = .ok (.aload_n 0, 1) := by decide +kernel
theorem dX2_ordersInState_6 : decode cX2_ordersInState 6 = .ok (.getfield 20, 3) := by decide +kernel
theorem dX2_ordersInState_9 : decode cX2_ordersInState 9 = .ok (.invokevirtual 59, 3) := by decide +kernel
theorem dX2_ordersInState_12 : decode cX2_ordersInState 12 = .ok (.if_icmp .ge 30, 3) := by decide +kernel
theorem dX2_ordersInState_15 : decode cX2_ordersInState 15 = .ok (.aload_n 0, 1) := by decide +kernel
theorem dX2_ordersInState_16 : decode cX2_ordersInState 16 = .ok (.getfield 20, 3) := by decide +kernel
theorem dX2_ordersInState_19 : decode cX2_ordersInState 19 = .ok (.iload_n 3, 1) := by decide +kernel
theorem dX2_ordersInState_20 : decode cX2_ordersInState 20 = .ok (.invokevirtual 197, 3) := by decide +kernel
theorem dX2_ordersInState_23 : decode cX2_ordersInState 23 = .ok (.checkcast 127, 3) := by decide +kernel
theorem dX2_ordersInState_26 : decode cX2_ordersInState 26 = .ok (.getfield 152, 3) := by decide +kernel
theorem dX2_ordersInState_29 : decode cX2_ordersInState 29 = .ok (.iload_n 1, 1) := by decide +kernel
theorem dX2_ordersInState_30 : decode cX2_ordersInState 30 = .ok (.if_icmp .ne 6, 3) := by decide +kernel
theorem dX2_ordersInState_33 : decode cX2_ordersInState 33 = .ok (.iinc 2 1, 3) := by decide +kernel
theorem dX2_ordersInState_36 : decode cX2_ordersInState 36 = .ok (.iinc 3 1, 3) := by decide +kernel
theorem dX2_ordersInState_39 : decode cX2_ordersInState 39 = .ok (.goto (-35), 3) := by decide +kernel
theorem dX2_ordersInState_42 : decode cX2_ordersInState 42 = .ok (.iload_n 2, 1) := by decide +kernel
theorem dX2_ordersInState_43 : decode cX2_ordersInState 43 = .ok (.ireturn, 1) := by decide +kernel
theorem dX2_mix_0 : decode cX2_mix 0 = .ok (.lload_n 0, 1) := by decide +kernel
theorem dX2_mix_1 : decode cX2_mix 1 = .ok (.ldc2_w 334, 3) := by decide +kernel
theorem dX2_mix_4 : decode cX2_mix 4 = .ok (.lmul, 1) := by decide +kernel
theorem dX2_mix_5 : decode cX2_mix 5 = .ok (.lload_n 2, 1) := by decide +kernel
theorem dX2_mix_6 : decode cX2_mix 6 = .ok (.ladd, 1) := by decide +kernel
theorem dX2_mix_7 : decode cX2_mix 7 = .ok (.lreturn, 1) := by decide +kernel
set_option maxRecDepth 20000 in
theorem ggX2_mixCab_X2_cabDetail : GoodIn wsX2_mixCab wsX2_cabDetail := goodIn_r _ [7, 8, 9, 10, 11, 12, 13, 14, 15, 6, 16, 17, 18, 19, 20, 21, 22, 23, 24, 25, 26, 27, 28, 29, 30, 31, 32, 33, 34, 35, 36, 37, 38, 39, 40, 41, 42, 43, 44, 45, 50, 51, 52, 53, 54, 55, 56, 57, 58, 59, 60, 61, 62, 63, 64, 65, 66, 67, 68, 69, 70, 71, 72, 73, 74, 75, 76, 77, 78, 79, 80, 81, 82, 83] (by decide +kernel) (by decide +kernel)
set_option maxRecDepth 20000 in
theorem gX2_mixCab_X2_cabDetail : GoodIn wsX2_mixCab (wsV RX2 113 RX2 yX2_cabDetail wsX2_cabDetail) := goodIn_app (goodIn_of _ (by decide +kernel)) ggX2_mixCab_X2_cabDetail
set_option maxRecDepth 20000 in
theorem ggX2_mixCab_X2_mix : GoodIn wsX2_mixCab wsX2_mix := goodIn_r _ [48, 49] (by decide +kernel) (by decide +kernel)
set_option maxRecDepth 20000 in
theorem gX2_mixCab_X2_mix : GoodIn wsX2_mixCab (va_wsS RX2 216 yX2_mix wsX2_mix) := goodIn_app (goodIn_of _ (by decide +kernel)) ggX2_mixCab_X2_mix
theorem dX2_mixCab_0 : decode cX2_mixCab 0 = .ok (.lload_n 1, 1) := by decide +kernel
theorem dX2_mixCab_1 : decode cX2_mixCab 1 = .ok (.lstore 4, 2) := by decide +kernel
theorem dX2_mixCab_3 : decode cX2_mixCab 3 = .ok (.iconst 0, 1) := by decide +kernel
theorem dX2_mixCab_4 : decode cX2_mixCab 4 = .ok (.istore 6, 2) := by decide +kernel
theorem dX2_mixCab_6 : decode cX2_mixCab 6 = .ok (.iload 6, 2) := by decide +kernel
theorem dX2_mixCab_8 : decode cX2_mixCab 8 = .ok (.iconst 5, 1) := by decide +kernel
theorem dX2_mixCab_9 : decode cX2_mixCab 9 = .ok (.if_icmp .ge 24, 3) := by decide +kernel
theorem dX2_mixCab_12 : decode cX2_mixCab 12 = .ok (.lload 4, 2) := by decide +kernel
theorem dX2_mixCab_14 : decode cX2_mixCab 14 = .ok (.aload_n 0, 1) := by decide +kernel
theorem dX2_mixCab_15 : decode cX2_mixCab 15 = .ok (.aload_n 3, 1) := by decide +kernel
theorem dX2_mixCab_16 : decode cX2_mixCab 16 = .ok (.iload 6, 2) := by decide +kernel
theorem dX2_mixCab_18 : decode cX2_mixCab 18 = .ok (.invokevirtual 113, 3) := by decide +kernel
theorem dX2_mixCab_21 : decode cX2_mixCab 21 = .ok (.i2l, 1) := by decide +kernel
theorem dX2_mixCab_22 : decode cX2_mixCab 22 = .ok (.invokestatic 216, 3) := by decide +kernel
theorem dX2_mixCab_25 : decode cX2_mixCab 25 = .ok (.lstore 4, 2) := by decide +kernel
theorem dX2_mixCab_27 : decode cX2_mixCab 27 = .ok (.iinc 6 1, 3) := by decide +kernel
theorem dX2_mixCab_30 : decode cX2_mixCab 30 = .ok (.goto (-24), 3) := by decide +kernel
theorem dX2_mixCab_33 : decode cX2_mixCab 33 = .ok (.lload 4, 2) := by decide +kernel
theorem dX2_mixCab_35 : decode cX2_mixCab 35 = .ok (.aload_n 3, 1) := by decide +kernel
theorem dX2_mixCab_36 : decode cX2_mixCab 36 = .ok (.getfield 194, 3) := by decide +kernel
theorem dX2_mixCab_39 : decode cX2_mixCab 39 = .ok (.i2l, 1) := by decide +kernel
theorem dX2_mixCab_40 : decode cX2_mixCab 40 = .ok (.invokestatic 216, 3) := by decide +kernel
theorem dX2_mixCab_43 : decode cX2_mixCab 43 = .ok (.aload_n 3, 1) := by decide +kernel
theorem dX2_mixCab_44 : decode cX2_mixCab 44 = .ok (.getfield 193, 3) := by decide +kernel
theorem dX2_mixCab_47 : decode cX2_mixCab 47 = .ok (.i2l, 1) := by decide +kernel
theorem dX2_mixCab_48 : decode cX2_mixCab 48 = .ok (.invokestatic 216, 3) := by decide +kernel
theorem dX2_mixCab_51 : decode cX2_mixCab 51 = .ok (.lreturn, 1) := by decide +kernel
set_option maxRecDepth 20000 in
theorem ggX2_mixOrder_X2_orderDetail : GoodIn wsX2_mixOrder wsX2_orderDetail := goodIn_r _ [4, 5, 6, 7, 8, 9, 10, 11, 12, 13, 14, 15, 16, 17, 29, 30, 31, 32, 33, 34, 35, 36, 37, 38, 39, 40, 41, 42, 43, 44, 45, 46, 47, 48, 49, 50, 51, 52] (by decide +kernel) (by decide +kernel)
set_option maxRecDepth 20000 in
theorem gX2_mixOrder_X2_orderDetail : GoodIn wsX2_mixOrder (va_wsS RX2 166 yX2_orderDetail wsX2_orderDetail) := goodIn_app (goodIn_of _ (by decide +kernel)) ggX2_mixOrder_X2_orderDetail
set_option maxRecDepth 20000 in
theorem ggX2_mixOrder_X2_mix : GoodIn wsX2_mixOrder wsX2_mix := goodIn_r _ [20, 21] (by decide +kernel) (by decide +kernel)
set_option maxRecDepth 20000 in
theorem gX2_mixOrder_X2_mix : GoodIn wsX2_mixOrder (va_wsS RX2 216 yX2_mix wsX2_mix) := goodIn_app (goodIn_of _ (by decide +kernel)) ggX2_mixOrder_X2_mix
set_option maxRecDepth 20000 in
theorem ggX2_mixOrder_X2_wholeFare : GoodIn wsX2_mixOrder wsX2_wholeFare := goodIn_r _ [24, 25, 26, 27, 28, 29, 30, 31, 32, 33, 34, 35, 36, 37, 38, 39, 40, 41, 42, 43] (by decide +kernel) (by decide +kernel)
set_option maxRecDepth 20000 in
theorem gX2_mixOrder_X2_wholeFare : GoodIn wsX2_mixOrder (va_wsS RX2 322 yX2_wholeFare wsX2_wholeFare) := goodIn_app (goodIn_of _ (by decide +kernel)) ggX2_mixOrder_X2_wholeFare
theorem dX2_mixOrder_0 : decode cX2_mixOrder 0 = .ok (.lload_n 0, 1) := by decide +kernel
theorem dX2_mixOrder_1 : decode cX2_mixOrder 1 = .ok (.lstore_n 3, 1) := by decide +kernel
theorem dX2_mixOrder_2 : decode cX2_mixOrder 2 = .ok (.iconst 0, 1) := by decide +kernel
theorem dX2_mixOrder_3 : decode cX2_mixOrder 3 = .ok (.istore 5, 2) := by decide +kernel
theorem dX2_mixOrder_5 : decode cX2_mixOrder 5 = .ok (.iload 5, 2) := by decide +kernel
theorem dX2_mixOrder_7 : decode cX2_mixOrder 7 = .ok (.iconst 5, 1) := by decide +kernel
theorem dX2_mixOrder_8 : decode cX2_mixOrder 8 = .ok (.if_icmp .ge 21, 3) := by decide +kernel
theorem dX2_mixOrder_11 : decode cX2_mixOrder 11 = .ok (.lload_n 3, 1) := by decide +kernel
theorem dX2_mixOrder_12 : decode cX2_mixOrder 12 = .ok (.aload_n 2, 1) := by decide +kernel
theorem dX2_mixOrder_13 : decode cX2_mixOrder 13 = .ok (.iload 5, 2) := by decide +kernel
theorem dX2_mixOrder_15 : decode cX2_mixOrder 15 = .ok (.invokestatic 166, 3) := by decide +kernel
theorem dX2_mixOrder_18 : decode cX2_mixOrder 18 = .ok (.i2l, 1) := by decide +kernel
theorem dX2_mixOrder_19 : decode cX2_mixOrder 19 = .ok (.invokestatic 216, 3) := by decide +kernel
theorem dX2_mixOrder_22 : decode cX2_mixOrder 22 = .ok (.lstore_n 3, 1) := by decide +kernel
theorem dX2_mixOrder_23 : decode cX2_mixOrder 23 = .ok (.iinc 5 1, 3) := by decide +kernel
theorem dX2_mixOrder_26 : decode cX2_mixOrder 26 = .ok (.goto (-21), 3) := by decide +kernel
theorem dX2_mixOrder_29 : decode cX2_mixOrder 29 = .ok (.lload_n 3, 1) := by decide +kernel
theorem dX2_mixOrder_30 : decode cX2_mixOrder 30 = .ok (.aload_n 2, 1) := by decide +kernel
theorem dX2_mixOrder_31 : decode cX2_mixOrder 31 = .ok (.invokestatic 322, 3) := by decide +kernel
theorem dX2_mixOrder_34 : decode cX2_mixOrder 34 = .ok (.i2l, 1) := by decide +kernel
theorem dX2_mixOrder_35 : decode cX2_mixOrder 35 = .ok (.invokestatic 216, 3) := by decide +kernel
theorem dX2_mixOrder_38 : decode cX2_mixOrder 38 = .ok (.lreturn, 1) := by decide +kernel
set_option maxRecDepth 20000 in
theorem ggX2_mixQueue_Jx4a65c_size_8abf5 : GoodIn wsX2_mixQueue wsJx4a65c_size_8abf5 := goodIn_r _ [6, 7, 53, 54, 55] (by decide +kernel) (by decide +kernel)
set_option maxRecDepth 20000 in
theorem gX2_mixQueue_Jx4a65c_size_8abf5 : GoodIn wsX2_mixQueue (wsV RX2 59 RJx4a65c yJx4a65c_size_8abf5 wsJx4a65c_size_8abf5) := goodIn_app (goodIn_of _ (by decide +kernel)) ggX2_mixQueue_Jx4a65c_size_8abf5
set_option maxRecDepth 20000 in
theorem ggX2_mixQueue_X2_cabInQueue : GoodIn wsX2_mixQueue wsX2_cabInQueue := goodIn_r _ [12, 1, 13, 14, 2, 3, 4, 5, 6, 7, 15, 16, 17, 18, 19, 20, 21, 22, 23, 24, 25, 26, 27, 28, 29, 30, 31, 32, 33, 11, 34, 35, 36, 37, 38, 39, 40, 41, 46, 47, 48, 49, 50, 51, 52, 56, 57, 58, 59, 60, 61, 62, 63, 64, 53, 54, 55] (by decide +kernel) (by decide +kernel)
set_option maxRecDepth 20000 in
theorem gX2_mixQueue_X2_cabInQueue : GoodIn wsX2_mixQueue (wsV RX2 184 RX2 yX2_cabInQueue wsX2_cabInQueue) := goodIn_app (goodIn_of _ (by decide +kernel)) ggX2_mixQueue_X2_cabInQueue
set_option maxRecDepth 20000 in
theorem ggX2_mixQueue_X2_mix : GoodIn wsX2_mixQueue wsX2_mix := goodIn_r _ [44, 45] (by decide +kernel) (by decide +kernel)
set_option maxRecDepth 20000 in
theorem gX2_mixQueue_X2_mix : GoodIn wsX2_mixQueue (va_wsS RX2 216 yX2_mix wsX2_mix) := goodIn_app (goodIn_of _ (by decide +kernel)) ggX2_mixQueue_X2_mix
theorem dX2_mixQueue_0 : decode cX2_mixQueue 0 = .ok (.lload_n 1, 1) := by decide +kernel
theorem dX2_mixQueue_1 : decode cX2_mixQueue 1 = .ok (.lstore 4, 2) := by decide +kernel
theorem dX2_mixQueue_3 : decode cX2_mixQueue 3 = .ok (.iconst 0, 1) := by decide +kernel
theorem dX2_mixQueue_4 : decode cX2_mixQueue 4 = .ok (.istore 6, 2) := by decide +kernel
theorem dX2_mixQueue_6 : decode cX2_mixQueue 6 = .ok (.iload 6, 2) := by decide +kernel
theorem dX2_mixQueue_8 : decode cX2_mixQueue 8 = .ok (.aload_n 0, 1) := by decide +kernel
theorem dX2_mixQueue_9 : decode cX2_mixQueue 9 = .ok (.getfield 16, 3) := by decide +kernel
theorem dX2_mixQueue_12 : decode cX2_mixQueue 12 = .ok (.invokevirtual 59, 3) := by decide +kernel
theorem dX2_mixQueue_15 : decode cX2_mixQueue 15 = .ok (.if_icmp .ge 34, 3) := by decide +kernel
theorem dX2_mixQueue_18 : decode cX2_mixQueue 18 = .ok (.aload_n 0, 1) := by decide +kernel
theorem dX2_mixQueue_19 : decode cX2_mixQueue 19 = .ok (.iload_n 3, 1) := by decide +kernel
theorem dX2_mixQueue_20 : decode cX2_mixQueue 20 = .ok (.iload 6, 2) := by decide +kernel
theorem dX2_mixQueue_22 : decode cX2_mixQueue 22 = .ok (.invokevirtual 184, 3) := by decide +kernel
theorem dX2_mixQueue_25 : decode cX2_mixQueue 25 = .ok (.istore 7, 2) := by decide +kernel
theorem dX2_mixQueue_27 : decode cX2_mixQueue 27 = .ok (.iload 7, 2) := by decide +kernel
theorem dX2_mixQueue_29 : decode cX2_mixQueue 29 = .ok (.iconst (-1), 1) := by decide +kernel
theorem dX2_mixQueue_30 : decode cX2_mixQueue 30 = .ok (.if_icmp .eq 13, 3) := by decide +kernel
theorem dX2_mixQueue_33 : decode cX2_mixQueue 33 = .ok (.lload 4, 2) := by decide +kernel
theorem dX2_mixQueue_35 : decode cX2_mixQueue 35 = .ok (.iload 7, 2) := by decide +kernel
theorem dX2_mixQueue_37 : decode cX2_mixQueue 37 = .ok (.i2l, 1) := by decide +kernel
theorem dX2_mixQueue_38 : decode cX2_mixQueue 38 = .ok (.invokestatic 216, 3) := by decide +kernel
theorem dX2_mixQueue_41 : decode cX2_mixQueue 41 = .ok (.lstore 4, 2) := by decide +kernel
theorem dX2_mixQueue_43 : decode cX2_mixQueue 43 = .ok (.iinc 6 1, 3) := by decide +kernel
theorem dX2_mixQueue_46 : decode cX2_mixQueue 46 = .ok (.goto (-40), 3) := by decide +kernel
theorem dX2_mixQueue_49 : decode cX2_mixQueue 49 = .ok (.lload 4, 2) := by decide +kernel
theorem dX2_mixQueue_51 : decode cX2_mixQueue 51 = .ok (.lreturn, 1) := by decide +kernel
theorem dX3_init_0 : decode cX3_init 0 = .ok (.aload_n 0, 1) := by decide +kernel
theorem dX3_init_1 : decode cX3_init 1 = .ok (.invokespecial 1, 3) := by decide +kernel
theorem dX3_init_4 : decode cX3_init 4 = .ok (.aload_n 0, 1) := by decide +kernel
theorem dX3_init_5 : decode cX3_init 5 = .ok (.bipush 36, 2) := by decide +kernel
theorem dX3_init_7 : decode cX3_init 7 = .ok (.newarray .int, 2) := by decide +kernel
theorem dX3_init_9 : decode cX3_init 9 = .ok (.putfield 9, 3) := by decide +kernel
theorem dX3_init_12 : decode cX3_init 12 = .ok (.aload_n 0, 1) := by decide +kernel
theorem dX3_init_13 : decode cX3_init 13 = .ok (.iconst 4, 1) := by decide +kernel
theorem dX3_init_14 : decode cX3_init 14 = .ok (.putfield 13, 3) := by decide +kernel
theorem dX3_init_17 : decode cX3_init 17 = .ok (.aload_n 0, 1) := by decide +kernel
theorem dX3_init_18 : decode cX3_init 18 = .ok (.iconst 2, 1) := by decide +kernel
theorem dX3_init_19 : decode cX3_init 19 = .ok (.putfield 17, 3) := by decide +kernel
theorem dX3_init_22 : decode cX3_init 22 = .ok (.aload_n 0, 1) := by decide +kernel
theorem dX3_init_23 : decode cX3_init 23 = .ok (.bipush 10, 2) := by decide +kernel
theorem dX3_init_25 : decode cX3_init 25 = .ok (.newarray .int, 2) := by decide +kernel
theorem dX3_init_27 : decode cX3_init 27 = .ok (.putfield 20, 3) := by decide +kernel
theorem dX3_init_30 : decode cX3_init 30 = .ok (.aload_n 0, 1) := by decide +kernel
theorem dX3_init_31 : decode cX3_init 31 = .ok (.bipush 10, 2) := by decide +kernel
theorem dX3_init_33 : decode cX3_init 33 = .ok (.newarray .int, 2) := by decide +kernel
theorem dX3_init_35 : decode cX3_init 35 = .ok (.putfield 23, 3) := by decide +kernel
theorem dX3_init_38 : decode cX3_init 38 = .ok (.aload_n 0, 1) := by decide +kernel
theorem dX3_init_39 : decode cX3_init 39 = .ok (.bipush 10, 2) := by decide +kernel
theorem dX3_init_41 : decode cX3_init 41 = .ok (.newarray .int, 2) := by decide +kernel
theorem dX3_init_43 : decode cX3_init 43 = .ok (.putfield 26, 3) := by decide +kernel
theorem dX3_init_46 : decode cX3_init 46 = .ok (.aload_n 0, 1) := by decide +kernel
theorem dX3_init_47 : decode cX3_init 47 = .ok (.bipush 10, 2) := by decide +kernel
theorem dX3_init_49 : decode cX3_init 49 = .ok (.newarray .int, 2) := by decide +kernel
theorem dX3_init_51 : decode cX3_init 51 = .ok (.putfield 29, 3) := by decide +kernel
theorem dX3_init_54 : decode cX3_init 54 = .ok (.aload_n 0, 1) := by decide +kernel
theorem dX3_init_55 : decode cX3_init 55 = .ok (.bipush 10, 2) := by decide +kernel
theorem dX3_init_57 : decode cX3_init 57 = .ok (.newarray .int, 2) := by decide +kernel
theorem dX3_init_59 : decode cX3_init 59 = .ok (.putfield 32, 3) := by decide +kernel
theorem dX3_init_62 : decode cX3_init 62 = .ok (.aload_n 0, 1) := by decide +kernel
theorem dX3_init_63 : decode cX3_init 63 = .ok (.bipush 10, 2) := by decide +kernel
theorem dX3_init_65 : decode cX3_init 65 = .ok (.newarray .int, 2) := by decide +kernel
theorem dX3_init_67 : decode cX3_init 67 = .ok (.putfield 35, 3) := by decide +kernel
theorem dX3_init_70 : decode cX3_init 70 = .ok (.aload_n 0, 1) := by decide +kernel
theorem dX3_init_71 : decode cX3_init 71 = .ok (.bipush 10, 2) := by decide +kernel
theorem dX3_init_73 : decode cX3_init 73 = .ok (.newarray .int, 2) := by decide +kernel
theorem dX3_init_75 : decode cX3_init 75 = .ok (.putfield 38, 3) := by decide +kernel
theorem dX3_init_78 : decode cX3_init 78 = .ok (.aload_n 0, 1) := by decide +kernel
theorem dX3_init_79 : decode cX3_init 79 = .ok (.bipush 10, 2) := by decide +kernel
theorem dX3_init_81 : decode cX3_init 81 = .ok (.newarray .int, 2) := by decide +kernel
theorem dX3_init_83 : decode cX3_init 83 = .ok (.putfield 41, 3) := by decide +kernel
theorem dX3_init_86 : decode cX3_init 86 = .ok (.aload_n 0, 1) := by decide +kernel
theorem dX3_init_87 : decode cX3_init 87 = .ok (.sipush 480, 3) := by decide +kernel
theorem dX3_init_90 : decode cX3_init 90 = .ok (.newarray .int, 2) := by decide +kernel
theorem dX3_init_92 : decode cX3_init 92 = .ok (.putfield 44, 3) := by decide +kernel
theorem dX3_init_95 : decode cX3_init 95 = .ok (.aload_n 0, 1) := by decide +kernel
theorem dX3_init_96 : decode cX3_init 96 = .ok (.bipush 60, 2) := by decide +kernel
theorem dX3_init_98 : decode cX3_init 98 = .ok (.newarray .int, 2) := by decide +kernel
theorem dX3_init_100 : decode cX3_init 100 = .ok (.putfield 47, 3) := by decide +kernel
theorem dX3_init_103 : decode cX3_init 103 = .ok (.aload_n 0, 1) := by decide +kernel
theorem dX3_init_104 : decode cX3_init 104 = .ok (.sipush 240, 3) := by decide +kernel
theorem dX3_init_107 : decode cX3_init 107 = .ok (.newarray .int, 2) := by decide +kernel
theorem dX3_init_109 : decode cX3_init 109 = .ok (.putfield 50, 3) := by decide +kernel
theorem dX3_init_112 : decode cX3_init 112 = .ok (.iconst 0, 1) := by decide +kernel
theorem dX3_init_113 : decode cX3_init 113 = .ok (.istore_n 1, 1) := by decide +kernel
theorem dX3_init_114 : decode cX3_init 114 = .ok (.iload_n 1, 1) := by decide +kernel
theorem dX3_init_115 : decode cX3_init 115 = .ok (.aload_n 0, 1) := by decide +kernel
theorem dX3_init_116 : decode cX3_init 116 = .ok (.getfield 9, 3) := by decide +kernel
theorem dX3_init_119 : decode cX3_init 119 = .ok (.arraylength, 1) := by decide +kernel
theorem dX3_init_120 : decode cX3_init 120 = .ok (.if_icmp .ge 32, 3) := by decide +kernel
theorem dX3_init_123 : decode cX3_init 123 = .ok (.aload_n 0, 1) := by decide +kernel
theorem dX3_init_124 : decode cX3_init 124 = .ok (.getfield 9, 3) := by decide +kernel
theorem dX3_init_127 : decode cX3_init 127 = .ok (.iload_n 1, 1) := by decide +kernel
theorem dX3_init_128 : decode cX3_init 128 = .ok (.iload_n 1, 1) := by decide +kernel
theorem dX3_init_129 : decode cX3_init 129 = .ok (.bipush 6, 2) := by decide +kernel
theorem dX3_init_131 : decode cX3_init 131 = .ok (.idiv, 1) := by decide +kernel
theorem dX3_init_132 : decode cX3_init 132 = .ok (.iload_n 1, 1) := by decide +kernel
theorem dX3_init_133 : decode cX3_init 133 = .ok (.bipush 6, 2) := by decide +kernel
theorem dX3_init_135 : decode cX3_init 135 = .ok (.irem, 1) := by decide +kernel
theorem dX3_init_136 : decode cX3_init 136 = .ok (.if_icmp .ne 7, 3) := by decide +kernel
theorem dX3_init_139 : decode cX3_init 139 = .ok (.iconst 5, 1) := by decide +kernel
theorem dX3_init_140 : decode cX3_init 140 = .ok (.goto 5, 3) := by decide +kernel
theorem dX3_init_143 : decode cX3_init 143 = .ok (.bipush 10, 2) := by decide +kernel
theorem dX3_init_145 : decode cX3_init 145 = .ok (.iastore, 1) := by decide +kernel
theorem dX3_init_146 : decode cX3_init 146 = .ok (.iinc 1 1, 3) := by decide +kernel
theorem dX3_init_149 : decode cX3_init 149 = .ok (.goto (-35), 3) := by decide +kernel
theorem dX3_init_152 : decode cX3_init 152 = .ok (.iconst 0, 1) := by decide +kernel
theorem dX3_init_153 : decode cX3_init 153 = .ok (.istore_n 1, 1) := by decide +kernel
theorem dX3_init_154 : decode cX3_init 154 = .ok (.iload_n 1, 1) := by decide +kernel
theorem dX3_init_155 : decode cX3_init 155 = .ok (.bipush 10, 2) := by decide +kernel
theorem dX3_init_157 : decode cX3_init 157 = .ok (.if_icmp .ge 16, 3) := by decide +kernel
theorem dX3_init_160 : decode cX3_init 160 = .ok (.aload_n 0, 1) := by decide +kernel
theorem dX3_init_161 : decode cX3_init 161 = .ok (.getfield 29, 3) := by decide +kernel
theorem dX3_init_164 : decode cX3_init 164 = .ok (.iload_n 1, 1) := by decide +kernel
theorem dX3_init_165 : decode cX3_init 165 = .ok (.iconst (-1), 1) := by decide +kernel
theorem dX3_init_166 : decode cX3_init 166 = .ok (.iastore, 1) := by decide +kernel
theorem dX3_init_167 : decode cX3_init 167 = .ok (.iinc 1 1, 3) := by decide +kernel
theorem dX3_init_170 : decode cX3_init 170 = .ok (.goto (-16), 3) := by decide +kernel
theorem dX3_init_173 : decode cX3_init 173 = .ok (.return_, 1) := by decide +kernel
theorem dX3_thrown_0 : decode cX3_thrown 0 = .ok (.aload_n 0, 1) := by decide +kernel
theorem dX3_thrown_1 : decode cX3_thrown 1 = .ok (.getfield 53, 3) := by decide +kernel
theorem dX3_thrown_4 : decode cX3_thrown 4 = .ok (.ireturn, 1) := by decide +kernel
theorem dX3_fail_0 : decode cX3_fail 0 = .ok (.aload_n 0, 1) := by decide +kernel
theorem dX3_fail_1 : decode cX3_fail 1 = .ok (.iload_n 1, 1) := by decide +kernel
theorem dX3_fail_2 : decode cX3_fail 2 = .ok (.putfield 53, 3) := by decide +kernel
theorem dX3_fail_5 : decode cX3_fail 5 = .ok (.iconst 0, 1) := by decide +kernel
theorem dX3_fail_6 : decode cX3_fail 6 = .ok (.ireturn, 1) := by decide +kernel
theorem dX3_isIn_0 : decode cX3_isIn 0 = .ok (.iload_n 0, 1) := by decide +kernel
theorem dX3_isIn_1 : decode cX3_isIn 1 = .ok (.iload_n 1, 1) := by decide +kernel
theorem dX3_isIn_2 : decode cX3_isIn 2 = .ok (.if_icmp .lt 12, 3) := by decide +kernel
theorem dX3_isIn_5 : decode cX3_isIn 5 = .ok (.iload_n 0, 1) := by decide +kernel
theorem dX3_isIn_6 : decode cX3_isIn 6 = .ok (.iload_n 2, 1) := by decide +kernel
theorem dX3_isIn_7 : decode cX3_isIn 7 = .ok (.if_icmp .gt 7, 3) := by decide +kernel
theorem dX3_isIn_10 : decode cX3_isIn 10 = .ok (.iconst 1, 1) := by decide +kernel
theorem dX3_isIn_11 : decode cX3_isIn 11 = .ok (.goto 4, 3) := by decide +kernel
theorem dX3_isIn_14 : decode cX3_isIn 14 = .ok (.iconst 0, 1) := by decide +kernel
theorem dX3_isIn_15 : decode cX3_isIn 15 = .ok (.ireturn, 1) := by decide +kernel
set_option maxRecDepth 20000 in
theorem ggX3_isZone_X3_isIn : GoodIn wsX3_isZone wsX3_isIn := goodIn_r _ [4] (by decide +kernel) (by decide +kernel)
set_option maxRecDepth 20000 in
theorem gX3_isZone_X3_isIn : GoodIn wsX3_isZone (va_wsS RX3 56 yX3_isIn wsX3_isIn) := goodIn_app (goodIn_of _ (by decide +kernel)) ggX3_isZone_X3_isIn
theorem dX3_isZone_0 : decode cX3_isZone 0 = .ok (.iload_n 0, 1) := by decide +kernel
theorem dX3_isZone_1 : decode cX3_isZone 1 = .ok (.iconst 0, 1) := by decide +kernel
theorem dX3_isZone_2 : decode cX3_isZone 2 = .ok (.iconst 5, 1) := by decide +kernel
theorem dX3_isZone_3 : decode cX3_isZone 3 = .ok (.invokestatic 56, 3) := by decide +kernel
theorem dX3_isZone_6 : decode cX3_isZone 6 = .ok (.ireturn, 1) := by decide +kernel
set_option maxRecDepth 20000 in
theorem ggX3_isCab_X3_isIn : GoodIn wsX3_isCab wsX3_isIn := goodIn_r _ [5] (by decide +kernel) (by decide +kernel)
set_option maxRecDepth 20000 in
theorem gX3_isCab_X3_isIn : GoodIn wsX3_isCab (va_wsS RX3 56 yX3_isIn wsX3_isIn) := goodIn_app (goodIn_of _ (by decide +kernel)) ggX3_isCab_X3_isIn
theorem dX3_isCab_0 : decode cX3_isCab 0 = .ok (.iload_n 1, 1) := by decide +kernel
theorem dX3_isCab_1 : decode cX3_isCab 1 = .ok (.iconst 0, 1) := by decide +kernel
theorem dX3_isCab_2 : decode cX3_isCab 2 = .ok (.aload_n 0, 1) := by decide +kernel
theorem dX3_isCab_3 : decode cX3_isCab 3 = .ok (.getfield 60, 3) := by decide +kernel
theorem dX3_isCab_6 : decode cX3_isCab 6 = .ok (.iconst 1, 1) := by decide +kernel
theorem dX3_isCab_7 : decode cX3_isCab 7 = .ok (.isub, 1) := by decide +kernel
theorem dX3_isCab_8 : decode cX3_isCab 8 = .ok (.invokestatic 56, 3) := by decide +kernel
theorem dX3_isCab_11 : decode cX3_isCab 11 = .ok (.ireturn, 1) := by decide +kernel
set_option maxRecDepth 20000 in
theorem ggX3_isOrder_X3_isIn : GoodIn wsX3_isOrder wsX3_isIn := goodIn_r _ [5] (by decide +kernel) (by decide +kernel)
set_option maxRecDepth 20000 in
theorem gX3_isOrder_X3_isIn : GoodIn wsX3_isOrder (va_wsS RX3 56 yX3_isIn wsX3_isIn) := goodIn_app (goodIn_of _ (by decide +kernel)) ggX3_isOrder_X3_isIn
theorem dX3_isOrder_0 : decode cX3_isOrder 0 = .ok (.iload_n 1, 1) := by decide +kernel
theorem dX3_isOrder_1 : decode cX3_isOrder 1 = .ok (.iconst 0, 1) := by decide +kernel
theorem dX3_isOrder_2 : decode cX3_isOrder 2 = .ok (.aload_n 0, 1) := by decide +kernel
theorem dX3_isOrder_3 : decode cX3_isOrder 3 = .ok (.getfield 63, 3) := by decide +kernel
theorem dX3_isOrder_6 : decode cX3_isOrder 6 = .ok (.iconst 1, 1) := by decide +kernel
theorem dX3_isOrder_7 : decode cX3_isOrder 7 = .ok (.isub, 1) := by decide +kernel
theorem dX3_isOrder_8 : decode cX3_isOrder 8 = .ok (.invokestatic 56, 3) := by decide +kernel
theorem dX3_isOrder_11 : decode cX3_isOrder 11 = .ok (.ireturn, 1) := by decide +kernel
theorem dX3_way_0 : decode cX3_way 0 = .ok (.aload_n 0, 1) := by decide +kernel
theorem dX3_way_1 : decode cX3_way 1 = .ok (.getfield 9, 3) := by decide +kernel
theorem dX3_way_4 : decode cX3_way 4 = .ok (.bipush 6, 2) := by decide +kernel
theorem dX3_way_6 : decode cX3_way 6 = .ok (.iload_n 1, 1) := by decide +kernel
theorem dX3_way_7 : decode cX3_way 7 = .ok (.imul, 1) := by decide +kernel
theorem dX3_way_8 : decode cX3_way 8 = .ok (.iload_n 2, 1) := by decide +kernel
theorem dX3_way_9 : decode cX3_way 9 = .ok (.iadd, 1) := by decide +kernel
theorem dX3_way_10 : decode cX3_way 10 = .ok (.iaload, 1) := by decide +kernel
theorem dX3_way_11 : decode cX3_way 11 = .ok (.ireturn, 1) := by decide +kernel
theorem dX3_get_0 : decode cX3_get 0 = .ok (.aload_n 0, 1) := by decide +kernel
theorem dX3_get_1 : decode cX3_get 1 = .ok (.getfield 44, 3) := by decide +kernel
theorem dX3_get_4 : decode cX3_get 4 = .ok (.bipush 8, 2) := by decide +kernel
theorem dX3_get_6 : decode cX3_get 6 = .ok (.iload_n 1, 1) := by decide +kernel
theorem dX3_get_7 : decode cX3_get 7 = .ok (.imul, 1) := by decide +kernel
theorem dX3_get_8 : decode cX3_get 8 = .ok (.iload_n 2, 1) := by decide +kernel
theorem dX3_get_9 : decode cX3_get 9 = .ok (.iadd, 1) := by decide +kernel
theorem dX3_get_10 : decode cX3_get 10 = .ok (.iaload, 1) := by decide +kernel
theorem dX3_get_11 : decode cX3_get 11 = .ok (.ireturn, 1) := by decide +kernel
theorem dX3_state_0 : decode cX3_state 0 = .ok (.aload_n 0, 1) := by decide +kernel
theorem dX3_state_1 : decode cX3_state 1 = .ok (.getfield 44, 3) := by decide +kernel
theorem dX3_state_4 : decode cX3_state 4 = .ok (.bipush 8, 2) := by decide +kernel
theorem dX3_state_6 : decode cX3_state 6 = .ok (.iload_n 1, 1) := by decide +kernel
theorem dX3_state_7 : decode cX3_state 7 = .ok (.imul, 1) := by decide +kernel
theorem dX3_state_8 : decode cX3_state 8 = .ok (.iconst 4, 1) := by decide +kernel
theorem dX3_state_9 : decode cX3_state 9 = .ok (.iadd, 1) := by decide +kernel
theorem dX3_state_10 : decode cX3_state 10 = .ok (.iaload, 1) := by decide +kernel
theorem dX3_state_11 : decode cX3_state 11 = .ok (.ireturn, 1) := by decide +kernel
theorem dX3_set_0 : decode cX3_set 0 = .ok (.aload_n 0, 1) := by decide +kernel
theorem dX3_set_1 : decode cX3_set 1 = .ok (.getfield 44, 3) := by decide +kernel
theorem dX3_set_4 : decode cX3_set 4 = .ok (.bipush 8, 2) := by decide +kernel
theorem dX3_set_6 : decode cX3_set 6 = .ok (.iload_n 1, 1) := by decide +kernel
theorem dX3_set_7 : decode cX3_set 7 = .ok (.imul, 1) := by decide +kernel
theorem dX3_set_8 : decode cX3_set 8 = .ok (.iload_n 2, 1) := by decide +kernel
theorem dX3_set_9 : decode cX3_set 9 = .ok (.iadd, 1) := by decide +kernel
theorem dX3_set_10 : decode cX3_set 10 = .ok (.iload_n 3, 1) := by decide +kernel
theorem dX3_set_11 : decode cX3_set 11 = .ok (.iastore, 1) := by decide +kernel
theorem dX3_set_12 : decode cX3_set 12 = .ok (.return_, 1) := by decide +kernel
set_option maxRecDepth 20000 in
theorem ggX3_setWay_X3_isZone : GoodIn wsX3_setWay wsX3_isZone := goodIn_r _ [6, 7, 8, 5, 9] (by decide +kernel) (by decide +kernel)
set_option maxRecDepth 20000 in
theorem gX3_setWay_X3_isZone : GoodIn wsX3_setWay (va_wsS RX3 66 yX3_isZone wsX3_isZone) := goodIn_app (goodIn_of _ (by decide +kernel)) ggX3_setWay_X3_isZone
set_option maxRecDepth 20000 in
theorem ggX3_setWay_X3_fail : GoodIn wsX3_setWay wsX3_fail := goodIn_r _ [13, 1, 18, 19, 20, 21, 22, 23, 24, 25, 26, 27, 28, 29, 30, 31, 32, 33, 34, 35, 36] (by decide +kernel) (by decide +kernel)
set_option maxRecDepth 20000 in
theorem gX3_setWay_X3_fail : GoodIn wsX3_setWay (wsV RX3 70 RX3 yX3_fail wsX3_fail) := goodIn_app (goodIn_of _ (by decide +kernel)) ggX3_setWay_X3_fail
set_option maxRecDepth 20000 in
theorem ggX3_setWay_X3_isIn : GoodIn wsX3_setWay wsX3_isIn := goodIn_r _ [9] (by decide +kernel) (by decide +kernel)
set_option maxRecDepth 20000 in
theorem gX3_setWay_X3_isIn : GoodIn wsX3_setWay (va_wsS RX3 56 yX3_isIn wsX3_isIn) := goodIn_app (goodIn_of _ (by decide +kernel)) ggX3_setWay_X3_isIn
set_option maxRecDepth 20000 in
theorem ggX3_setWay_X3_way : GoodIn wsX3_setWay wsX3_way := goodIn_r _ [17, 2, 18, 19, 20, 21, 22, 23, 24, 25, 26, 27, 28, 29, 30, 31, 32, 33, 34, 35, 36] (by decide +kernel) (by decide +kernel)
set_option maxRecDepth 20000 in
theorem gX3_setWay_X3_way : GoodIn wsX3_setWay (wsV RX3 74 RX3 yX3_way wsX3_way) := goodIn_app (goodIn_of _ (by decide +kernel)) ggX3_setWay_X3_way
theorem dX3_setWay_0 : decode cX3_setWay 0 = .ok (.aload_n 0, 1) := by decide +kernel
theorem dX3_setWay_1 : decode cX3_setWay 1 = .ok (.iconst 0, 1) := by decide +kernel
theorem dX3_setWay_2 : decode cX3_setWay 2 = .ok (.putfield 53, 3) := by decide +kernel
theorem dX3_setWay_5 : decode cX3_setWay 5 = .ok (.iload_n 1, 1) := by decide +kernel
theorem dX3_setWay_6 : decode cX3_setWay 6 = .ok (.invokestatic 66, 3) := by decide +kernel
theorem dX3_setWay_9 : decode cX3_setWay 9 = .ok (.ifCond .eq 10, 3) := by decide +kernel
theorem dX3_setWay_12 : decode cX3_setWay 12 = .ok (.iload_n 2, 1) := by decide +kernel
theorem dX3_setWay_13 : decode cX3_setWay 13 = .ok (.invokestatic 66, 3) := by decide +kernel
theorem dX3_setWay_16 : decode cX3_setWay 16 = .ok (.ifCond .ne 9, 3) := by decide +kernel
theorem dX3_setWay_19 : decode cX3_setWay 19 = .ok (.aload_n 0, 1) := by decide +kernel
theorem dX3_setWay_20 : decode cX3_setWay 20 = .ok (.iconst 1, 1) := by decide +kernel
theorem dX3_setWay_21 : decode cX3_setWay 21 = .ok (.invokevirtual 70, 3) := by decide +kernel
theorem dX3_setWay_24 : decode cX3_setWay 24 = .ok (.ireturn, 1) := by decide +kernel
theorem dX3_setWay_25 : decode cX3_setWay 25 = .ok (.iload_n 1, 1) := by decide +kernel
theorem dX3_setWay_26 : decode cX3_setWay 26 = .ok (.iload_n 2, 1) := by decide +kernel
theorem dX3_setWay_27 : decode cX3_setWay 27 = .ok (.if_icmp .eq 13, 3) := by decide +kernel
theorem dX3_setWay_30 : decode cX3_setWay 30 = .ok (.iload_n 3, 1) := by decide +kernel
theorem dX3_setWay_31 : decode cX3_setWay 31 = .ok (.iconst 1, 1) := by decide +kernel
theorem dX3_setWay_32 : decode cX3_setWay 32 = .ok (.bipush 120, 2) := by decide +kernel
theorem dX3_setWay_34 : decode cX3_setWay 34 = .ok (.invokestatic 56, 3) := by decide +kernel
theorem dX3_setWay_37 : decode cX3_setWay 37 = .ok (.ifCond .ne 9, 3) := by decide +kernel
theorem dX3_setWay_40 : decode cX3_setWay 40 = .ok (.aload_n 0, 1) := by decide +kernel
theorem dX3_setWay_41 : decode cX3_setWay 41 = .ok (.iconst 2, 1) := by decide +kernel
theorem dX3_setWay_42 : decode cX3_setWay 42 = .ok (.invokevirtual 70, 3) := by decide +kernel
theorem dX3_setWay_45 : decode cX3_setWay 45 = .ok (.ireturn, 1) := by decide +kernel
theorem dX3_setWay_46 : decode cX3_setWay 46 = .ok (.aload_n 0, 1) := by decide +kernel
theorem dX3_setWay_47 : decode cX3_setWay 47 = .ok (.iload_n 1, 1) := by decide +kernel
theorem dX3_setWay_48 : decode cX3_setWay 48 = .ok (.iload_n 2, 1) := by decide +kernel
theorem dX3_setWay_49 : decode cX3_setWay 49 = .ok (.invokevirtual 74, 3) := by decide +kernel
theorem dX3_setWay_52 : decode cX3_setWay 52 = .ok (.istore 4, 2) := by decide +kernel
theorem dX3_setWay_54 : decode cX3_setWay 54 = .ok (.aload_n 0, 1) := by decide +kernel
theorem dX3_setWay_55 : decode cX3_setWay 55 = .ok (.getfield 9, 3) := by decide +kernel
theorem dX3_setWay_58 : decode cX3_setWay 58 = .ok (.bipush 6, 2) := by decide +kernel
theorem dX3_setWay_60 : decode cX3_setWay 60 = .ok (.iload_n 1, 1) := by decide +kernel
theorem dX3_setWay_61 : decode cX3_setWay 61 = .ok (.imul, 1) := by decide +kernel
theorem dX3_setWay_62 : decode cX3_setWay 62 = .ok (.iload_n 2, 1) := by decide +kernel
theorem dX3_setWay_63 : decode cX3_setWay 63 = .ok (.iadd, 1) := by decide +kernel
theorem dX3_setWay_64 : decode cX3_setWay 64 = .ok (.iload_n 3, 1) := by decide +kernel
theorem dX3_setWay_65 : decode cX3_setWay 65 = .ok (.iastore, 1) := by decide +kernel
theorem dX3_setWay_66 : decode cX3_setWay 66 = .ok (.aload_n 0, 1) := by decide +kernel
theorem dX3_setWay_67 : decode cX3_setWay 67 = .ok (.getfield 9, 3) := by decide +kernel
theorem dX3_setWay_70 : decode cX3_setWay 70 = .ok (.bipush 6, 2) := by decide +kernel
theorem dX3_setWay_72 : decode cX3_setWay 72 = .ok (.iload_n 2, 1) := by decide +kernel
theorem dX3_setWay_73 : decode cX3_setWay 73 = .ok (.imul, 1) := by decide +kernel
theorem dX3_setWay_74 : decode cX3_setWay 74 = .ok (.iload_n 1, 1) := by decide +kernel
theorem dX3_setWay_75 : decode cX3_setWay 75 = .ok (.iadd, 1) := by decide +kernel
theorem dX3_setWay_76 : decode cX3_setWay 76 = .ok (.iload_n 3, 1) := by decide +kernel
theorem dX3_setWay_77 : decode cX3_setWay 77 = .ok (.iastore, 1) := by decide +kernel
theorem dX3_setWay_78 : decode cX3_setWay 78 = .ok (.iload 4, 2) := by decide +kernel
theorem dX3_setWay_80 : decode cX3_setWay 80 = .ok (.ireturn, 1) := by decide +kernel
set_option maxRecDepth 20000 in
theorem ggX3_addCab_X3_isIn : GoodIn wsX3_addCab wsX3_isIn := goodIn_r _ [8] (by decide +kernel) (by decide +kernel)
set_option maxRecDepth 20000 in
theorem gX3_addCab_X3_isIn : GoodIn wsX3_addCab (va_wsS RX3 56 yX3_isIn wsX3_isIn) := goodIn_app (goodIn_of _ (by decide +kernel)) ggX3_addCab_X3_isIn
set_option maxRecDepth 20000 in
theorem ggX3_addCab_X3_isZone : GoodIn wsX3_addCab wsX3_isZone := goodIn_r _ [11, 5, 6, 7, 8] (by decide +kernel) (by decide +kernel)
set_option maxRecDepth 20000 in
theorem gX3_addCab_X3_isZone : GoodIn wsX3_addCab (va_wsS RX3 66 yX3_isZone wsX3_isZone) := goodIn_app (goodIn_of _ (by decide +kernel)) ggX3_addCab_X3_isZone
set_option maxRecDepth 20000 in
theorem ggX3_addCab_X3_fail : GoodIn wsX3_addCab wsX3_fail := goodIn_r _ [15, 1, 16, 17, 18, 19, 20, 21, 22, 23, 24, 25, 26, 27, 28, 29, 30, 31, 32, 33, 34] (by decide +kernel) (by decide +kernel)
set_option maxRecDepth 20000 in
theorem gX3_addCab_X3_fail : GoodIn wsX3_addCab (wsV RX3 70 RX3 yX3_fail wsX3_fail) := goodIn_app (goodIn_of _ (by decide +kernel)) ggX3_addCab_X3_fail
theorem dX3_addCab_0 : decode cX3_addCab 0 = .ok (.aload_n 0, 1) := by decide +kernel
theorem dX3_addCab_1 : decode cX3_addCab 1 = .ok (.iconst 0, 1) := by decide +kernel
theorem dX3_addCab_2 : decode cX3_addCab 2 = .ok (.putfield 53, 3) := by decide +kernel
theorem dX3_addCab_5 : decode cX3_addCab 5 = .ok (.iload_n 1, 1) := by decide +kernel
theorem dX3_addCab_6 : decode cX3_addCab 6 = .ok (.iconst 1, 1) := by decide +kernel
theorem dX3_addCab_7 : decode cX3_addCab 7 = .ok (.bipush 8, 2) := by decide +kernel
theorem dX3_addCab_9 : decode cX3_addCab 9 = .ok (.invokestatic 56, 3) := by decide +kernel
theorem dX3_addCab_12 : decode cX3_addCab 12 = .ok (.ifCond .eq 10, 3) := by decide +kernel
theorem dX3_addCab_15 : decode cX3_addCab 15 = .ok (.iload_n 2, 1) := by decide +kernel
theorem dX3_addCab_16 : decode cX3_addCab 16 = .ok (.invokestatic 66, 3) := by decide +kernel
theorem dX3_addCab_19 : decode cX3_addCab 19 = .ok (.ifCond .ne 9, 3) := by decide +kernel
theorem dX3_addCab_22 : decode cX3_addCab 22 = .ok (.aload_n 0, 1) := by decide +kernel
theorem dX3_addCab_23 : decode cX3_addCab 23 = .ok (.iconst 1, 1) := by decide +kernel
theorem dX3_addCab_24 : decode cX3_addCab 24 = .ok (.invokevirtual 70, 3) := by decide +kernel
theorem dX3_addCab_27 : decode cX3_addCab 27 = .ok (.ireturn, 1) := by decide +kernel
theorem dX3_addCab_28 : decode cX3_addCab 28 = .ok (.aload_n 0, 1) := by decide +kernel
theorem dX3_addCab_29 : decode cX3_addCab 29 = .ok (.getfield 60, 3) := by decide +kernel
theorem dX3_addCab_32 : decode cX3_addCab 32 = .ok (.bipush 10, 2) := by decide +kernel
theorem dX3_addCab_34 : decode cX3_addCab 34 = .ok (.if_icmp .ne 9, 3) := by decide +kernel
theorem dX3_addCab_37 : decode cX3_addCab 37 = .ok (.aload_n 0, 1) := by decide +kernel
theorem dX3_addCab_38 : decode cX3_addCab 38 = .ok (.iconst 2, 1) := by decide +kernel
theorem dX3_addCab_39 : decode cX3_addCab 39 = .ok (.invokevirtual 70, 3) := by decide +kernel
theorem dX3_addCab_42 : decode cX3_addCab 42 = .ok (.ireturn, 1) := by decide +kernel
theorem dX3_addCab_43 : decode cX3_addCab 43 = .ok (.aload_n 0, 1) := by decide +kernel
theorem dX3_addCab_44 : decode cX3_addCab 44 = .ok (.getfield 20, 3) := by decide +kernel
theorem dX3_addCab_47 : decode cX3_addCab 47 = .ok (.aload_n 0, 1) := by decide +kernel
theorem dX3_addCab_48 : decode cX3_addCab 48 = .ok (.getfield 60, 3) := by decide +kernel
theorem dX3_addCab_51 : decode cX3_addCab 51 = .ok (.iload_n 1, 1) := by decide +kernel
theorem dX3_addCab_52 : decode cX3_addCab 52 = .ok (.iastore, 1) := by decide +kernel
theorem dX3_addCab_53 : decode cX3_addCab 53 = .ok (.aload_n 0, 1) := by decide +kernel
theorem dX3_addCab_54 : decode cX3_addCab 54 = .ok (.getfield 23, 3) := by decide +kernel
theorem dX3_addCab_57 : decode cX3_addCab 57 = .ok (.aload_n 0, 1) := by decide +kernel
theorem dX3_addCab_58 : decode cX3_addCab 58 = .ok (.getfield 60, 3) := by decide +kernel
theorem dX3_addCab_61 : decode cX3_addCab 61 = .ok (.iload_n 2, 1) := by decide +kernel
theorem dX3_addCab_62 : decode cX3_addCab 62 = .ok (.iastore, 1) := by decide +kernel
theorem dX3_addCab_63 : decode cX3_addCab 63 = .ok (.aload_n 0, 1) := by decide +kernel
theorem dX3_addCab_64 : decode cX3_addCab 64 = .ok (.dup, 1) := by decide +kernel
theorem dX3_addCab_65 : decode cX3_addCab 65 = .ok (.getfield 60, 3) := by decide +kernel
theorem dX3_addCab_68 : decode cX3_addCab 68 = .ok (.iconst 1, 1) := by decide +kernel
theorem dX3_addCab_69 : decode cX3_addCab 69 = .ok (.iadd, 1) := by decide +kernel
theorem dX3_addCab_70 : decode cX3_addCab 70 = .ok (.putfield 60, 3) := by decide +kernel
theorem dX3_addCab_73 : decode cX3_addCab 73 = .ok (.aload_n 0, 1) := by decide +kernel
theorem dX3_addCab_74 : decode cX3_addCab 74 = .ok (.getfield 60, 3) := by decide +kernel
theorem dX3_addCab_77 : decode cX3_addCab 77 = .ok (.iconst 1, 1) := by decide +kernel
theorem dX3_addCab_78 : decode cX3_addCab 78 = .ok (.isub, 1) := by decide +kernel
theorem dX3_addCab_79 : decode cX3_addCab 79 = .ok (.ireturn, 1) := by decide +kernel
theorem dX3_queueUp_0 : decode cX3_queueUp 0 = .ok (.aload_n 0, 1) := by decide +kernel
theorem dX3_queueUp_1 : decode cX3_queueUp 1 = .ok (.dup, 1) := by decide +kernel
theorem dX3_queueUp_2 : decode cX3_queueUp 2 = .ok (.getfield 78, 3) := by decide +kernel
theorem dX3_queueUp_5 : decode cX3_queueUp 5 = .ok (.iconst 1, 1) := by decide +kernel
theorem dX3_queueUp_6 : decode cX3_queueUp 6 = .ok (.iadd, 1) := by decide +kernel
theorem dX3_queueUp_7 : decode cX3_queueUp 7 = .ok (.putfield 78, 3) := by decide +kernel
theorem dX3_queueUp_10 : decode cX3_queueUp 10 = .ok (.aload_n 0, 1) := by decide +kernel
theorem dX3_queueUp_11 : decode cX3_queueUp 11 = .ok (.getfield 35, 3) := by decide +kernel
theorem dX3_queueUp_14 : decode cX3_queueUp 14 = .ok (.iload_n 1, 1) := by decide +kernel
theorem dX3_queueUp_15 : decode cX3_queueUp 15 = .ok (.aload_n 0, 1) := by decide +kernel
theorem dX3_queueUp_16 : decode cX3_queueUp 16 = .ok (.getfield 78, 3) := by decide +kernel
theorem dX3_queueUp_19 : decode cX3_queueUp 19 = .ok (.iastore, 1) := by decide +kernel
theorem dX3_queueUp_20 : decode cX3_queueUp 20 = .ok (.return_, 1) := by decide +kernel
set_option maxRecDepth 20000 in
theorem ggX3_free_X3_queueUp : GoodIn wsX3_free wsX3_queueUp := goodIn_r _ [8, 9, 10, 11, 12, 13, 14, 15, 16, 17, 18, 19, 20, 21, 22, 23, 24, 25, 26, 27, 28, 29] (by decide +kernel) (by decide +kernel)
set_option maxRecDepth 20000 in
theorem gX3_free_X3_queueUp : GoodIn wsX3_free (wsV RX3 81 RX3 yX3_queueUp wsX3_queueUp) := goodIn_app (goodIn_of _ (by decide +kernel)) ggX3_free_X3_queueUp
theorem dX3_free_0 : decode cX3_free 0 = .ok (.aload_n 0, 1) := by decide +kernel
theorem dX3_free_1 : decode cX3_free 1 = .ok (.getfield 26, 3) := by decide +kernel
theorem dX3_free_4 : decode cX3_free 4 = .ok (.iload_n 1, 1) := by decide +kernel
theorem dX3_free_5 : decode cX3_free 5 = .ok (.iconst 1, 1) := by decide +kernel
theorem dX3_free_6 : decode cX3_free 6 = .ok (.iastore, 1) := by decide +kernel
theorem dX3_free_7 : decode cX3_free 7 = .ok (.aload_n 0, 1) := by decide +kernel
theorem dX3_free_8 : decode cX3_free 8 = .ok (.getfield 23, 3) := by decide +kernel
theorem dX3_free_11 : decode cX3_free 11 = .ok (.iload_n 1, 1) := by decide +kernel
theorem dX3_free_12 : decode cX3_free 12 = .ok (.iload_n 2, 1) := by decide +kernel
theorem dX3_free_13 : decode cX3_free 13 = .ok (.iastore, 1) := by decide +kernel
theorem dX3_free_14 : decode cX3_free 14 = .ok (.aload_n 0, 1) := by decide +kernel
theorem dX3_free_15 : decode cX3_free 15 = .ok (.getfield 29, 3) := by decide +kernel
theorem dX3_free_18 : decode cX3_free 18 = .ok (.iload_n 1, 1) := by decide +kernel
theorem dX3_free_19 : decode cX3_free 19 = .ok (.iconst (-1), 1) := by decide +kernel
theorem dX3_free_20 : decode cX3_free 20 = .ok (.iastore, 1) := by decide +kernel
theorem dX3_free_21 : decode cX3_free 21 = .ok (.aload_n 0, 1) := by decide +kernel
theorem dX3_free_22 : decode cX3_free 22 = .ok (.iload_n 1, 1) := by decide +kernel
theorem dX3_free_23 : decode cX3_free 23 = .ok (.invokevirtual 81, 3) := by decide +kernel
theorem dX3_free_26 : decode cX3_free 26 = .ok (.return_, 1) := by decide +kernel
theorem dX3_placeOf_0 : decode cX3_placeOf 0 = .ok (.aload_n 0, 1) := by decide +kernel
theorem dX3_placeOf_1 : decode cX3_placeOf 1 = .ok (.getfield 26, 3) := by decide +kernel
theorem dX3_placeOf_4 : decode cX3_placeOf 4 = .ok (.iload_n 1, 1) := by decide +kernel
theorem dX3_placeOf_5 : decode cX3_placeOf 5 = .ok (.iaload, 1) := by decide +kernel
theorem dX3_placeOf_6 : decode cX3_placeOf 6 = .ok (.iconst 1, 1) := by decide +kernel
theorem dX3_placeOf_7 : decode cX3_placeOf 7 = .ok (.if_icmp .eq 5, 3) := by decide +kernel
theorem dX3_placeOf_10 : decode cX3_placeOf 10 = .ok (.iconst (-1), 1) := by decide +kernel
theorem dX3_placeOf_11 : decode cX3_placeOf 11 = .ok (.ireturn, 1) := by decide +kernel
theorem dX3_placeOf_12 : decode cX3_placeOf 12 = .ok (.iconst 0, 1) := by decide +kernel
theorem dX3_placeOf_13 : decode cX3_placeOf 13 = .ok (.istore_n 2, 1) := by decide +kernel
theorem dX3_placeOf_14 : decode cX3_placeOf 14 = .ok (.iconst 0, 1) := by decide +kernel
theorem dX3_placeOf_15 : decode cX3_placeOf 15 = .ok (.istore_n 3, 1) := by decide +kernel
theorem dX3_placeOf_16 : decode cX3_placeOf 16 = .ok (.iload_n 3, 1) := by decide +kernel
theorem dX3_placeOf_17 : decode cX3_placeOf 17 = .ok (.aload_n 0, 1) := by decide +kernel
theorem dX3_placeOf_18 : decode cX3_placeOf 18 = .ok (.getfield 60, 3) := by decide +kernel
theorem dX3_placeOf_21 : decode cX3_placeOf 21 = .ok (.if_icmp .ge 57, 3) := by decide +kernel
theorem dX3_placeOf_24 : decode cX3_placeOf 24 = .ok (.iload_n 2, 1) := by decide +kernel
theorem dX3_placeOf_25 : decode cX3_placeOf 25 = .ok (.aload_n 0, 1) := by decide +kernel
theorem dX3_placeOf_26 : decode cX3_placeOf 26 = .ok (.getfield 26, 3) := by decide +kernel
theorem dX3_placeOf_29 : decode cX3_placeOf 29 = .ok (.iload_n 3, 1) := by decide +kernel
theorem dX3_placeOf_30 : decode cX3_placeOf 30 = .ok (.iaload, 1) := by decide +kernel
theorem dX3_placeOf_31 : decode cX3_placeOf 31 = .ok (.iconst 1, 1) := by decide +kernel
theorem dX3_placeOf_32 : decode cX3_placeOf 32 = .ok (.if_icmp .ne 37, 3) := by decide +kernel
theorem dX3_placeOf_35 : decode cX3_placeOf 35 = .ok (.aload_n 0, 1) := by decide +kernel
theorem dX3_placeOf_36 : decode cX3_placeOf 36 = .ok (.getfield 23, 3) := by decide +kernel
theorem dX3_placeOf_39 : decode cX3_placeOf 39 = .ok (.iload_n 3, 1) := by decide +kernel
theorem dX3_placeOf_40 : decode cX3_placeOf 40 = .ok (.iaload, 1) := by decide +kernel
theorem dX3_placeOf_41 : decode cX3_placeOf 41 = .ok (.aload_n 0, 1) := by decide +kernel
theorem dX3_placeOf_42 : decode cX3_placeOf 42 = .ok (.getfield 23, 3) := by decide +kernel
theorem dX3_placeOf_45 : decode cX3_placeOf 45 = .ok (.iload_n 1, 1) := by decide +kernel
theorem dX3_placeOf_46 : decode cX3_placeOf 46 = .ok (.iaload, 1) := by decide +kernel
theorem dX3_placeOf_47 : decode cX3_placeOf 47 = .ok (.if_icmp .ne 22, 3) := by decide +kernel
theorem dX3_placeOf_50 : decode cX3_placeOf 50 = .ok (.aload_n 0, 1) := by decide +kernel
theorem dX3_placeOf_51 : decode cX3_placeOf 51 = .ok (.getfield 35, 3) := by decide +kernel
theorem dX3_placeOf_54 : decode cX3_placeOf 54 = .ok (.iload_n 3, 1) := by decide +kernel
theorem dX3_placeOf_55 : decode cX3_placeOf 55 = .ok (.iaload, 1) := by decide +kernel
theorem dX3_placeOf_56 : decode cX3_placeOf 56 = .ok (.aload_n 0, 1) := by decide +kernel
theorem dX3_placeOf_57 : decode cX3_placeOf 57 = .ok (.getfield 35, 3) := by decide +kernel
theorem dX3_placeOf_60 : decode cX3_placeOf 60 = .ok (.iload_n 1, 1) := by decide +kernel
theorem dX3_placeOf_61 : decode cX3_placeOf 61 = .ok (.iaload, 1) := by decide +kernel
theorem dX3_placeOf_62 : decode cX3_placeOf 62 = .ok (.if_icmp .ge 7, 3) := by decide +kernel
theorem dX3_placeOf_65 : decode cX3_placeOf 65 = .ok (.iconst 1, 1) := by decide +kernel
theorem dX3_placeOf_66 : decode cX3_placeOf 66 = .ok (.goto 4, 3) := by decide +kernel
theorem dX3_placeOf_69 : decode cX3_placeOf 69 = .ok (.iconst 0, 1) := by decide +kernel
theorem dX3_placeOf_70 : decode cX3_placeOf 70 = .ok (.iadd, 1) := by decide +kernel
theorem dX3_placeOf_71 : decode cX3_placeOf 71 = .ok (.istore_n 2, 1) := by decide +kernel
theorem dX3_placeOf_72 : decode cX3_placeOf 72 = .ok (.iinc 3 1, 3) := by decide +kernel
theorem dX3_placeOf_75 : decode cX3_placeOf 75 = .ok (.goto (-59), 3) := by decide +kernel
theorem dX3_placeOf_78 : decode cX3_placeOf 78 = .ok (.iload_n 2, 1) := by decide +kernel
theorem dX3_placeOf_79 : decode cX3_placeOf 79 = .ok (.ireturn, 1) := by decide +kernel
set_option maxRecDepth 20000 in
theorem ggX3_start_X3_isCab : GoodIn wsX3_start wsX3_isCab := goodIn_r _ [8, 9, 10, 11, 7, 12, 71, 72, 73, 74, 75, 76, 77, 78, 79, 80, 81, 82, 83, 84, 85, 86, 87, 88, 89] (by decide +kernel) (by decide +kernel)
set_option maxRecDepth 20000 in
theorem gX3_start_X3_isCab : GoodIn wsX3_start (wsV RX3 85 RX3 yX3_isCab wsX3_isCab) := goodIn_app (goodIn_of _ (by decide +kernel)) ggX3_start_X3_isCab
set_option maxRecDepth 20000 in
theorem ggX3_start_X3_fail : GoodIn wsX3_start wsX3_fail := goodIn_r _ [16, 1, 71, 72, 73, 74, 75, 76, 77, 78, 79, 80, 81, 82, 83, 84, 85, 86, 87, 88, 89] (by decide +kernel) (by decide +kernel)
set_option maxRecDepth 20000 in
theorem gX3_start_X3_fail : GoodIn wsX3_start (wsV RX3 70 RX3 yX3_fail wsX3_fail) := goodIn_app (goodIn_of _ (by decide +kernel)) ggX3_start_X3_fail
set_option maxRecDepth 20000 in
theorem ggX3_start_X3_free : GoodIn wsX3_start wsX3_free := goodIn_r _ [20, 2, 3, 21, 22, 23, 24, 7, 25, 26, 27, 71, 72, 73, 74, 75, 76, 77, 78, 79, 80, 81, 82, 83, 84, 85, 86, 87, 88, 89] (by decide +kernel) (by decide +kernel)
set_option maxRecDepth 20000 in
theorem gX3_start_X3_free : GoodIn wsX3_start (wsV RX3 88 RX3 yX3_free wsX3_free) := goodIn_app (goodIn_of _ (by decide +kernel)) ggX3_start_X3_free
set_option maxRecDepth 20000 in
theorem ggX3_start_X3_placeOf : GoodIn wsX3_start wsX3_placeOf := goodIn_r _ [31, 2, 9, 3, 27, 71, 72, 73, 74, 75, 76, 77, 78, 79, 80, 81, 82, 83, 84, 85, 86, 87, 88, 89] (by decide +kernel) (by decide +kernel)
set_option maxRecDepth 20000 in
theorem gX3_start_X3_placeOf : GoodIn wsX3_start (wsV RX3 92 RX3 yX3_placeOf wsX3_placeOf) := goodIn_app (goodIn_of _ (by decide +kernel)) ggX3_start_X3_placeOf
set_option maxRecDepth 20000 in
theorem ggX3_start_X3_offerAll : GoodIn wsX3_start wsX3_offerAll := goodIn_r _ [35, 36, 37, 21, 38, 39, 40, 41, 7, 42, 43, 44, 45, 46, 47, 48, 49, 50, 51, 9, 52, 53, 54, 55, 2, 56, 57, 58, 59, 60, 61, 3, 27, 62, 63, 64, 65, 66, 67, 68, 69, 70, 71, 72, 73, 74, 75, 76, 77, 78, 79, 80, 81, 82, 83, 84, 85, 86, 87, 88, 89] (by decide +kernel) (by decide +kernel)
set_option maxRecDepth 20000 in
theorem gX3_start_X3_offerAll : GoodIn wsX3_start (wsV RX3 95 RX3 yX3_offerAll wsX3_offerAll) := goodIn_app (goodIn_of _ (by decide +kernel)) ggX3_start_X3_offerAll
theorem dX3_start_0 : decode cX3_start 0 = .ok (.aload_n 0, 1) := by decide +kernel
theorem dX3_start_1 : decode cX3_start 1 = .ok (.iconst 0, 1) := by decide +kernel
theorem dX3_start_2 : decode cX3_start 2 = .ok (.putfield 53, 3) := by decide +kernel
theorem dX3_start_5 : decode cX3_start 5 = .ok (.aload_n 0, 1) := by decide +kernel
theorem dX3_start_6 : decode cX3_start 6 = .ok (.iload_n 1, 1) := by decide +kernel
theorem dX3_start_7 : decode cX3_start 7 = .ok (.invokevirtual 85, 3) := by decide +kernel
theorem dX3_start_10 : decode cX3_start 10 = .ok (.ifCond .ne 9, 3) := by decide +kernel
theorem dX3_start_13 : decode cX3_start 13 = .ok (.aload_n 0, 1) := by decide +kernel
theorem dX3_start_14 : decode cX3_start 14 = .ok (.iconst 1, 1) := by decide +kernel
theorem dX3_start_15 : decode cX3_start 15 = .ok (.invokevirtual 70, 3) := by decide +kernel
theorem dX3_start_18 : decode cX3_start 18 = .ok (.ireturn, 1) := by decide +kernel
theorem dX3_start_19 : decode cX3_start 19 = .ok (.aload_n 0, 1) := by decide +kernel
theorem dX3_start_20 : decode cX3_start 20 = .ok (.getfield 26, 3) := by decide +kernel
theorem dX3_start_23 : decode cX3_start 23 = .ok (.iload_n 1, 1) := by decide +kernel
theorem dX3_start_24 : decode cX3_start 24 = .ok (.iaload, 1) := by decide +kernel
theorem dX3_start_25 : decode cX3_start 25 = .ok (.ifCond .eq 9, 3) := by decide +kernel
theorem dX3_start_28 : decode cX3_start 28 = .ok (.aload_n 0, 1) := by decide +kernel
theorem dX3_start_29 : decode cX3_start 29 = .ok (.iconst 2, 1) := by decide +kernel
theorem dX3_start_30 : decode cX3_start 30 = .ok (.invokevirtual 70, 3) := by decide +kernel
theorem dX3_start_33 : decode cX3_start 33 = .ok (.ireturn, 1) := by decide +kernel
theorem dX3_start_34 : decode cX3_start 34 = .ok (.aload_n 0, 1) := by decide +kernel
theorem dX3_start_35 : decode cX3_start 35 = .ok (.iload_n 1, 1) := by decide +kernel
theorem dX3_start_36 : decode cX3_start 36 = .ok (.aload_n 0, 1) := by decide +kernel
theorem dX3_start_37 : decode cX3_start 37 = .ok (.getfield 23, 3) := by decide +kernel
theorem dX3_start_40 : decode cX3_start 40 = .ok (.iload_n 1, 1) := by decide +kernel
theorem dX3_start_41 : decode cX3_start 41 = .ok (.iaload, 1) := by decide +kernel
theorem dX3_start_42 : decode cX3_start 42 = .ok (.invokevirtual 88, 3) := by decide +kernel
theorem dX3_start_45 : decode cX3_start 45 = .ok (.aload_n 0, 1) := by decide +kernel
theorem dX3_start_46 : decode cX3_start 46 = .ok (.iload_n 1, 1) := by decide +kernel
theorem dX3_start_47 : decode cX3_start 47 = .ok (.invokevirtual 92, 3) := by decide +kernel
theorem dX3_start_50 : decode cX3_start 50 = .ok (.istore_n 2, 1) := by decide +kernel
theorem dX3_start_51 : decode cX3_start 51 = .ok (.aload_n 0, 1) := by decide +kernel
theorem dX3_start_52 : decode cX3_start 52 = .ok (.invokevirtual 95, 3) := by decide +kernel
theorem dX3_start_55 : decode cX3_start 55 = .ok (.iload_n 2, 1) := by decide +kernel
theorem dX3_start_56 : decode cX3_start 56 = .ok (.ireturn, 1) := by decide +kernel
set_option maxRecDepth 20000 in
theorem ggX3_refused_X3_set : GoodIn wsX3_refused wsX3_set := goodIn_r _ [7, 8, 9, 10, 11, 12, 13, 14, 15, 16, 17, 18, 19, 20, 21, 22, 23, 24, 25, 26, 27] (by decide +kernel) (by decide +kernel)
set_option maxRecDepth 20000 in
theorem gX3_refused_X3_set : GoodIn wsX3_refused (wsV RX3 98 RX3 yX3_set wsX3_set) := goodIn_app (goodIn_of _ (by decide +kernel)) ggX3_refused_X3_set
theorem dX3_refused_0 : decode cX3_refused 0 = .ok (.aload_n 0, 1) := by decide +kernel
theorem dX3_refused_1 : decode cX3_refused 1 = .ok (.getfield 29, 3) := by decide +kernel
theorem dX3_refused_4 : decode cX3_refused 4 = .ok (.iload_n 1, 1) := by decide +kernel
theorem dX3_refused_5 : decode cX3_refused 5 = .ok (.iaload, 1) := by decide +kernel
theorem dX3_refused_6 : decode cX3_refused 6 = .ok (.istore_n 2, 1) := by decide +kernel
theorem dX3_refused_7 : decode cX3_refused 7 = .ok (.iload_n 2, 1) := by decide +kernel
theorem dX3_refused_8 : decode cX3_refused 8 = .ok (.iconst (-1), 1) := by decide +kernel
theorem dX3_refused_9 : decode cX3_refused 9 = .ok (.if_icmp .ne 4, 3) := by decide +kernel
theorem dX3_refused_12 : decode cX3_refused 12 = .ok (.return_, 1) := by decide +kernel
theorem dX3_refused_13 : decode cX3_refused 13 = .ok (.aload_n 0, 1) := by decide +kernel
theorem dX3_refused_14 : decode cX3_refused 14 = .ok (.getfield 47, 3) := by decide +kernel
theorem dX3_refused_17 : decode cX3_refused 17 = .ok (.iload_n 2, 1) := by decide +kernel
theorem dX3_refused_18 : decode cX3_refused 18 = .ok (.dup2, 1) := by decide +kernel
theorem dX3_refused_19 : decode cX3_refused 19 = .ok (.iaload, 1) := by decide +kernel
theorem dX3_refused_20 : decode cX3_refused 20 = .ok (.iconst 1, 1) := by decide +kernel
theorem dX3_refused_21 : decode cX3_refused 21 = .ok (.iload_n 1, 1) := by decide +kernel
theorem dX3_refused_22 : decode cX3_refused 22 = .ok (.ishl, 1) := by decide +kernel
theorem dX3_refused_23 : decode cX3_refused 23 = .ok (.ior, 1) := by decide +kernel
theorem dX3_refused_24 : decode cX3_refused 24 = .ok (.iastore, 1) := by decide +kernel
theorem dX3_refused_25 : decode cX3_refused 25 = .ok (.aload_n 0, 1) := by decide +kernel
theorem dX3_refused_26 : decode cX3_refused 26 = .ok (.iload_n 2, 1) := by decide +kernel
theorem dX3_refused_27 : decode cX3_refused 27 = .ok (.iconst 4, 1) := by decide +kernel
theorem dX3_refused_28 : decode cX3_refused 28 = .ok (.iconst 0, 1) := by decide +kernel
theorem dX3_refused_29 : decode cX3_refused 29 = .ok (.invokevirtual 98, 3) := by decide +kernel
theorem dX3_refused_32 : decode cX3_refused 32 = .ok (.aload_n 0, 1) := by decide +kernel
theorem dX3_refused_33 : decode cX3_refused 33 = .ok (.iload_n 2, 1) := by decide +kernel
theorem dX3_refused_34 : decode cX3_refused 34 = .ok (.iconst 5, 1) := by decide +kernel
theorem dX3_refused_35 : decode cX3_refused 35 = .ok (.iconst (-1), 1) := by decide +kernel
theorem dX3_refused_36 : decode cX3_refused 36 = .ok (.invokevirtual 98, 3) := by decide +kernel
theorem dX3_refused_39 : decode cX3_refused 39 = .ok (.aload_n 0, 1) := by decide +kernel
theorem dX3_refused_40 : decode cX3_refused 40 = .ok (.getfield 29, 3) := by decide +kernel
theorem dX3_refused_43 : decode cX3_refused 43 = .ok (.iload_n 1, 1) := by decide +kernel
theorem dX3_refused_44 : decode cX3_refused 44 = .ok (.iconst (-1), 1) := by decide +kernel
theorem dX3_refused_45 : decode cX3_refused 45 = .ok (.iastore, 1) := by decide +kernel
theorem dX3_refused_46 : decode cX3_refused 46 = .ok (.return_, 1) := by decide +kernel
set_option maxRecDepth 20000 in
theorem ggX3_stop_X3_isCab : GoodIn wsX3_stop wsX3_isCab := goodIn_r _ [8, 9, 10, 11, 7, 12, 62, 63, 64, 65, 66, 67, 68, 69, 70, 71, 72, 73, 74, 75, 76, 77, 78, 79, 80] (by decide +kernel) (by decide +kernel)
set_option maxRecDepth 20000 in
theorem gX3_stop_X3_isCab : GoodIn wsX3_stop (wsV RX3 85 RX3 yX3_isCab wsX3_isCab) := goodIn_app (goodIn_of _ (by decide +kernel)) ggX3_stop_X3_isCab
set_option maxRecDepth 20000 in
theorem ggX3_stop_X3_fail : GoodIn wsX3_stop wsX3_fail := goodIn_r _ [16, 1, 62, 63, 64, 65, 66, 67, 68, 69, 70, 71, 72, 73, 74, 75, 76, 77, 78, 79, 80] (by decide +kernel) (by decide +kernel)
set_option maxRecDepth 20000 in
theorem gX3_stop_X3_fail : GoodIn wsX3_stop (wsV RX3 70 RX3 yX3_fail wsX3_fail) := goodIn_app (goodIn_of _ (by decide +kernel)) ggX3_stop_X3_fail
set_option maxRecDepth 20000 in
theorem ggX3_stop_X3_refused : GoodIn wsX3_stop wsX3_refused := goodIn_r _ [20, 21, 22, 23, 24, 25, 7, 26, 27, 62, 63, 64, 65, 66, 67, 68, 69, 70, 71, 72, 73, 74, 75, 76, 77, 78, 79, 80] (by decide +kernel) (by decide +kernel)
set_option maxRecDepth 20000 in
theorem gX3_stop_X3_refused : GoodIn wsX3_stop (wsV RX3 102 RX3 yX3_refused wsX3_refused) := goodIn_app (goodIn_of _ (by decide +kernel)) ggX3_stop_X3_refused
set_option maxRecDepth 20000 in
theorem ggX3_stop_X3_offerAll : GoodIn wsX3_stop wsX3_offerAll := goodIn_r _ [31, 32, 33, 21, 34, 35, 36, 37, 7, 38, 27, 39, 40, 41, 42, 43, 44, 45, 46, 9, 47, 48, 49, 50, 2, 51, 22, 52, 53, 54, 55, 3, 56, 57, 58, 59, 60, 61, 23, 24, 25, 26, 62, 63, 64, 65, 66, 67, 68, 69, 70, 71, 72, 73, 74, 75, 76, 77, 78, 79, 80] (by decide +kernel) (by decide +kernel)
set_option maxRecDepth 20000 in
theorem gX3_stop_X3_offerAll : GoodIn wsX3_stop (wsV RX3 95 RX3 yX3_offerAll wsX3_offerAll) := goodIn_app (goodIn_of _ (by decide +kernel)) ggX3_stop_X3_offerAll
theorem dX3_stop_0 : decode cX3_stop 0 = .ok (.aload_n 0, 1) := by decide +kernel
theorem dX3_stop_1 : decode cX3_stop 1 = .ok (.iconst 0, 1) := by decide +kernel
theorem dX3_stop_2 : decode cX3_stop 2 = .ok (.putfield 53, 3) := by decide +kernel
theorem dX3_stop_5 : decode cX3_stop 5 = .ok (.aload_n 0, 1) := by decide +kernel
theorem dX3_stop_6 : decode cX3_stop 6 = .ok (.iload_n 1, 1) := by decide +kernel
theorem dX3_stop_7 : decode cX3_stop 7 = .ok (.invokevirtual 85, 3) := by decide +kernel
theorem dX3_stop_10 : decode cX3_stop 10 = .ok (.ifCond .ne 9, 3) := by decide +kernel
theorem dX3_stop_13 : decode cX3_stop 13 = .ok (.aload_n 0, 1) := by decide +kernel
theorem dX3_stop_14 : decode cX3_stop 14 = .ok (.iconst 1, 1) := by decide +kernel
theorem dX3_stop_15 : decode cX3_stop 15 = .ok (.invokevirtual 70, 3) := by decide +kernel
theorem dX3_stop_18 : decode cX3_stop 18 = .ok (.ireturn, 1) := by decide +kernel
theorem dX3_stop_19 : decode cX3_stop 19 = .ok (.aload_n 0, 1) := by decide +kernel
theorem dX3_stop_20 : decode cX3_stop 20 = .ok (.getfield 26, 3) := by decide +kernel
theorem dX3_stop_23 : decode cX3_stop 23 = .ok (.iload_n 1, 1) := by decide +kernel
theorem dX3_stop_24 : decode cX3_stop 24 = .ok (.iaload, 1) := by decide +kernel
theorem dX3_stop_25 : decode cX3_stop 25 = .ok (.iconst 1, 1) := by decide +kernel
theorem dX3_stop_26 : decode cX3_stop 26 = .ok (.if_icmp .eq 9, 3) := by decide +kernel
theorem dX3_stop_29 : decode cX3_stop 29 = .ok (.aload_n 0, 1) := by decide +kernel
theorem dX3_stop_30 : decode cX3_stop 30 = .ok (.iconst 2, 1) := by decide +kernel
theorem dX3_stop_31 : decode cX3_stop 31 = .ok (.invokevirtual 70, 3) := by decide +kernel
theorem dX3_stop_34 : decode cX3_stop 34 = .ok (.ireturn, 1) := by decide +kernel
theorem dX3_stop_35 : decode cX3_stop 35 = .ok (.aload_n 0, 1) := by decide +kernel
theorem dX3_stop_36 : decode cX3_stop 36 = .ok (.iload_n 1, 1) := by decide +kernel
theorem dX3_stop_37 : decode cX3_stop 37 = .ok (.invokevirtual 102, 3) := by decide +kernel
theorem dX3_stop_40 : decode cX3_stop 40 = .ok (.aload_n 0, 1) := by decide +kernel
theorem dX3_stop_41 : decode cX3_stop 41 = .ok (.getfield 26, 3) := by decide +kernel
theorem dX3_stop_44 : decode cX3_stop 44 = .ok (.iload_n 1, 1) := by decide +kernel
theorem dX3_stop_45 : decode cX3_stop 45 = .ok (.iconst 0, 1) := by decide +kernel
theorem dX3_stop_46 : decode cX3_stop 46 = .ok (.iastore, 1) := by decide +kernel
theorem dX3_stop_47 : decode cX3_stop 47 = .ok (.aload_n 0, 1) := by decide +kernel
theorem dX3_stop_48 : decode cX3_stop 48 = .ok (.invokevirtual 95, 3) := by decide +kernel
theorem dX3_stop_51 : decode cX3_stop 51 = .ok (.aload_n 0, 1) := by decide +kernel
theorem dX3_stop_52 : decode cX3_stop 52 = .ok (.getfield 23, 3) := by decide +kernel
theorem dX3_stop_55 : decode cX3_stop 55 = .ok (.iload_n 1, 1) := by decide +kernel
theorem dX3_stop_56 : decode cX3_stop 56 = .ok (.iaload, 1) := by decide +kernel
theorem dX3_stop_57 : decode cX3_stop 57 = .ok (.ireturn, 1) := by decide +kernel
set_option maxRecDepth 20000 in
theorem ggX3_setRates_X3_isIn : GoodIn wsX3_setRates wsX3_isIn := goodIn_r _ [7] (by decide +kernel) (by decide +kernel)
set_option maxRecDepth 20000 in
theorem gX3_setRates_X3_isIn : GoodIn wsX3_setRates (va_wsS RX3 56 yX3_isIn wsX3_isIn) := goodIn_app (goodIn_of _ (by decide +kernel)) ggX3_setRates_X3_isIn
set_option maxRecDepth 20000 in
theorem ggX3_setRates_X3_fail : GoodIn wsX3_setRates wsX3_fail := goodIn_r _ [11, 1, 12, 13, 14, 15, 16, 17, 18, 19, 20, 21, 22, 23, 24, 25, 26, 27, 28, 29, 30] (by decide +kernel) (by decide +kernel)
set_option maxRecDepth 20000 in
theorem gX3_setRates_X3_fail : GoodIn wsX3_setRates (wsV RX3 70 RX3 yX3_fail wsX3_fail) := goodIn_app (goodIn_of _ (by decide +kernel)) ggX3_setRates_X3_fail
theorem dX3_setRates_0 : decode cX3_setRates 0 = .ok (.aload_n 0, 1) := by decide +kernel
theorem dX3_setRates_1 : decode cX3_setRates 1 = .ok (.iconst 0, 1) := by decide +kernel
theorem dX3_setRates_2 : decode cX3_setRates 2 = .ok (.putfield 53, 3) := by decide +kernel
theorem dX3_setRates_5 : decode cX3_setRates 5 = .ok (.iload_n 1, 1) := by decide +kernel
theorem dX3_setRates_6 : decode cX3_setRates 6 = .ok (.iconst 0, 1) := by decide +kernel
theorem dX3_setRates_7 : decode cX3_setRates 7 = .ok (.bipush 100, 2) := by decide +kernel
theorem dX3_setRates_9 : decode cX3_setRates 9 = .ok (.invokestatic 56, 3) := by decide +kernel
theorem dX3_setRates_12 : decode cX3_setRates 12 = .ok (.ifCond .eq 13, 3) := by decide +kernel
theorem dX3_setRates_15 : decode cX3_setRates 15 = .ok (.iload_n 2, 1) := by decide +kernel
theorem dX3_setRates_16 : decode cX3_setRates 16 = .ok (.iconst 0, 1) := by decide +kernel
theorem dX3_setRates_17 : decode cX3_setRates 17 = .ok (.bipush 20, 2) := by decide +kernel
theorem dX3_setRates_19 : decode cX3_setRates 19 = .ok (.invokestatic 56, 3) := by decide +kernel
theorem dX3_setRates_22 : decode cX3_setRates 22 = .ok (.ifCond .ne 9, 3) := by decide +kernel
theorem dX3_setRates_25 : decode cX3_setRates 25 = .ok (.aload_n 0, 1) := by decide +kernel
theorem dX3_setRates_26 : decode cX3_setRates 26 = .ok (.iconst 1, 1) := by decide +kernel
theorem dX3_setRates_27 : decode cX3_setRates 27 = .ok (.invokevirtual 70, 3) := by decide +kernel
theorem dX3_setRates_30 : decode cX3_setRates 30 = .ok (.ireturn, 1) := by decide +kernel
theorem dX3_setRates_31 : decode cX3_setRates 31 = .ok (.aload_n 0, 1) := by decide +kernel
theorem dX3_setRates_32 : decode cX3_setRates 32 = .ok (.getfield 13, 3) := by decide +kernel
theorem dX3_setRates_35 : decode cX3_setRates 35 = .ok (.istore_n 3, 1) := by decide +kernel
theorem dX3_setRates_36 : decode cX3_setRates 36 = .ok (.aload_n 0, 1) := by decide +kernel
theorem dX3_setRates_37 : decode cX3_setRates 37 = .ok (.iload_n 1, 1) := by decide +kernel
theorem dX3_setRates_38 : decode cX3_setRates 38 = .ok (.putfield 13, 3) := by decide +kernel
theorem dX3_setRates_41 : decode cX3_setRates 41 = .ok (.aload_n 0, 1) := by decide +kernel
theorem dX3_setRates_42 : decode cX3_setRates 42 = .ok (.iload_n 2, 1) := by decide +kernel
theorem dX3_setRates_43 : decode cX3_setRates 43 = .ok (.putfield 17, 3) := by decide +kernel
theorem dX3_setRates_46 : decode cX3_setRates 46 = .ok (.iload_n 3, 1) := by decide +kernel
theorem dX3_setRates_47 : decode cX3_setRates 47 = .ok (.ireturn, 1) := by decide +kernel
set_option maxRecDepth 20000 in
theorem ggX3_cabTold_X3_placeOf : GoodIn wsX3_cabTold wsX3_placeOf := goodIn_r _ [9, 1, 10, 2, 11, 12, 13, 14, 15, 16, 17, 18, 19, 20, 21, 22, 23, 24, 25, 26, 27, 28, 29, 30] (by decide +kernel) (by decide +kernel)
set_option maxRecDepth 20000 in
theorem gX3_cabTold_X3_placeOf : GoodIn wsX3_cabTold (wsV RX3 92 RX3 yX3_placeOf wsX3_placeOf) := goodIn_app (goodIn_of _ (by decide +kernel)) ggX3_cabTold_X3_placeOf
theorem dX3_cabTold_0 : decode cX3_cabTold 0 = .ok (.iload_n 2, 1) := by decide +kernel
theorem dX3_cabTold_1 : decode cX3_cabTold 1 = .ok (.tableswitch 59 0 3 #[31, 38, 45, 52], 31) := by decide +kernel
theorem dX3_cabTold_32 : decode cX3_cabTold 32 = .ok (.aload_n 0, 1) := by decide +kernel
theorem dX3_cabTold_33 : decode cX3_cabTold 33 = .ok (.getfield 26, 3) := by decide +kernel
theorem dX3_cabTold_36 : decode cX3_cabTold 36 = .ok (.iload_n 1, 1) := by decide +kernel
theorem dX3_cabTold_37 : decode cX3_cabTold 37 = .ok (.iaload, 1) := by decide +kernel
theorem dX3_cabTold_38 : decode cX3_cabTold 38 = .ok (.ireturn, 1) := by decide +kernel
theorem dX3_cabTold_39 : decode cX3_cabTold 39 = .ok (.aload_n 0, 1) := by decide +kernel
theorem dX3_cabTold_40 : decode cX3_cabTold 40 = .ok (.getfield 23, 3) := by decide +kernel
theorem dX3_cabTold_43 : decode cX3_cabTold 43 = .ok (.iload_n 1, 1) := by decide +kernel
theorem dX3_cabTold_44 : decode cX3_cabTold 44 = .ok (.iaload, 1) := by decide +kernel
theorem dX3_cabTold_45 : decode cX3_cabTold 45 = .ok (.ireturn, 1) := by decide +kernel
theorem dX3_cabTold_46 : decode cX3_cabTold 46 = .ok (.aload_n 0, 1) := by decide +kernel
theorem dX3_cabTold_47 : decode cX3_cabTold 47 = .ok (.getfield 20, 3) := by decide +kernel
theorem dX3_cabTold_50 : decode cX3_cabTold 50 = .ok (.iload_n 1, 1) := by decide +kernel
theorem dX3_cabTold_51 : decode cX3_cabTold 51 = .ok (.iaload, 1) := by decide +kernel
theorem dX3_cabTold_52 : decode cX3_cabTold 52 = .ok (.ireturn, 1) := by decide +kernel
theorem dX3_cabTold_53 : decode cX3_cabTold 53 = .ok (.aload_n 0, 1) := by decide +kernel
theorem dX3_cabTold_54 : decode cX3_cabTold 54 = .ok (.getfield 29, 3) := by decide +kernel
theorem dX3_cabTold_57 : decode cX3_cabTold 57 = .ok (.iload_n 1, 1) := by decide +kernel
theorem dX3_cabTold_58 : decode cX3_cabTold 58 = .ok (.iaload, 1) := by decide +kernel
theorem dX3_cabTold_59 : decode cX3_cabTold 59 = .ok (.ireturn, 1) := by decide +kernel
theorem dX3_cabTold_60 : decode cX3_cabTold 60 = .ok (.aload_n 0, 1) := by decide +kernel
theorem dX3_cabTold_61 : decode cX3_cabTold 61 = .ok (.iload_n 1, 1) := by decide +kernel
theorem dX3_cabTold_62 : decode cX3_cabTold 62 = .ok (.invokevirtual 92, 3) := by decide +kernel
theorem dX3_cabTold_65 : decode cX3_cabTold 65 = .ok (.ireturn, 1) := by decide +kernel
set_option maxRecDepth 20000 in
theorem ggX3_cab_X3_isCab : GoodIn wsX3_cab wsX3_isCab := goodIn_r _ [6, 7, 8, 9, 5, 10, 28, 29, 30, 31, 32, 33, 34, 35, 36, 37, 38, 39, 40, 41, 42, 43, 44, 45, 46] (by decide +kernel) (by decide +kernel)
set_option maxRecDepth 20000 in
theorem gX3_cab_X3_isCab : GoodIn wsX3_cab (wsV RX3 85 RX3 yX3_isCab wsX3_isCab) := goodIn_app (goodIn_of _ (by decide +kernel)) ggX3_cab_X3_isCab
set_option maxRecDepth 20000 in
theorem ggX3_cab_X3_isIn : GoodIn wsX3_cab wsX3_isIn := goodIn_r _ [10] (by decide +kernel) (by decide +kernel)
set_option maxRecDepth 20000 in
theorem gX3_cab_X3_isIn : GoodIn wsX3_cab (va_wsS RX3 56 yX3_isIn wsX3_isIn) := goodIn_app (goodIn_of _ (by decide +kernel)) ggX3_cab_X3_isIn
set_option maxRecDepth 20000 in
theorem ggX3_cab_X3_cabTold : GoodIn wsX3_cab wsX3_cabTold := goodIn_r _ [14, 15, 16, 17, 18, 19, 20, 21, 5, 22, 7, 23, 28, 29, 30, 31, 32, 33, 34, 35, 36, 37, 38, 39, 40, 41, 42, 43, 44, 45, 46] (by decide +kernel) (by decide +kernel)
set_option maxRecDepth 20000 in
theorem gX3_cab_X3_cabTold : GoodIn wsX3_cab (wsV RX3 105 RX3 yX3_cabTold wsX3_cabTold) := goodIn_app (goodIn_of _ (by decide +kernel)) ggX3_cab_X3_cabTold
set_option maxRecDepth 20000 in
theorem ggX3_cab_X3_fail : GoodIn wsX3_cab wsX3_fail := goodIn_r _ [27, 1, 28, 29, 30, 31, 32, 33, 34, 35, 36, 37, 38, 39, 40, 41, 42, 43, 44, 45, 46] (by decide +kernel) (by decide +kernel)
set_option maxRecDepth 20000 in
theorem gX3_cab_X3_fail : GoodIn wsX3_cab (wsV RX3 70 RX3 yX3_fail wsX3_fail) := goodIn_app (goodIn_of _ (by decide +kernel)) ggX3_cab_X3_fail
theorem dX3_cab_0 : decode cX3_cab 0 = .ok (.aload_n 0, 1) := by decide +kernel
theorem dX3_cab_1 : decode cX3_cab 1 = .ok (.iconst 0, 1) := by decide +kernel
theorem dX3_cab_2 : decode cX3_cab 2 = .ok (.putfield 53, 3) := by decide +kernel
theorem dX3_cab_5 : decode cX3_cab 5 = .ok (.aload_n 0, 1) := by decide +kernel
theorem dX3_cab_6 : decode cX3_cab 6 = .ok (.iload_n 1, 1) := by decide +kernel
theorem dX3_cab_7 : decode cX3_cab 7 = .ok (.invokevirtual 85, 3) := by decide +kernel
theorem dX3_cab_10 : decode cX3_cab 10 = .ok (.ifCond .eq 21, 3) := by decide +kernel
theorem dX3_cab_13 : decode cX3_cab 13 = .ok (.iload_n 2, 1) := by decide +kernel
theorem dX3_cab_14 : decode cX3_cab 14 = .ok (.iconst 0, 1) := by decide +kernel
theorem dX3_cab_15 : decode cX3_cab 15 = .ok (.iconst 4, 1) := by decide +kernel
theorem dX3_cab_16 : decode cX3_cab 16 = .ok (.invokestatic 56, 3) := by decide +kernel
theorem dX3_cab_19 : decode cX3_cab 19 = .ok (.ifCond .eq 12, 3) := by decide +kernel
theorem dX3_cab_22 : decode cX3_cab 22 = .ok (.aload_n 0, 1) := by decide +kernel
theorem dX3_cab_23 : decode cX3_cab 23 = .ok (.iload_n 1, 1) := by decide +kernel
theorem dX3_cab_24 : decode cX3_cab 24 = .ok (.iload_n 2, 1) := by decide +kernel
theorem dX3_cab_25 : decode cX3_cab 25 = .ok (.invokevirtual 105, 3) := by decide +kernel
theorem dX3_cab_28 : decode cX3_cab 28 = .ok (.goto 8, 3) := by decide +kernel
theorem dX3_cab_31 : decode cX3_cab 31 = .ok (.aload_n 0, 1) := by decide +kernel
theorem dX3_cab_32 : decode cX3_cab 32 = .ok (.iconst 1, 1) := by decide +kernel
theorem dX3_cab_33 : decode cX3_cab 33 = .ok (.invokevirtual 70, 3) := by decide +kernel
theorem dX3_cab_36 : decode cX3_cab 36 = .ok (.ireturn, 1) := by decide +kernel
set_option maxRecDepth 20000 in
theorem ggX3_canOffer_X3_get : GoodIn wsX3_canOffer wsX3_get := goodIn_r _ [9, 10, 11, 12, 13, 14, 15, 16, 17, 18, 19, 20, 21, 22, 23, 24, 25, 26, 27, 28, 29] (by decide +kernel) (by decide +kernel)
set_option maxRecDepth 20000 in
theorem gX3_canOffer_X3_get : GoodIn wsX3_canOffer (wsV RX3 108 RX3 yX3_get wsX3_get) := goodIn_app (goodIn_of _ (by decide +kernel)) ggX3_canOffer_X3_get
theorem dX3_canOffer_0 : decode cX3_canOffer 0 = .ok (.aload_n 0, 1) := by decide +kernel
theorem dX3_canOffer_1 : decode cX3_canOffer 1 = .ok (.getfield 26, 3) := by decide +kernel
theorem dX3_canOffer_4 : decode cX3_canOffer 4 = .ok (.iload_n 2, 1) := by decide +kernel
theorem dX3_canOffer_5 : decode cX3_canOffer 5 = .ok (.iaload, 1) := by decide +kernel
theorem dX3_canOffer_6 : decode cX3_canOffer 6 = .ok (.iconst 1, 1) := by decide +kernel
theorem dX3_canOffer_7 : decode cX3_canOffer 7 = .ok (.if_icmp .ne 45, 3) := by decide +kernel
theorem dX3_canOffer_10 : decode cX3_canOffer 10 = .ok (.aload_n 0, 1) := by decide +kernel
theorem dX3_canOffer_11 : decode cX3_canOffer 11 = .ok (.getfield 29, 3) := by decide +kernel
theorem dX3_canOffer_14 : decode cX3_canOffer 14 = .ok (.iload_n 2, 1) := by decide +kernel
theorem dX3_canOffer_15 : decode cX3_canOffer 15 = .ok (.iaload, 1) := by decide +kernel
theorem dX3_canOffer_16 : decode cX3_canOffer 16 = .ok (.iconst (-1), 1) := by decide +kernel
theorem dX3_canOffer_17 : decode cX3_canOffer 17 = .ok (.if_icmp .ne 35, 3) := by decide +kernel
theorem dX3_canOffer_20 : decode cX3_canOffer 20 = .ok (.aload_n 0, 1) := by decide +kernel
theorem dX3_canOffer_21 : decode cX3_canOffer 21 = .ok (.getfield 20, 3) := by decide +kernel
theorem dX3_canOffer_24 : decode cX3_canOffer 24 = .ok (.iload_n 2, 1) := by decide +kernel
theorem dX3_canOffer_25 : decode cX3_canOffer 25 = .ok (.iaload, 1) := by decide +kernel
theorem dX3_canOffer_26 : decode cX3_canOffer 26 = .ok (.aload_n 0, 1) := by decide +kernel
theorem dX3_canOffer_27 : decode cX3_canOffer 27 = .ok (.iload_n 1, 1) := by decide +kernel
theorem dX3_canOffer_28 : decode cX3_canOffer 28 = .ok (.iconst 2, 1) := by decide +kernel
theorem dX3_canOffer_29 : decode cX3_canOffer 29 = .ok (.invokevirtual 108, 3) := by decide +kernel
theorem dX3_canOffer_32 : decode cX3_canOffer 32 = .ok (.if_icmp .lt 20, 3) := by decide +kernel
theorem dX3_canOffer_35 : decode cX3_canOffer 35 = .ok (.aload_n 0, 1) := by decide +kernel
theorem dX3_canOffer_36 : decode cX3_canOffer 36 = .ok (.getfield 47, 3) := by decide +kernel
theorem dX3_canOffer_39 : decode cX3_canOffer 39 = .ok (.iload_n 1, 1) := by decide +kernel
theorem dX3_canOffer_40 : decode cX3_canOffer 40 = .ok (.iaload, 1) := by decide +kernel
theorem dX3_canOffer_41 : decode cX3_canOffer 41 = .ok (.iload_n 2, 1) := by decide +kernel
theorem dX3_canOffer_42 : decode cX3_canOffer 42 = .ok (.ishr, 1) := by decide +kernel
theorem dX3_canOffer_43 : decode cX3_canOffer 43 = .ok (.iconst 1, 1) := by decide +kernel
theorem dX3_canOffer_44 : decode cX3_canOffer 44 = .ok (.iand, 1) := by decide +kernel
theorem dX3_canOffer_45 : decode cX3_canOffer 45 = .ok (.ifCond .ne 7, 3) := by decide +kernel
theorem dX3_canOffer_48 : decode cX3_canOffer 48 = .ok (.iconst 1, 1) := by decide +kernel
theorem dX3_canOffer_49 : decode cX3_canOffer 49 = .ok (.goto 4, 3) := by decide +kernel
theorem dX3_canOffer_52 : decode cX3_canOffer 52 = .ok (.iconst 0, 1) := by decide +kernel
theorem dX3_canOffer_53 : decode cX3_canOffer 53 = .ok (.ireturn, 1) := by decide +kernel
set_option maxRecDepth 20000 in
theorem ggX3_cabFor_X3_canOffer : GoodIn wsX3_cabFor wsX3_canOffer := goodIn_r _ [6, 7, 8, 9, 10, 11, 12, 13, 5, 14, 15, 27, 28, 29, 30, 31, 32, 33, 34, 35, 36, 37, 38, 39, 40, 41, 42, 43, 44, 45] (by decide +kernel) (by decide +kernel)
set_option maxRecDepth 20000 in
theorem gX3_cabFor_X3_canOffer : GoodIn wsX3_cabFor (wsV RX3 111 RX3 yX3_canOffer wsX3_canOffer) := goodIn_app (goodIn_of _ (by decide +kernel)) ggX3_cabFor_X3_canOffer
set_option maxRecDepth 20000 in
theorem ggX3_cabFor_X3_get : GoodIn wsX3_cabFor wsX3_get := goodIn_r _ [14, 15, 27, 28, 29, 30, 31, 32, 33, 34, 35, 36, 37, 38, 39, 40, 41, 42, 43, 44, 45] (by decide +kernel) (by decide +kernel)
set_option maxRecDepth 20000 in
theorem gX3_cabFor_X3_get : GoodIn wsX3_cabFor (wsV RX3 108 RX3 yX3_get wsX3_get) := goodIn_app (goodIn_of _ (by decide +kernel)) ggX3_cabFor_X3_get
set_option maxRecDepth 20000 in
theorem ggX3_cabFor_X3_isNearer : GoodIn wsX3_cabFor wsX3_isNearer := goodIn_r _ [19, 20, 21, 22, 23, 24, 5, 25, 26, 27, 28, 29, 30, 31, 32, 33, 34, 35, 36, 37, 38, 39, 40, 41, 42, 43, 44, 45] (by decide +kernel) (by decide +kernel)
set_option maxRecDepth 20000 in
theorem gX3_cabFor_X3_isNearer : GoodIn wsX3_cabFor (wsV RX3 115 RX3 yX3_isNearer wsX3_isNearer) := goodIn_app (goodIn_of _ (by decide +kernel)) ggX3_cabFor_X3_isNearer
theorem dX3_cabFor_0 : decode cX3_cabFor 0 = .ok (.iconst (-1), 1) := by decide +kernel
theorem dX3_cabFor_1 : decode cX3_cabFor 1 = .ok (.istore_n 2, 1) := by decide +kernel
theorem dX3_cabFor_2 : decode cX3_cabFor 2 = .ok (.iconst 0, 1) := by decide +kernel
theorem dX3_cabFor_3 : decode cX3_cabFor 3 = .ok (.istore_n 3, 1) := by decide +kernel
theorem dX3_cabFor_4 : decode cX3_cabFor 4 = .ok (.iload_n 3, 1) := by decide +kernel
theorem dX3_cabFor_5 : decode cX3_cabFor 5 = .ok (.aload_n 0, 1) := by decide +kernel
theorem dX3_cabFor_6 : decode cX3_cabFor 6 = .ok (.getfield 60, 3) := by decide +kernel
theorem dX3_cabFor_9 : decode cX3_cabFor 9 = .ok (.if_icmp .ge 43, 3) := by decide +kernel
theorem dX3_cabFor_12 : decode cX3_cabFor 12 = .ok (.aload_n 0, 1) := by decide +kernel
theorem dX3_cabFor_13 : decode cX3_cabFor 13 = .ok (.iload_n 1, 1) := by decide +kernel
theorem dX3_cabFor_14 : decode cX3_cabFor 14 = .ok (.iload_n 3, 1) := by decide +kernel
theorem dX3_cabFor_15 : decode cX3_cabFor 15 = .ok (.invokevirtual 111, 3) := by decide +kernel
theorem dX3_cabFor_18 : decode cX3_cabFor 18 = .ok (.ifCond .ne 6, 3) := by decide +kernel
theorem dX3_cabFor_21 : decode cX3_cabFor 21 = .ok (.goto 25, 3) := by decide +kernel
theorem dX3_cabFor_24 : decode cX3_cabFor 24 = .ok (.iload_n 2, 1) := by decide +kernel
theorem dX3_cabFor_25 : decode cX3_cabFor 25 = .ok (.iconst (-1), 1) := by decide +kernel
theorem dX3_cabFor_26 : decode cX3_cabFor 26 = .ok (.if_icmp .eq 18, 3) := by decide +kernel
theorem dX3_cabFor_29 : decode cX3_cabFor 29 = .ok (.aload_n 0, 1) := by decide +kernel
theorem dX3_cabFor_30 : decode cX3_cabFor 30 = .ok (.iload_n 3, 1) := by decide +kernel
theorem dX3_cabFor_31 : decode cX3_cabFor 31 = .ok (.iload_n 2, 1) := by decide +kernel
theorem dX3_cabFor_32 : decode cX3_cabFor 32 = .ok (.aload_n 0, 1) := by decide +kernel
theorem dX3_cabFor_33 : decode cX3_cabFor 33 = .ok (.iload_n 1, 1) := by decide +kernel
theorem dX3_cabFor_34 : decode cX3_cabFor 34 = .ok (.iconst 0, 1) := by decide +kernel
theorem dX3_cabFor_35 : decode cX3_cabFor 35 = .ok (.invokevirtual 108, 3) := by decide +kernel
theorem dX3_cabFor_38 : decode cX3_cabFor 38 = .ok (.invokevirtual 115, 3) := by decide +kernel
theorem dX3_cabFor_41 : decode cX3_cabFor 41 = .ok (.ifCond .eq 5, 3) := by decide +kernel
theorem dX3_cabFor_44 : decode cX3_cabFor 44 = .ok (.iload_n 3, 1) := by decide +kernel
theorem dX3_cabFor_45 : decode cX3_cabFor 45 = .ok (.istore_n 2, 1) := by decide +kernel
theorem dX3_cabFor_46 : decode cX3_cabFor 46 = .ok (.iinc 3 1, 3) := by decide +kernel
theorem dX3_cabFor_49 : decode cX3_cabFor 49 = .ok (.goto (-45), 3) := by decide +kernel
theorem dX3_cabFor_52 : decode cX3_cabFor 52 = .ok (.iload_n 2, 1) := by decide +kernel
theorem dX3_cabFor_53 : decode cX3_cabFor 53 = .ok (.ireturn, 1) := by decide +kernel
set_option maxRecDepth 20000 in
theorem ggX3_isNearer_X3_way : GoodIn wsX3_isNearer wsX3_way := goodIn_r _ [7, 8, 9, 10, 11, 12, 13, 14, 15, 16, 17, 18, 19, 20, 21, 22, 23, 24, 25, 26, 27] (by decide +kernel) (by decide +kernel)
set_option maxRecDepth 20000 in
theorem gX3_isNearer_X3_way : GoodIn wsX3_isNearer (wsV RX3 74 RX3 yX3_way wsX3_way) := goodIn_app (goodIn_of _ (by decide +kernel)) ggX3_isNearer_X3_way
theorem dX3_isNearer_0 : decode cX3_isNearer 0 = .ok (.aload_n 0, 1) := by decide +kernel
theorem dX3_isNearer_1 : decode cX3_isNearer 1 = .ok (.getfield 23, 3) := by decide +kernel
theorem dX3_isNearer_4 : decode cX3_isNearer 4 = .ok (.iload_n 1, 1) := by decide +kernel
theorem dX3_isNearer_5 : decode cX3_isNearer 5 = .ok (.iaload, 1) := by decide +kernel
