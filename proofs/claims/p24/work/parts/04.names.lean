theorem dX2_orderNumbered_19 : decode cX2_orderNumbered 19 = .ok (.ldc 238, 2) := by decide +kernel
theorem dX2_orderNumbered_21 : decode cX2_orderNumbered 21 = .ok (.invokespecial 112, 3) := by decide +kernel
theorem dX2_orderNumbered_24 : decode cX2_orderNumbered 24 = .ok (.athrow, 1) := by decide +kernel
theorem dX2_orderNumbered_25 : decode cX2_orderNumbered 25 = .ok (.aload_n 0, 1) := by decide +kernel
theorem dX2_orderNumbered_26 : decode cX2_orderNumbered 26 = .ok (.getfield 20, 3) := by decide +kernel
theorem dX2_orderNumbered_29 : decode cX2_orderNumbered 29 = .ok (.iload_n 1, 1) := by decide +kernel
theorem dX2_orderNumbered_30 : decode cX2_orderNumbered 30 = .ok (.invokevirtual 197, 3) := by decide +kernel
theorem dX2_orderNumbered_33 : decode cX2_orderNumbered 33 = .ok (.checkcast 127, 3) := by decide +kernel
theorem dX2_orderNumbered_36 : decode cX2_orderNumbered 36 = .ok (.areturn, 1) := by decide +kernel
theorem dX2_wayBetween_0 : decode cX2_wayBetween 0 = .ok (.iload_n 1, 1) := by decide +kernel
theorem dX2_wayBetween_1 : decode cX2_wayBetween 1 = .ok (.bipush 6, 2) := by decide +kernel
theorem dX2_wayBetween_3 : decode cX2_wayBetween 3 = .ok (.imul, 1) := by decide +kernel
theorem dX2_wayBetween_4 : decode cX2_wayBetween 4 = .ok (.iload_n 2, 1) := by decide +kernel
theorem dX2_wayBetween_5 : decode cX2_wayBetween 5 = .ok (.iadd, 1) := by decide +kernel
theorem dX2_wayBetween_6 : decode cX2_wayBetween 6 = .ok (.istore_n 3, 1) := by decide +kernel
theorem dX2_wayBetween_7 : decode cX2_wayBetween 7 = .ok (.iload_n 3, 1) := by decide +kernel
theorem dX2_wayBetween_8 : decode cX2_wayBetween 8 = .ok (.ifCond .lt 21, 3) := by decide +kernel
theorem dX2_wayBetween_11 : decode cX2_wayBetween 11 = .ok (.iload_n 3, 1) := by decide +kernel
theorem dX2_wayBetween_12 : decode cX2_wayBetween 12 = .ok (.aload_n 0, 1) := by decide +kernel
theorem dX2_wayBetween_13 : decode cX2_wayBetween 13 = .ok (.getfield 9, 3) := by decide +kernel
theorem dX2_wayBetween_16 : decode cX2_wayBetween 16 = .ok (.arraylength, 1) := by decide +kernel
theorem dX2_wayBetween_17 : decode cX2_wayBetween 17 = .ok (.if_icmp .ge 12, 3) := by decide +kernel
theorem dX2_wayBetween_20 : decode cX2_wayBetween 20 = .ok (.aload_n 0, 1) := by decide +kernel
theorem dX2_wayBetween_21 : decode cX2_wayBetween 21 = .ok (.getfield 9, 3) := by decide +kernel
theorem dX2_wayBetween_24 : decode cX2_wayBetween 24 = .ok (.iload_n 3, 1) := by decide +kernel
theorem dX2_wayBetween_25 : decode cX2_wayBetween 25 = .ok (.iaload, 1) := by decide +kernel
theorem dX2_wayBetween_26 : decode cX2_wayBetween 26 = .ok (.goto 4, 3) := by decide +kernel
theorem dX2_wayBetween_29 : decode cX2_wayBetween 29 = .ok (.iconst 5, 1) := by decide +kernel
theorem dX2_wayBetween_30 : decode cX2_wayBetween 30 = .ok (.ireturn, 1) := by decide +kernel
theorem dX2_putWay_0 : decode cX2_putWay 0 = .ok (.iload_n 1, 1) := by decide +kernel
theorem dX2_putWay_1 : decode cX2_putWay 1 = .ok (.bipush 6, 2) := by decide +kernel
theorem dX2_putWay_3 : decode cX2_putWay 3 = .ok (.imul, 1) := by decide +kernel
theorem dX2_putWay_4 : decode cX2_putWay 4 = .ok (.iload_n 2, 1) := by decide +kernel
theorem dX2_putWay_5 : decode cX2_putWay 5 = .ok (.iadd, 1) := by decide +kernel
theorem dX2_putWay_6 : decode cX2_putWay 6 = .ok (.istore 4, 2) := by decide +kernel
theorem dX2_putWay_8 : decode cX2_putWay 8 = .ok (.iload 4, 2) := by decide +kernel
theorem dX2_putWay_10 : decode cX2_putWay 10 = .ok (.ifCond .lt 21, 3) := by decide +kernel
theorem dX2_putWay_13 : decode cX2_putWay 13 = .ok (.iload 4, 2) := by decide +kernel
theorem dX2_putWay_15 : decode cX2_putWay 15 = .ok (.aload_n 0, 1) := by decide +kernel
theorem dX2_putWay_16 : decode cX2_putWay 16 = .ok (.getfield 9, 3) := by decide +kernel
theorem dX2_putWay_19 : decode cX2_putWay 19 = .ok (.arraylength, 1) := by decide +kernel
theorem dX2_putWay_20 : decode cX2_putWay 20 = .ok (.if_icmp .ge 11, 3) := by decide +kernel
theorem dX2_putWay_23 : decode cX2_putWay 23 = .ok (.aload_n 0, 1) := by decide +kernel
theorem dX2_putWay_24 : decode cX2_putWay 24 = .ok (.getfield 9, 3) := by decide +kernel
theorem dX2_putWay_27 : decode cX2_putWay 27 = .ok (.iload 4, 2) := by decide +kernel
theorem dX2_putWay_29 : decode cX2_putWay 29 = .ok (.iload_n 3, 1) := by decide +kernel
theorem dX2_putWay_30 : decode cX2_putWay 30 = .ok (.iastore, 1) := by decide +kernel
theorem dX2_putWay_31 : decode cX2_putWay 31 = .ok (.return_, 1) := by decide +kernel
theorem dX2_joinQueue_0 : decode cX2_joinQueue 0 = .ok (.aload_n 1, 1) := by decide +kernel
theorem dX2_joinQueue_1 : decode cX2_joinQueue 1 = .ok (.iconst 1, 1) := by decide +kernel
theorem dX2_joinQueue_2 : decode cX2_joinQueue 2 = .ok (.putfield 80, 3) := by decide +kernel
theorem dX2_joinQueue_5 : decode cX2_joinQueue 5 = .ok (.aload_n 1, 1) := by decide +kernel
theorem dX2_joinQueue_6 : decode cX2_joinQueue 6 = .ok (.aload_n 0, 1) := by decide +kernel
theorem dX2_joinQueue_7 : decode cX2_joinQueue 7 = .ok (.getfield 240, 3) := by decide +kernel
theorem dX2_joinQueue_10 : decode cX2_joinQueue 10 = .ok (.putfield 243, 3) := by decide +kernel
theorem dX2_joinQueue_13 : decode cX2_joinQueue 13 = .ok (.aload_n 0, 1) := by decide +kernel
theorem dX2_joinQueue_14 : decode cX2_joinQueue 14 = .ok (.dup, 1) := by decide +kernel
theorem dX2_joinQueue_15 : decode cX2_joinQueue 15 = .ok (.getfield 240, 3) := by decide +kernel
theorem dX2_joinQueue_18 : decode cX2_joinQueue 18 = .ok (.iconst 1, 1) := by decide +kernel
theorem dX2_joinQueue_19 : decode cX2_joinQueue 19 = .ok (.iadd, 1) := by decide +kernel
theorem dX2_joinQueue_20 : decode cX2_joinQueue 20 = .ok (.putfield 240, 3) := by decide +kernel
theorem dX2_joinQueue_23 : decode cX2_joinQueue 23 = .ok (.return_, 1) := by decide +kernel
theorem dX2_isInQueue_0 : decode cX2_isInQueue 0 = .ok (.aload_n 0, 1) := by decide +kernel
theorem dX2_isInQueue_1 : decode cX2_isInQueue 1 = .ok (.getfield 80, 3) := by decide +kernel
theorem dX2_isInQueue_4 : decode cX2_isInQueue 4 = .ok (.iconst 1, 1) := by decide +kernel
theorem dX2_isInQueue_5 : decode cX2_isInQueue 5 = .ok (.if_icmp .ne 15, 3) := by decide +kernel
theorem dX2_isInQueue_8 : decode cX2_isInQueue 8 = .ok (.aload_n 0, 1) := by decide +kernel
theorem dX2_isInQueue_9 : decode cX2_isInQueue 9 = .ok (.getfield 101, 3) := by decide +kernel
theorem dX2_isInQueue_12 : decode cX2_isInQueue 12 = .ok (.iload_n 1, 1) := by decide +kernel
theorem dX2_isInQueue_13 : decode cX2_isInQueue 13 = .ok (.if_icmp .ne 7, 3) := by decide +kernel
theorem dX2_isInQueue_16 : decode cX2_isInQueue 16 = .ok (.iconst 1, 1) := by decide +kernel
theorem dX2_isInQueue_17 : decode cX2_isInQueue 17 = .ok (.goto 4, 3) := by decide +kernel
theorem dX2_isInQueue_20 : decode cX2_isInQueue 20 = .ok (.iconst 0, 1) := by decide +kernel
theorem dX2_isInQueue_21 : decode cX2_isInQueue 21 = .ok (.ireturn, 1) := by decide +kernel
set_option maxRecDepth 20000 in
theorem ggX2_placeOf_Jx4a65c_size_8abf5 : GoodIn wsX2_placeOf wsJx4a65c_size_8abf5 := goodIn_r _ [10, 11, 49, 50, 51] (by decide +kernel) (by decide +kernel)
set_option maxRecDepth 20000 in
theorem gX2_placeOf_Jx4a65c_size_8abf5 : GoodIn wsX2_placeOf (wsV RX2 59 RJx4a65c yJx4a65c_size_8abf5 wsJx4a65c_size_8abf5) := goodIn_app (goodIn_of _ (by decide +kernel)) ggX2_placeOf_Jx4a65c_size_8abf5
set_option maxRecDepth 20000 in
theorem ggX2_placeOf_Jx4a65c_get_915e3 : GoodIn wsX2_placeOf wsJx4a65c_get_915e3 := goodIn_r _ [15, 11, 16, 17, 18, 19, 20, 21, 22, 23, 24, 25, 26, 9, 27, 28, 49, 50, 51] (by decide +kernel) (by decide +kernel)
set_option maxRecDepth 20000 in
theorem gX2_placeOf_Jx4a65c_get_915e3 : GoodIn wsX2_placeOf (wsV RX2 197 RJx4a65c yJx4a65c_get_915e3 wsJx4a65c_get_915e3) := goodIn_app (goodIn_of _ (by decide +kernel)) ggX2_placeOf_Jx4a65c_get_915e3
set_option maxRecDepth 20000 in
theorem ggX2_placeOf_X2_isInQueue : GoodIn wsX2_placeOf wsX2_isInQueue := goodIn_r _ [32, 1, 4, 33, 34, 35, 36, 37, 38, 39, 40, 41] (by decide +kernel) (by decide +kernel)
set_option maxRecDepth 20000 in
theorem gX2_placeOf_X2_isInQueue : GoodIn wsX2_placeOf (va_wsS RX2 246 yX2_isInQueue wsX2_isInQueue) := goodIn_app (goodIn_of _ (by decide +kernel)) ggX2_placeOf_X2_isInQueue
theorem dX2_placeOf_0 : decode cX2_placeOf 0 = .ok (.aload_n 1, 1) := by decide +kernel
theorem dX2_placeOf_1 : decode cX2_placeOf 1 = .ok (.getfield 80, 3) := by decide +kernel
theorem dX2_placeOf_4 : decode cX2_placeOf 4 = .ok (.iconst 1, 1) := by decide +kernel
theorem dX2_placeOf_5 : decode cX2_placeOf 5 = .ok (.if_icmp .eq 5, 3) := by decide +kernel
theorem dX2_placeOf_8 : decode cX2_placeOf 8 = .ok (.iconst (-1), 1) := by decide +kernel
theorem dX2_placeOf_9 : decode cX2_placeOf 9 = .ok (.ireturn, 1) := by decide +kernel
theorem dX2_placeOf_10 : decode cX2_placeOf 10 = .ok (.iconst 0, 1) := by decide +kernel
theorem dX2_placeOf_11 : decode cX2_placeOf 11 = .ok (.istore_n 2, 1) := by decide +kernel
theorem dX2_placeOf_12 : decode cX2_placeOf 12 = .ok (.iconst 0, 1) := by decide +kernel
theorem dX2_placeOf_13 : decode cX2_placeOf 13 = .ok (.istore_n 3, 1) := by decide +kernel
theorem dX2_placeOf_14 : decode cX2_placeOf 14 = .ok (.iload_n 3, 1) := by decide +kernel
theorem dX2_placeOf_15 : decode cX2_placeOf 15 = .ok (.aload_n 0, 1) := by decide +kernel
theorem dX2_placeOf_16 : decode cX2_placeOf 16 = .ok (.getfield 16, 3) := by decide +kernel
theorem dX2_placeOf_19 : decode cX2_placeOf 19 = .ok (.invokevirtual 59, 3) := by decide +kernel
theorem dX2_placeOf_22 : decode cX2_placeOf 22 = .ok (.if_icmp .ge 49, 3) := by decide +kernel
theorem dX2_placeOf_25 : decode cX2_placeOf 25 = .ok (.aload_n 0, 1) := by decide +kernel
theorem dX2_placeOf_26 : decode cX2_placeOf 26 = .ok (.getfield 16, 3) := by decide +kernel
theorem dX2_placeOf_29 : decode cX2_placeOf 29 = .ok (.iload_n 3, 1) := by decide +kernel
theorem dX2_placeOf_30 : decode cX2_placeOf 30 = .ok (.invokevirtual 197, 3) := by decide +kernel
theorem dX2_placeOf_33 : decode cX2_placeOf 33 = .ok (.checkcast 68, 3) := by decide +kernel
theorem dX2_placeOf_36 : decode cX2_placeOf 36 = .ok (.astore 4, 2) := by decide +kernel
theorem dX2_placeOf_38 : decode cX2_placeOf 38 = .ok (.aload 4, 2) := by decide +kernel
theorem dX2_placeOf_40 : decode cX2_placeOf 40 = .ok (.aload_n 1, 1) := by decide +kernel
theorem dX2_placeOf_41 : decode cX2_placeOf 41 = .ok (.getfield 101, 3) := by decide +kernel
theorem dX2_placeOf_44 : decode cX2_placeOf 44 = .ok (.invokestatic 246, 3) := by decide +kernel
theorem dX2_placeOf_47 : decode cX2_placeOf 47 = .ok (.ifCond .eq 18, 3) := by decide +kernel
theorem dX2_placeOf_50 : decode cX2_placeOf 50 = .ok (.aload 4, 2) := by decide +kernel
theorem dX2_placeOf_52 : decode cX2_placeOf 52 = .ok (.getfield 243, 3) := by decide +kernel
theorem dX2_placeOf_55 : decode cX2_placeOf 55 = .ok (.aload_n 1, 1) := by decide +kernel
theorem dX2_placeOf_56 : decode cX2_placeOf 56 = .ok (.getfield 243, 3) := by decide +kernel
theorem dX2_placeOf_59 : decode cX2_placeOf 59 = .ok (.if_icmp .ge 6, 3) := by decide +kernel
theorem dX2_placeOf_62 : decode cX2_placeOf 62 = .ok (.iinc 2 1, 3) := by decide +kernel
theorem dX2_placeOf_65 : decode cX2_placeOf 65 = .ok (.iinc 3 1, 3) := by decide +kernel
theorem dX2_placeOf_68 : decode cX2_placeOf 68 = .ok (.goto (-54), 3) := by decide +kernel
theorem dX2_placeOf_71 : decode cX2_placeOf 71 = .ok (.iload_n 2, 1) := by decide +kernel
theorem dX2_placeOf_72 : decode cX2_placeOf 72 = .ok (.ireturn, 1) := by decide +kernel
theorem dX2_isIdle_0 : decode cX2_isIdle 0 = .ok (.aload_n 0, 1) := by decide +kernel
theorem dX2_isIdle_1 : decode cX2_isIdle 1 = .ok (.getfield 80, 3) := by decide +kernel
theorem dX2_isIdle_4 : decode cX2_isIdle 4 = .ok (.iconst 1, 1) := by decide +kernel
theorem dX2_isIdle_5 : decode cX2_isIdle 5 = .ok (.if_icmp .ne 14, 3) := by decide +kernel
theorem dX2_isIdle_8 : decode cX2_isIdle 8 = .ok (.aload_n 0, 1) := by decide +kernel
theorem dX2_isIdle_9 : decode cX2_isIdle 9 = .ok (.getfield 251, 3) := by decide +kernel
theorem dX2_isIdle_12 : decode cX2_isIdle 12 = .ok (.ifnonnull 7, 3) := by decide +kernel
theorem dX2_isIdle_15 : decode cX2_isIdle 15 = .ok (.iconst 1, 1) := by decide +kernel
theorem dX2_isIdle_16 : decode cX2_isIdle 16 = .ok (.goto 4, 3) := by decide +kernel
theorem dX2_isIdle_19 : decode cX2_isIdle 19 = .ok (.iconst 0, 1) := by decide +kernel
theorem dX2_isIdle_20 : decode cX2_isIdle 20 = .ok (.ireturn, 1) := by decide +kernel
theorem dX2_offeredTo_0 : decode cX2_offeredTo 0 = .ok (.aload_n 0, 1) := by decide +kernel
theorem dX2_offeredTo_1 : decode cX2_offeredTo 1 = .ok (.getfield 80, 3) := by decide +kernel
theorem dX2_offeredTo_4 : decode cX2_offeredTo 4 = .ok (.iconst 1, 1) := by decide +kernel
theorem dX2_offeredTo_5 : decode cX2_offeredTo 5 = .ok (.if_icmp .ne 10, 3) := by decide +kernel
theorem dX2_offeredTo_8 : decode cX2_offeredTo 8 = .ok (.aload_n 0, 1) := by decide +kernel
theorem dX2_offeredTo_9 : decode cX2_offeredTo 9 = .ok (.getfield 251, 3) := by decide +kernel
theorem dX2_offeredTo_12 : decode cX2_offeredTo 12 = .ok (.goto 4, 3) := by decide +kernel
theorem dX2_offeredTo_15 : decode cX2_offeredTo 15 = .ok (.aconst_null, 1) := by decide +kernel
theorem dX2_offeredTo_16 : decode cX2_offeredTo 16 = .ok (.areturn, 1) := by decide +kernel
set_option maxRecDepth 20000 in
theorem ggX2_makeOffers_Jx4a65c_size_8abf5 : GoodIn wsX2_makeOffers wsJx4a65c_size_8abf5 := goodIn_r _ [6, 7, 80, 81, 82] (by decide +kernel) (by decide +kernel)
set_option maxRecDepth 20000 in
theorem gX2_makeOffers_Jx4a65c_size_8abf5 : GoodIn wsX2_makeOffers (wsV RX2 59 RJx4a65c yJx4a65c_size_8abf5 wsJx4a65c_size_8abf5) := goodIn_app (goodIn_of _ (by decide +kernel)) ggX2_makeOffers_Jx4a65c_size_8abf5
set_option maxRecDepth 20000 in
theorem ggX2_makeOffers_X2_makeNextOffer : GoodIn wsX2_makeOffers wsX2_makeNextOffer := goodIn_r _ [12, 13, 14, 15, 16, 17, 18, 19, 20, 2, 3, 4, 5, 6, 7, 21, 22, 23, 24, 25, 26, 27, 28, 29, 30, 31, 32, 33, 34, 35, 36, 37, 38, 39, 40, 11, 41, 42, 43, 44, 45, 1, 46, 47, 48, 49, 50, 51, 52, 53, 54, 55, 56, 57, 58, 59, 60, 61, 62, 63, 64, 65, 66, 67, 68, 69, 70, 71, 72, 73, 74, 75, 76, 77, 78, 79, 83, 84, 85, 86, 87, 88, 89, 90, 91, 92, 93, 94, 95, 96, 97, 98, 99, 100, 101, 102, 103, 104, 105, 106, 80, 81, 82] (by decide +kernel) (by decide +kernel)
set_option maxRecDepth 20000 in
theorem gX2_makeOffers_X2_makeNextOffer : GoodIn wsX2_makeOffers (wsV RX2 255 RX2 yX2_makeNextOffer wsX2_makeNextOffer) := goodIn_app (goodIn_of _ (by decide +kernel)) ggX2_makeOffers_X2_makeNextOffer
theorem dX2_makeOffers_0 : decode cX2_makeOffers 0 = .ok (.iconst 1, 1) := by decide +kernel
theorem dX2_makeOffers_1 : decode cX2_makeOffers 1 = .ok (.istore_n 1, 1) := by decide +kernel
theorem dX2_makeOffers_2 : decode cX2_makeOffers 2 = .ok (.iconst 0, 1) := by decide +kernel
theorem dX2_makeOffers_3 : decode cX2_makeOffers 3 = .ok (.istore_n 2, 1) := by decide +kernel
theorem dX2_makeOffers_4 : decode cX2_makeOffers 4 = .ok (.iload_n 1, 1) := by decide +kernel
theorem dX2_makeOffers_5 : decode cX2_makeOffers 5 = .ok (.ifCond .eq 25, 3) := by decide +kernel
theorem dX2_makeOffers_8 : decode cX2_makeOffers 8 = .ok (.iload_n 2, 1) := by decide +kernel
theorem dX2_makeOffers_9 : decode cX2_makeOffers 9 = .ok (.aload_n 0, 1) := by decide +kernel
theorem dX2_makeOffers_10 : decode cX2_makeOffers 10 = .ok (.getfield 16, 3) := by decide +kernel
theorem dX2_makeOffers_13 : decode cX2_makeOffers 13 = .ok (.invokevirtual 59, 3) := by decide +kernel
theorem dX2_makeOffers_16 : decode cX2_makeOffers 16 = .ok (.if_icmp .ge 14, 3) := by decide +kernel
theorem dX2_makeOffers_19 : decode cX2_makeOffers 19 = .ok (.aload_n 0, 1) := by decide +kernel
theorem dX2_makeOffers_20 : decode cX2_makeOffers 20 = .ok (.invokevirtual 255, 3) := by decide +kernel
theorem dX2_makeOffers_23 : decode cX2_makeOffers 23 = .ok (.istore_n 1, 1) := by decide +kernel
theorem dX2_makeOffers_24 : decode cX2_makeOffers 24 = .ok (.iinc 2 1, 3) := by decide +kernel
theorem dX2_makeOffers_27 : decode cX2_makeOffers 27 = .ok (.goto (-23), 3) := by decide +kernel
theorem dX2_makeOffers_30 : decode cX2_makeOffers 30 = .ok (.return_, 1) := by decide +kernel
set_option maxRecDepth 20000 in
theorem ggX2_makeNextOffer_Jx4a65c_size_8abf5 : GoodIn wsX2_makeNextOffer wsJx4a65c_size_8abf5 := goodIn_r _ [13, 14, 100, 101, 102] (by decide +kernel) (by decide +kernel)
set_option maxRecDepth 20000 in
theorem gX2_makeNextOffer_Jx4a65c_size_8abf5 : GoodIn wsX2_makeNextOffer (wsV RX2 59 RJx4a65c yJx4a65c_size_8abf5 wsJx4a65c_size_8abf5) := goodIn_app (goodIn_of _ (by decide +kernel)) ggX2_makeNextOffer_Jx4a65c_size_8abf5
set_option maxRecDepth 20000 in
theorem ggX2_makeNextOffer_Jx4a65c_get_915e3 : GoodIn wsX2_makeNextOffer wsJx4a65c_get_915e3 := goodIn_r _ [18, 14, 19, 20, 21, 22, 23, 24, 25, 26, 27, 28, 29, 12, 30, 31, 100, 101, 102] (by decide +kernel) (by decide +kernel)
set_option maxRecDepth 20000 in
theorem gX2_makeNextOffer_Jx4a65c_get_915e3 : GoodIn wsX2_makeNextOffer (wsV RX2 197 RJx4a65c yJx4a65c_get_915e3 wsJx4a65c_get_915e3) := goodIn_app (goodIn_of _ (by decide +kernel)) ggX2_makeNextOffer_Jx4a65c_get_915e3
set_option maxRecDepth 20000 in
theorem ggX2_makeNextOffer_X2_isLookedAt : GoodIn wsX2_makeNextOffer wsX2_isLookedAt := goodIn_r _ [36, 4, 6, 3, 76, 77, 78, 79, 80, 81, 82, 83, 84, 85, 86, 87, 88, 89, 90, 69, 70, 71, 72, 73, 74, 75] (by decide +kernel) (by decide +kernel)
set_option maxRecDepth 20000 in
theorem gX2_makeNextOffer_X2_isLookedAt : GoodIn wsX2_makeNextOffer (wsV RX2 259 RX2 yX2_isLookedAt wsX2_isLookedAt) := goodIn_app (goodIn_of _ (by decide +kernel)) ggX2_makeNextOffer_X2_isLookedAt
set_option maxRecDepth 20000 in
theorem ggX2_makeNextOffer_X2_cabFor : GoodIn wsX2_makeNextOffer wsX2_cabFor := goodIn_r _ [40, 41, 42, 43, 44, 45, 9, 10, 11, 12, 13, 14, 15, 16, 17, 18, 19, 20, 21, 22, 23, 24, 25, 26, 27, 28, 29, 30, 31, 46, 47, 35, 48, 49, 50, 51, 52, 53, 54, 55, 8, 56, 57, 58, 59, 60, 61, 62, 63, 64, 65, 66, 67, 68, 69, 70, 71, 72, 73, 74, 75, 91, 92, 93, 94, 95, 96, 97, 98, 99, 76, 77, 78, 79, 80, 81, 82, 83, 84, 85, 86, 87, 88, 89, 90, 100, 101, 102] (by decide +kernel) (by decide +kernel)
set_option maxRecDepth 20000 in
theorem gX2_makeNextOffer_X2_cabFor : GoodIn wsX2_makeNextOffer (wsV RX2 263 RX2 yX2_cabFor wsX2_cabFor) := goodIn_app (goodIn_of _ (by decide +kernel)) ggX2_makeNextOffer_X2_cabFor
theorem dX2_makeNextOffer_0 : decode cX2_makeNextOffer 0 = .ok (.aconst_null, 1) := by decide +kernel
theorem dX2_makeNextOffer_1 : decode cX2_makeNextOffer 1 = .ok (.astore_n 1, 1) := by decide +kernel
theorem dX2_makeNextOffer_2 : decode cX2_makeNextOffer 2 = .ok (.aconst_null, 1) := by decide +kernel
theorem dX2_makeNextOffer_3 : decode cX2_makeNextOffer 3 = .ok (.astore_n 2, 1) := by decide +kernel
theorem dX2_makeNextOffer_4 : decode cX2_makeNextOffer 4 = .ok (.iconst 0, 1) := by decide +kernel
theorem dX2_makeNextOffer_5 : decode cX2_makeNextOffer 5 = .ok (.istore_n 3, 1) := by decide +kernel
theorem dX2_makeNextOffer_6 : decode cX2_makeNextOffer 6 = .ok (.iload_n 3, 1) := by decide +kernel
theorem dX2_makeNextOffer_7 : decode cX2_makeNextOffer 7 = .ok (.aload_n 0, 1) := by decide +kernel
theorem dX2_makeNextOffer_8 : decode cX2_makeNextOffer 8 = .ok (.getfield 20, 3) := by decide +kernel
theorem dX2_makeNextOffer_11 : decode cX2_makeNextOffer 11 = .ok (.invokevirtual 59, 3) := by decide +kernel
theorem dX2_makeNextOffer_14 : decode cX2_makeNextOffer 14 = .ok (.if_icmp .ge 66, 3) := by decide +kernel
theorem dX2_makeNextOffer_17 : decode cX2_makeNextOffer 17 = .ok (.aload_n 0, 1) := by decide +kernel
theorem dX2_makeNextOffer_18 : decode cX2_makeNextOffer 18 = .ok (.getfield 20, 3) := by decide +kernel
theorem dX2_makeNextOffer_21 : decode cX2_makeNextOffer 21 = .ok (.iload_n 3, 1) := by decide +kernel
theorem dX2_makeNextOffer_22 : decode cX2_makeNextOffer 22 = .ok (.invokevirtual 197, 3) := by decide +kernel
theorem dX2_makeNextOffer_25 : decode cX2_makeNextOffer 25 = .ok (.checkcast 127, 3) := by decide +kernel
theorem dX2_makeNextOffer_28 : decode cX2_makeNextOffer 28 = .ok (.astore 4, 2) := by decide +kernel
theorem dX2_makeNextOffer_30 : decode cX2_makeNextOffer 30 = .ok (.aload_n 0, 1) := by decide +kernel
theorem dX2_makeNextOffer_31 : decode cX2_makeNextOffer 31 = .ok (.aload 4, 2) := by decide +kernel
theorem dX2_makeNextOffer_33 : decode cX2_makeNextOffer 33 = .ok (.invokevirtual 259, 3) := by decide +kernel
theorem dX2_makeNextOffer_36 : decode cX2_makeNextOffer 36 = .ok (.ifCond .eq 38, 3) := by decide +kernel
theorem dX2_makeNextOffer_39 : decode cX2_makeNextOffer 39 = .ok (.aload_n 1, 1) := by decide +kernel
theorem dX2_makeNextOffer_40 : decode cX2_makeNextOffer 40 = .ok (.ifnull 15, 3) := by decide +kernel
theorem dX2_makeNextOffer_43 : decode cX2_makeNextOffer 43 = .ok (.aload 4, 2) := by decide +kernel
theorem dX2_makeNextOffer_45 : decode cX2_makeNextOffer 45 = .ok (.getfield 141, 3) := by decide +kernel
theorem dX2_makeNextOffer_48 : decode cX2_makeNextOffer 48 = .ok (.aload_n 1, 1) := by decide +kernel
theorem dX2_makeNextOffer_49 : decode cX2_makeNextOffer 49 = .ok (.getfield 141, 3) := by decide +kernel
theorem dX2_makeNextOffer_52 : decode cX2_makeNextOffer 52 = .ok (.if_icmp .ge 22, 3) := by decide +kernel
theorem dX2_makeNextOffer_55 : decode cX2_makeNextOffer 55 = .ok (.aload_n 0, 1) := by decide +kernel
theorem dX2_makeNextOffer_56 : decode cX2_makeNextOffer 56 = .ok (.aload 4, 2) := by decide +kernel
theorem dX2_makeNextOffer_58 : decode cX2_makeNextOffer 58 = .ok (.invokevirtual 263, 3) := by decide +kernel
theorem dX2_makeNextOffer_61 : decode cX2_makeNextOffer 61 = .ok (.astore 5, 2) := by decide +kernel
theorem dX2_makeNextOffer_63 : decode cX2_makeNextOffer 63 = .ok (.aload 5, 2) := by decide +kernel
theorem dX2_makeNextOffer_65 : decode cX2_makeNextOffer 65 = .ok (.ifnull 9, 3) := by decide +kernel
theorem dX2_makeNextOffer_68 : decode cX2_makeNextOffer 68 = .ok (.aload 4, 2) := by decide +kernel
theorem dX2_makeNextOffer_70 : decode cX2_makeNextOffer 70 = .ok (.astore_n 1, 1) := by decide +kernel
theorem dX2_makeNextOffer_71 : decode cX2_makeNextOffer 71 = .ok (.aload 5, 2) := by decide +kernel
theorem dX2_makeNextOffer_73 : decode cX2_makeNextOffer 73 = .ok (.astore_n 2, 1) := by decide +kernel
theorem dX2_makeNextOffer_74 : decode cX2_makeNextOffer 74 = .ok (.iinc 3 1, 3) := by decide +kernel
theorem dX2_makeNextOffer_77 : decode cX2_makeNextOffer 77 = .ok (.goto (-71), 3) := by decide +kernel
theorem dX2_makeNextOffer_80 : decode cX2_makeNextOffer 80 = .ok (.aload_n 1, 1) := by decide +kernel
theorem dX2_makeNextOffer_81 : decode cX2_makeNextOffer 81 = .ok (.ifnull 7, 3) := by decide +kernel
theorem dX2_makeNextOffer_84 : decode cX2_makeNextOffer 84 = .ok (.aload_n 2, 1) := by decide +kernel
theorem dX2_makeNextOffer_85 : decode cX2_makeNextOffer 85 = .ok (.ifnonnull 5, 3) := by decide +kernel
theorem dX2_makeNextOffer_88 : decode cX2_makeNextOffer 88 = .ok (.iconst 0, 1) := by decide +kernel
theorem dX2_makeNextOffer_89 : decode cX2_makeNextOffer 89 = .ok (.ireturn, 1) := by decide +kernel
theorem dX2_makeNextOffer_90 : decode cX2_makeNextOffer 90 = .ok (.aload_n 1, 1) := by decide +kernel
theorem dX2_makeNextOffer_91 : decode cX2_makeNextOffer 91 = .ok (.iconst 1, 1) := by decide +kernel
theorem dX2_makeNextOffer_92 : decode cX2_makeNextOffer 92 = .ok (.putfield 152, 3) := by decide +kernel
theorem dX2_makeNextOffer_95 : decode cX2_makeNextOffer 95 = .ok (.aload_n 1, 1) := by decide +kernel
theorem dX2_makeNextOffer_96 : decode cX2_makeNextOffer 96 = .ok (.aload_n 2, 1) := by decide +kernel
theorem dX2_makeNextOffer_97 : decode cX2_makeNextOffer 97 = .ok (.putfield 267, 3) := by decide +kernel
theorem dX2_makeNextOffer_100 : decode cX2_makeNextOffer 100 = .ok (.aload_n 1, 1) := by decide +kernel
theorem dX2_makeNextOffer_101 : decode cX2_makeNextOffer 101 = .ok (.aload_n 0, 1) := by decide +kernel
theorem dX2_makeNextOffer_102 : decode cX2_makeNextOffer 102 = .ok (.getfield 120, 3) := by decide +kernel
theorem dX2_makeNextOffer_105 : decode cX2_makeNextOffer 105 = .ok (.putfield 271, 3) := by decide +kernel
theorem dX2_makeNextOffer_108 : decode cX2_makeNextOffer 108 = .ok (.aload_n 2, 1) := by decide +kernel
theorem dX2_makeNextOffer_109 : decode cX2_makeNextOffer 109 = .ok (.aload_n 1, 1) := by decide +kernel
theorem dX2_makeNextOffer_110 : decode cX2_makeNextOffer 110 = .ok (.putfield 251, 3) := by decide +kernel
theorem dX2_makeNextOffer_113 : decode cX2_makeNextOffer 113 = .ok (.iconst 1, 1) := by decide +kernel
theorem dX2_makeNextOffer_114 : decode cX2_makeNextOffer 114 = .ok (.ireturn, 1) := by decide +kernel
theorem dX2_isLookedAt_0 : decode cX2_isLookedAt 0 = .ok (.aload_n 1, 1) := by decide +kernel
theorem dX2_isLookedAt_1 : decode cX2_isLookedAt 1 = .ok (.getfield 152, 3) := by decide +kernel
theorem dX2_isLookedAt_4 : decode cX2_isLookedAt 4 = .ok (.ifCond .ne 21, 3) := by decide +kernel
theorem dX2_isLookedAt_7 : decode cX2_isLookedAt 7 = .ok (.aload_n 0, 1) := by decide +kernel
theorem dX2_isLookedAt_8 : decode cX2_isLookedAt 8 = .ok (.getfield 120, 3) := by decide +kernel
theorem dX2_isLookedAt_11 : decode cX2_isLookedAt 11 = .ok (.aload_n 1, 1) := by decide +kernel
theorem dX2_isLookedAt_12 : decode cX2_isLookedAt 12 = .ok (.getfield 141, 3) := by decide +kernel
theorem dX2_isLookedAt_15 : decode cX2_isLookedAt 15 = .ok (.bipush 15, 2) := by decide +kernel
theorem dX2_isLookedAt_17 : decode cX2_isLookedAt 17 = .ok (.isub, 1) := by decide +kernel
theorem dX2_isLookedAt_18 : decode cX2_isLookedAt 18 = .ok (.if_icmp .lt 7, 3) := by decide +kernel
theorem dX2_isLookedAt_21 : decode cX2_isLookedAt 21 = .ok (.iconst 1, 1) := by decide +kernel
theorem dX2_isLookedAt_22 : decode cX2_isLookedAt 22 = .ok (.goto 4, 3) := by decide +kernel
theorem dX2_isLookedAt_25 : decode cX2_isLookedAt 25 = .ok (.iconst 0, 1) := by decide +kernel
theorem dX2_isLookedAt_26 : decode cX2_isLookedAt 26 = .ok (.ireturn, 1) := by decide +kernel
set_option maxRecDepth 20000 in
theorem ggX2_cabFor_Jx4a65c_size_8abf5 : GoodIn wsX2_cabFor wsJx4a65c_size_8abf5 := goodIn_r _ [10, 11, 85, 86, 87] (by decide +kernel) (by decide +kernel)
set_option maxRecDepth 20000 in
theorem gX2_cabFor_Jx4a65c_size_8abf5 : GoodIn wsX2_cabFor (wsV RX2 59 RJx4a65c yJx4a65c_size_8abf5 wsJx4a65c_size_8abf5) := goodIn_app (goodIn_of _ (by decide +kernel)) ggX2_cabFor_Jx4a65c_size_8abf5
set_option maxRecDepth 20000 in
theorem ggX2_cabFor_Jx4a65c_get_915e3 : GoodIn wsX2_cabFor wsJx4a65c_get_915e3 := goodIn_r _ [15, 11, 16, 17, 18, 19, 20, 21, 22, 23, 24, 25, 26, 9, 27, 28, 85, 86, 87] (by decide +kernel) (by decide +kernel)
set_option maxRecDepth 20000 in
theorem gX2_cabFor_Jx4a65c_get_915e3 : GoodIn wsX2_cabFor (wsV RX2 197 RJx4a65c yJx4a65c_get_915e3 wsJx4a65c_get_915e3) := goodIn_app (goodIn_of _ (by decide +kernel)) ggX2_cabFor_Jx4a65c_get_915e3
set_option maxRecDepth 20000 in
theorem ggX2_cabFor_X2_canBeOffered : GoodIn wsX2_cabFor wsX2_canBeOffered := goodIn_r _ [32, 33, 34, 35, 36, 37, 31, 38, 39, 40, 41, 42, 43, 44, 61, 62, 63, 64, 65, 66, 67, 68, 69, 70, 71, 72, 73, 74, 75, 76, 77, 78, 79, 80, 81, 82, 83, 84] (by decide +kernel) (by decide +kernel)
set_option maxRecDepth 20000 in
theorem gX2_cabFor_X2_canBeOffered : GoodIn wsX2_cabFor (va_wsS RX2 274 yX2_canBeOffered wsX2_canBeOffered) := goodIn_app (goodIn_of _ (by decide +kernel)) ggX2_cabFor_X2_canBeOffered
set_option maxRecDepth 20000 in
theorem ggX2_cabFor_X2_rankOfZone : GoodIn wsX2_cabFor wsX2_rankOfZone := goodIn_r _ [48, 49, 50, 51, 31, 52, 53, 54, 55, 56, 57, 58, 59, 60] (by decide +kernel) (by decide +kernel)
set_option maxRecDepth 20000 in
theorem gX2_cabFor_X2_rankOfZone : GoodIn wsX2_cabFor (wsV RX2 278 RX2 yX2_rankOfZone wsX2_rankOfZone) := goodIn_app (goodIn_of _ (by decide +kernel)) ggX2_cabFor_X2_rankOfZone
theorem dX2_cabFor_0 : decode cX2_cabFor 0 = .ok (.aconst_null, 1) := by decide +kernel
theorem dX2_cabFor_1 : decode cX2_cabFor 1 = .ok (.astore_n 2, 1) := by decide +kernel
theorem dX2_cabFor_2 : decode cX2_cabFor 2 = .ok (.iconst 0, 1) := by decide +kernel
theorem dX2_cabFor_3 : decode cX2_cabFor 3 = .ok (.istore_n 3, 1) := by decide +kernel
theorem dX2_cabFor_4 : decode cX2_cabFor 4 = .ok (.iconst 0, 1) := by decide +kernel
theorem dX2_cabFor_5 : decode cX2_cabFor 5 = .ok (.istore 4, 2) := by decide +kernel
theorem dX2_cabFor_7 : decode cX2_cabFor 7 = .ok (.iload 4, 2) := by decide +kernel
theorem dX2_cabFor_9 : decode cX2_cabFor 9 = .ok (.aload_n 0, 1) := by decide +kernel
theorem dX2_cabFor_10 : decode cX2_cabFor 10 = .ok (.getfield 16, 3) := by decide +kernel
theorem dX2_cabFor_13 : decode cX2_cabFor 13 = .ok (.invokevirtual 59, 3) := by decide +kernel
theorem dX2_cabFor_16 : decode cX2_cabFor 16 = .ok (.if_icmp .ge 81, 3) := by decide +kernel
theorem dX2_cabFor_19 : decode cX2_cabFor 19 = .ok (.aload_n 0, 1) := by decide +kernel
theorem dX2_cabFor_20 : decode cX2_cabFor 20 = .ok (.getfield 16, 3) := by decide +kernel
theorem dX2_cabFor_23 : decode cX2_cabFor 23 = .ok (.iload 4, 2) := by decide +kernel
theorem dX2_cabFor_25 : decode cX2_cabFor 25 = .ok (.invokevirtual 197, 3) := by decide +kernel
theorem dX2_cabFor_28 : decode cX2_cabFor 28 = .ok (.checkcast 68, 3) := by decide +kernel
theorem dX2_cabFor_31 : decode cX2_cabFor 31 = .ok (.astore 5, 2) := by decide +kernel
theorem dX2_cabFor_33 : decode cX2_cabFor 33 = .ok (.aload_n 1, 1) := by decide +kernel
theorem dX2_cabFor_34 : decode cX2_cabFor 34 = .ok (.aload 5, 2) := by decide +kernel
theorem dX2_cabFor_36 : decode cX2_cabFor 36 = .ok (.invokestatic 274, 3) := by decide +kernel
theorem dX2_cabFor_39 : decode cX2_cabFor 39 = .ok (.ifCond .eq 52, 3) := by decide +kernel
theorem dX2_cabFor_42 : decode cX2_cabFor 42 = .ok (.aload_n 0, 1) := by decide +kernel
theorem dX2_cabFor_43 : decode cX2_cabFor 43 = .ok (.aload 5, 2) := by decide +kernel
theorem dX2_cabFor_45 : decode cX2_cabFor 45 = .ok (.getfield 101, 3) := by decide +kernel
theorem dX2_cabFor_48 : decode cX2_cabFor 48 = .ok (.aload_n 1, 1) := by decide +kernel
theorem dX2_cabFor_49 : decode cX2_cabFor 49 = .ok (.getfield 138, 3) := by decide +kernel
theorem dX2_cabFor_52 : decode cX2_cabFor 52 = .ok (.invokevirtual 278, 3) := by decide +kernel
theorem dX2_cabFor_55 : decode cX2_cabFor 55 = .ok (.istore 6, 2) := by decide +kernel
theorem dX2_cabFor_57 : decode cX2_cabFor 57 = .ok (.aload_n 2, 1) := by decide +kernel
theorem dX2_cabFor_58 : decode cX2_cabFor 58 = .ok (.ifnull 27, 3) := by decide +kernel
theorem dX2_cabFor_61 : decode cX2_cabFor 61 = .ok (.iload 6, 2) := by decide +kernel
theorem dX2_cabFor_63 : decode cX2_cabFor 63 = .ok (.iload_n 3, 1) := by decide +kernel
theorem dX2_cabFor_64 : decode cX2_cabFor 64 = .ok (.if_icmp .lt 21, 3) := by decide +kernel
theorem dX2_cabFor_67 : decode cX2_cabFor 67 = .ok (.iload 6, 2) := by decide +kernel
theorem dX2_cabFor_69 : decode cX2_cabFor 69 = .ok (.iload_n 3, 1) := by decide +kernel
theorem dX2_cabFor_70 : decode cX2_cabFor 70 = .ok (.if_icmp .ne 21, 3) := by decide +kernel
theorem dX2_cabFor_73 : decode cX2_cabFor 73 = .ok (.aload 5, 2) := by decide +kernel
theorem dX2_cabFor_75 : decode cX2_cabFor 75 = .ok (.getfield 243, 3) := by decide +kernel
theorem dX2_cabFor_78 : decode cX2_cabFor 78 = .ok (.aload_n 2, 1) := by decide +kernel
theorem dX2_cabFor_79 : decode cX2_cabFor 79 = .ok (.getfield 243, 3) := by decide +kernel
theorem dX2_cabFor_82 : decode cX2_cabFor 82 = .ok (.if_icmp .ge 9, 3) := by decide +kernel
theorem dX2_cabFor_85 : decode cX2_cabFor 85 = .ok (.aload 5, 2) := by decide +kernel
theorem dX2_cabFor_87 : decode cX2_cabFor 87 = .ok (.astore_n 2, 1) := by decide +kernel
theorem dX2_cabFor_88 : decode cX2_cabFor 88 = .ok (.iload 6, 2) := by decide +kernel
theorem dX2_cabFor_90 : decode cX2_cabFor 90 = .ok (.istore_n 3, 1) := by decide +kernel
theorem dX2_cabFor_91 : decode cX2_cabFor 91 = .ok (.iinc 4 1, 3) := by decide +kernel
theorem dX2_cabFor_94 : decode cX2_cabFor 94 = .ok (.goto (-87), 3) := by decide +kernel
theorem dX2_cabFor_97 : decode cX2_cabFor 97 = .ok (.aload_n 2, 1) := by decide +kernel
theorem dX2_cabFor_98 : decode cX2_cabFor 98 = .ok (.areturn, 1) := by decide +kernel
set_option maxRecDepth 20000 in
theorem ggX2_rankOfZone_X2_wayBetween : GoodIn wsX2_rankOfZone wsX2_wayBetween := goodIn_r _ [5, 6, 7, 8, 9, 10, 11, 12, 13] (by decide +kernel) (by decide +kernel)
set_option maxRecDepth 20000 in
theorem gX2_rankOfZone_X2_wayBetween : GoodIn wsX2_rankOfZone (wsV RX2 43 RX2 yX2_wayBetween wsX2_wayBetween) := goodIn_app (goodIn_of _ (by decide +kernel)) ggX2_rankOfZone_X2_wayBetween
theorem dX2_rankOfZone_0 : decode cX2_rankOfZone 0 = .ok (.iload_n 1, 1) := by decide +kernel
theorem dX2_rankOfZone_1 : decode cX2_rankOfZone 1 = .ok (.iload_n 2, 1) := by decide +kernel
theorem dX2_rankOfZone_2 : decode cX2_rankOfZone 2 = .ok (.if_icmp .ne 7, 3) := by decide +kernel
theorem dX2_rankOfZone_5 : decode cX2_rankOfZone 5 = .ok (.iconst 0, 1) := by decide +kernel
theorem dX2_rankOfZone_6 : decode cX2_rankOfZone 6 = .ok (.goto 14, 3) := by decide +kernel
theorem dX2_rankOfZone_9 : decode cX2_rankOfZone 9 = .ok (.aload_n 0, 1) := by decide +kernel
theorem dX2_rankOfZone_10 : decode cX2_rankOfZone 10 = .ok (.iload_n 1, 1) := by decide +kernel
theorem dX2_rankOfZone_11 : decode cX2_rankOfZone 11 = .ok (.iload_n 2, 1) := by decide +kernel
theorem dX2_rankOfZone_12 : decode cX2_rankOfZone 12 = .ok (.invokevirtual 43, 3) := by decide +kernel
theorem dX2_rankOfZone_15 : decode cX2_rankOfZone 15 = .ok (.bipush 6, 2) := by decide +kernel
theorem dX2_rankOfZone_17 : decode cX2_rankOfZone 17 = .ok (.imul, 1) := by decide +kernel
theorem dX2_rankOfZone_18 : decode cX2_rankOfZone 18 = .ok (.iload_n 1, 1) := by decide +kernel
theorem dX2_rankOfZone_19 : decode cX2_rankOfZone 19 = .ok (.iadd, 1) := by decide +kernel
theorem dX2_rankOfZone_20 : decode cX2_rankOfZone 20 = .ok (.ireturn, 1) := by decide +kernel
set_option maxRecDepth 20000 in
theorem ggX2_canBeOffered_X2_isIdle : GoodIn wsX2_canBeOffered wsX2_isIdle := goodIn_r _ [7, 8, 9, 14, 15, 16, 17, 18, 19, 20, 21, 22] (by decide +kernel) (by decide +kernel)
set_option maxRecDepth 20000 in
theorem gX2_canBeOffered_X2_isIdle : GoodIn wsX2_canBeOffered (va_wsS RX2 204 yX2_isIdle wsX2_isIdle) := goodIn_app (goodIn_of _ (by decide +kernel)) ggX2_canBeOffered_X2_isIdle
set_option maxRecDepth 20000 in
theorem ggX2_canBeOffered_X2_refuserBit : GoodIn wsX2_canBeOffered wsX2_refuserBit := goodIn_r _ [12, 13, 14, 15, 16, 17, 18, 19, 20, 21, 22] (by decide +kernel) (by decide +kernel)
set_option maxRecDepth 20000 in
theorem gX2_canBeOffered_X2_refuserBit : GoodIn wsX2_canBeOffered (va_wsS RX2 287 yX2_refuserBit wsX2_refuserBit) := goodIn_app (goodIn_of _ (by decide +kernel)) ggX2_canBeOffered_X2_refuserBit
theorem dX2_canBeOffered_0 : decode cX2_canBeOffered 0 = .ok (.aload_n 1, 1) := by decide +kernel
theorem dX2_canBeOffered_1 : decode cX2_canBeOffered 1 = .ok (.invokestatic 204, 3) := by decide +kernel
theorem dX2_canBeOffered_4 : decode cX2_canBeOffered 4 = .ok (.ifCond .eq 30, 3) := by decide +kernel
theorem dX2_canBeOffered_7 : decode cX2_canBeOffered 7 = .ok (.aload_n 1, 1) := by decide +kernel
theorem dX2_canBeOffered_8 : decode cX2_canBeOffered 8 = .ok (.getfield 208, 3) := by decide +kernel
theorem dX2_canBeOffered_11 : decode cX2_canBeOffered 11 = .ok (.aload_n 0, 1) := by decide +kernel
theorem dX2_canBeOffered_12 : decode cX2_canBeOffered 12 = .ok (.getfield 281, 3) := by decide +kernel
theorem dX2_canBeOffered_15 : decode cX2_canBeOffered 15 = .ok (.if_icmp .lt 19, 3) := by decide +kernel
theorem dX2_canBeOffered_18 : decode cX2_canBeOffered 18 = .ok (.aload_n 0, 1) := by decide +kernel
theorem dX2_canBeOffered_19 : decode cX2_canBeOffered 19 = .ok (.getfield 284, 3) := by decide +kernel
theorem dX2_canBeOffered_22 : decode cX2_canBeOffered 22 = .ok (.aload_n 1, 1) := by decide +kernel
theorem dX2_canBeOffered_23 : decode cX2_canBeOffered 23 = .ok (.invokestatic 287, 3) := by decide +kernel
theorem dX2_canBeOffered_26 : decode cX2_canBeOffered 26 = .ok (.iand, 1) := by decide +kernel
theorem dX2_canBeOffered_27 : decode cX2_canBeOffered 27 = .ok (.ifCond .ne 7, 3) := by decide +kernel
theorem dX2_canBeOffered_30 : decode cX2_canBeOffered 30 = .ok (.iconst 1, 1) := by decide +kernel
theorem dX2_canBeOffered_31 : decode cX2_canBeOffered 31 = .ok (.goto 4, 3) := by decide +kernel
theorem dX2_canBeOffered_34 : decode cX2_canBeOffered 34 = .ok (.iconst 0, 1) := by decide +kernel
theorem dX2_canBeOffered_35 : decode cX2_canBeOffered 35 = .ok (.ireturn, 1) := by decide +kernel
theorem dX2_refuserBit_0 : decode cX2_refuserBit 0 = .ok (.iconst 1, 1) := by decide +kernel
theorem dX2_refuserBit_1 : decode cX2_refuserBit 1 = .ok (.aload_n 0, 1) := by decide +kernel
theorem dX2_refuserBit_2 : decode cX2_refuserBit 2 = .ok (.getfield 250, 3) := by decide +kernel
theorem dX2_refuserBit_5 : decode cX2_refuserBit 5 = .ok (.ishl, 1) := by decide +kernel
theorem dX2_refuserBit_6 : decode cX2_refuserBit 6 = .ok (.ireturn, 1) := by decide +kernel
set_option maxRecDepth 20000 in
theorem ggX2_turnDown_X2_offeredTo : GoodIn wsX2_turnDown wsX2_offeredTo := goodIn_r _ [8, 9, 4, 35, 36, 37, 38, 39, 40, 41, 42, 43] (by decide +kernel) (by decide +kernel)
set_option maxRecDepth 20000 in
theorem gX2_turnDown_X2_offeredTo : GoodIn wsX2_turnDown (va_wsS RX2 132 yX2_offeredTo wsX2_offeredTo) := goodIn_app (goodIn_of _ (by decide +kernel)) ggX2_turnDown_X2_offeredTo
set_option maxRecDepth 20000 in
theorem ggX2_turnDown_X2_refuserBit : GoodIn wsX2_turnDown wsX2_refuserBit := goodIn_r _ [12, 13, 35, 36, 37, 38, 39, 40, 41, 42, 43] (by decide +kernel) (by decide +kernel)
set_option maxRecDepth 20000 in
theorem gX2_turnDown_X2_refuserBit : GoodIn wsX2_turnDown (va_wsS RX2 287 yX2_refuserBit wsX2_refuserBit) := goodIn_app (goodIn_of _ (by decide +kernel)) ggX2_turnDown_X2_refuserBit
set_option maxRecDepth 20000 in
theorem ggX2_turnDown_X2_joinQueue : GoodIn wsX2_turnDown wsX2_joinQueue := goodIn_r _ [17, 9, 18, 19, 35, 36, 37, 38, 39, 40, 41, 42, 43, 44, 45, 46, 47, 48, 49, 50] (by decide +kernel) (by decide +kernel)
set_option maxRecDepth 20000 in
theorem gX2_turnDown_X2_joinQueue : GoodIn wsX2_turnDown (wsV RX2 85 RX2 yX2_joinQueue wsX2_joinQueue) := goodIn_app (goodIn_of _ (by decide +kernel)) ggX2_turnDown_X2_joinQueue
theorem dX2_turnDown_0 : decode cX2_turnDown 0 = .ok (.aload_n 1, 1) := by decide +kernel
theorem dX2_turnDown_1 : decode cX2_turnDown 1 = .ok (.invokestatic 132, 3) := by decide +kernel
theorem dX2_turnDown_4 : decode cX2_turnDown 4 = .ok (.astore_n 2, 1) := by decide +kernel
theorem dX2_turnDown_5 : decode cX2_turnDown 5 = .ok (.aload_n 2, 1) := by decide +kernel
theorem dX2_turnDown_6 : decode cX2_turnDown 6 = .ok (.ifnonnull 4, 3) := by decide +kernel
theorem dX2_turnDown_9 : decode cX2_turnDown 9 = .ok (.return_, 1) := by decide +kernel
theorem dX2_turnDown_10 : decode cX2_turnDown 10 = .ok (.aload_n 2, 1) := by decide +kernel
theorem dX2_turnDown_11 : decode cX2_turnDown 11 = .ok (.dup, 1) := by decide +kernel
theorem dX2_turnDown_12 : decode cX2_turnDown 12 = .ok (.getfield 284, 3) := by decide +kernel
theorem dX2_turnDown_15 : decode cX2_turnDown 15 = .ok (.aload_n 1, 1) := by decide +kernel
theorem dX2_turnDown_16 : decode cX2_turnDown 16 = .ok (.invokestatic 287, 3) := by decide +kernel
theorem dX2_turnDown_19 : decode cX2_turnDown 19 = .ok (.ior, 1) := by decide +kernel
theorem dX2_turnDown_20 : decode cX2_turnDown 20 = .ok (.putfield 284, 3) := by decide +kernel
theorem dX2_turnDown_23 : decode cX2_turnDown 23 = .ok (.aload_n 2, 1) := by decide +kernel
theorem dX2_turnDown_24 : decode cX2_turnDown 24 = .ok (.iconst 0, 1) := by decide +kernel
theorem dX2_turnDown_25 : decode cX2_turnDown 25 = .ok (.putfield 152, 3) := by decide +kernel
theorem dX2_turnDown_28 : decode cX2_turnDown 28 = .ok (.aload_n 2, 1) := by decide +kernel
theorem dX2_turnDown_29 : decode cX2_turnDown 29 = .ok (.aconst_null, 1) := by decide +kernel
theorem dX2_turnDown_30 : decode cX2_turnDown 30 = .ok (.putfield 267, 3) := by decide +kernel
theorem dX2_turnDown_33 : decode cX2_turnDown 33 = .ok (.aload_n 1, 1) := by decide +kernel
theorem dX2_turnDown_34 : decode cX2_turnDown 34 = .ok (.aconst_null, 1) := by decide +kernel
theorem dX2_turnDown_35 : decode cX2_turnDown 35 = .ok (.putfield 251, 3) := by decide +kernel
theorem dX2_turnDown_38 : decode cX2_turnDown 38 = .ok (.aload_n 0, 1) := by decide +kernel
theorem dX2_turnDown_39 : decode cX2_turnDown 39 = .ok (.aload_n 1, 1) := by decide +kernel
theorem dX2_turnDown_40 : decode cX2_turnDown 40 = .ok (.invokevirtual 85, 3) := by decide +kernel
theorem dX2_turnDown_43 : decode cX2_turnDown 43 = .ok (.return_, 1) := by decide +kernel
set_option maxRecDepth 20000 in
theorem ggX2_releaseCab_X2_joinQueue : GoodIn wsX2_releaseCab wsX2_joinQueue := goodIn_r _ [8, 3, 9, 10, 26, 27, 28, 29, 30, 31, 32, 33, 34, 35, 36, 37, 38, 39, 40, 41] (by decide +kernel) (by decide +kernel)
set_option maxRecDepth 20000 in
theorem gX2_releaseCab_X2_joinQueue : GoodIn wsX2_releaseCab (wsV RX2 85 RX2 yX2_joinQueue wsX2_joinQueue) := goodIn_app (goodIn_of _ (by decide +kernel)) ggX2_releaseCab_X2_joinQueue
theorem dX2_releaseCab_0 : decode cX2_releaseCab 0 = .ok (.aload_n 1, 1) := by decide +kernel
theorem dX2_releaseCab_1 : decode cX2_releaseCab 1 = .ok (.getfield 267, 3) := by decide +kernel
theorem dX2_releaseCab_4 : decode cX2_releaseCab 4 = .ok (.astore_n 2, 1) := by decide +kernel
theorem dX2_releaseCab_5 : decode cX2_releaseCab 5 = .ok (.aload_n 2, 1) := by decide +kernel
theorem dX2_releaseCab_6 : decode cX2_releaseCab 6 = .ok (.ifnonnull 4, 3) := by decide +kernel
theorem dX2_releaseCab_9 : decode cX2_releaseCab 9 = .ok (.return_, 1) := by decide +kernel
theorem dX2_releaseCab_10 : decode cX2_releaseCab 10 = .ok (.aload_n 1, 1) := by decide +kernel
theorem dX2_releaseCab_11 : decode cX2_releaseCab 11 = .ok (.aconst_null, 1) := by decide +kernel
theorem dX2_releaseCab_12 : decode cX2_releaseCab 12 = .ok (.putfield 267, 3) := by decide +kernel
theorem dX2_releaseCab_15 : decode cX2_releaseCab 15 = .ok (.aload_n 2, 1) := by decide +kernel
theorem dX2_releaseCab_16 : decode cX2_releaseCab 16 = .ok (.aconst_null, 1) := by decide +kernel
theorem dX2_releaseCab_17 : decode cX2_releaseCab 17 = .ok (.putfield 251, 3) := by decide +kernel
theorem dX2_releaseCab_20 : decode cX2_releaseCab 20 = .ok (.aload_n 2, 1) := by decide +kernel
theorem dX2_releaseCab_21 : decode cX2_releaseCab 21 = .ok (.getfield 80, 3) := by decide +kernel
theorem dX2_releaseCab_24 : decode cX2_releaseCab 24 = .ok (.iconst 2, 1) := by decide +kernel
theorem dX2_releaseCab_25 : decode cX2_releaseCab 25 = .ok (.if_icmp .ne 8, 3) := by decide +kernel
theorem dX2_releaseCab_28 : decode cX2_releaseCab 28 = .ok (.aload_n 0, 1) := by decide +kernel
theorem dX2_releaseCab_29 : decode cX2_releaseCab 29 = .ok (.aload_n 2, 1) := by decide +kernel
theorem dX2_releaseCab_30 : decode cX2_releaseCab 30 = .ok (.invokevirtual 85, 3) := by decide +kernel
theorem dX2_releaseCab_33 : decode cX2_releaseCab 33 = .ok (.return_, 1) := by decide +kernel
set_option maxRecDepth 20000 in
theorem ggX2_passMinute_X2_refuseOldOffers : GoodIn wsX2_passMinute wsX2_refuseOldOffers := goodIn_r _ [6, 7, 8, 1, 9, 10, 11, 12, 13, 14, 15, 16, 17, 18, 19, 20, 21, 22, 23, 24, 25, 26, 27, 28, 29, 30, 31, 32, 33, 34, 5, 35, 36, 37, 38, 39, 40, 41, 42, 43, 44, 45, 46, 47, 48, 49, 50, 51, 52, 53, 54, 128, 129, 130, 131, 132, 133, 134, 135, 136, 137, 138, 139, 140, 141, 142, 143, 144, 145, 146, 147, 148, 149, 150, 151, 152, 153, 154, 155, 156, 157, 158, 159, 160, 161] (by decide +kernel) (by decide +kernel)
set_option maxRecDepth 20000 in
theorem gX2_passMinute_X2_refuseOldOffers : GoodIn wsX2_passMinute (wsV RX2 290 RX2 yX2_refuseOldOffers wsX2_refuseOldOffers) := goodIn_app (goodIn_of _ (by decide +kernel)) ggX2_passMinute_X2_refuseOldOffers
set_option maxRecDepth 20000 in
theorem ggX2_passMinute_X2_bringCabsOn : GoodIn wsX2_passMinute wsX2_bringCabsOn := goodIn_r _ [58, 7, 8, 37, 1, 59, 36, 10, 11, 12, 13, 14, 15, 16, 17, 18, 19, 20, 21, 22, 23, 24, 25, 26, 27, 28, 29, 30, 31, 32, 60, 61, 62, 5, 63, 64, 65, 66, 43, 67, 68, 69, 70, 71, 72, 73, 74, 75, 76, 77, 78, 79, 80, 81, 82, 83, 84, 85, 86, 87, 88, 89, 90, 91, 92, 93, 94, 95, 96, 97, 49, 50, 51, 52, 53, 54, 128, 129, 130, 131, 132, 133, 134, 153, 154, 155, 156, 157, 158, 159, 160, 161, 150, 151, 152, 135, 136, 137, 138, 139, 140, 141, 142, 143, 144, 145, 146, 147, 148, 149] (by decide +kernel) (by decide +kernel)
set_option maxRecDepth 20000 in
theorem gX2_passMinute_X2_bringCabsOn : GoodIn wsX2_passMinute (wsV RX2 293 RX2 yX2_bringCabsOn wsX2_bringCabsOn) := goodIn_app (goodIn_of _ (by decide +kernel)) ggX2_passMinute_X2_bringCabsOn
set_option maxRecDepth 20000 in
theorem ggX2_passMinute_X2_makeOffers : GoodIn wsX2_passMinute wsX2_makeOffers := goodIn_r _ [101, 7, 10, 11, 12, 13, 14, 15, 102, 103, 104, 5, 105, 106, 107, 81, 43, 44, 1, 9, 37, 16, 17, 18, 19, 20, 21, 22, 23, 24, 25, 26, 27, 28, 29, 30, 31, 32, 108, 109, 110, 111, 112, 113, 114, 115, 8, 66, 64, 54, 116, 117, 118, 119, 120, 42, 121, 122, 123, 36, 45, 46, 47, 48, 124, 125, 126, 127, 68, 69, 70, 71, 72, 128, 129, 130, 131, 132, 133, 134, 150, 151, 152, 135, 136, 137, 138, 139, 140, 141, 142, 143, 144, 145, 146, 147, 148, 149, 153, 154, 155, 156, 157, 158, 159, 160, 161] (by decide +kernel) (by decide +kernel)
set_option maxRecDepth 20000 in
theorem gX2_passMinute_X2_makeOffers : GoodIn wsX2_passMinute (wsV RX2 89 RX2 yX2_makeOffers wsX2_makeOffers) := goodIn_app (goodIn_of _ (by decide +kernel)) ggX2_passMinute_X2_makeOffers
theorem dX2_passMinute_0 : decode cX2_passMinute 0 = .ok (.aload_n 0, 1) := by decide +kernel
theorem dX2_passMinute_1 : decode cX2_passMinute 1 = .ok (.dup, 1) := by decide +kernel
theorem dX2_passMinute_2 : decode cX2_passMinute 2 = .ok (.getfield 120, 3) := by decide +kernel
theorem dX2_passMinute_5 : decode cX2_passMinute 5 = .ok (.iconst 1, 1) := by decide +kernel
theorem dX2_passMinute_6 : decode cX2_passMinute 6 = .ok (.iadd, 1) := by decide +kernel
theorem dX2_passMinute_7 : decode cX2_passMinute 7 = .ok (.putfield 120, 3) := by decide +kernel
theorem dX2_passMinute_10 : decode cX2_passMinute 10 = .ok (.aload_n 0, 1) := by decide +kernel
theorem dX2_passMinute_11 : decode cX2_passMinute 11 = .ok (.invokevirtual 290, 3) := by decide +kernel
theorem dX2_passMinute_14 : decode cX2_passMinute 14 = .ok (.aload_n 0, 1) := by decide +kernel
theorem dX2_passMinute_15 : decode cX2_passMinute 15 = .ok (.invokevirtual 293, 3) := by decide +kernel
theorem dX2_passMinute_18 : decode cX2_passMinute 18 = .ok (.istore_n 1, 1) := by decide +kernel
theorem dX2_passMinute_19 : decode cX2_passMinute 19 = .ok (.aload_n 0, 1) := by decide +kernel
theorem dX2_passMinute_20 : decode cX2_passMinute 20 = .ok (.invokevirtual 89, 3) := by decide +kernel
theorem dX2_passMinute_23 : decode cX2_passMinute 23 = .ok (.iload_n 1, 1) := by decide +kernel
theorem dX2_passMinute_24 : decode cX2_passMinute 24 = .ok (.ireturn, 1) := by decide +kernel
set_option maxRecDepth 20000 in
theorem ggX2_refuseOldOffers_Jx4a65c_size_8abf5 : GoodIn wsX2_refuseOldOffers wsJx4a65c_size_8abf5 := goodIn_r _ [9, 10, 73, 74, 75] (by decide +kernel) (by decide +kernel)
set_option maxRecDepth 20000 in
theorem gX2_refuseOldOffers_Jx4a65c_size_8abf5 : GoodIn wsX2_refuseOldOffers (wsV RX2 59 RJx4a65c yJx4a65c_size_8abf5 wsJx4a65c_size_8abf5) := goodIn_app (goodIn_of _ (by decide +kernel)) ggX2_refuseOldOffers_Jx4a65c_size_8abf5
set_option maxRecDepth 20000 in
theorem ggX2_refuseOldOffers_Jx4a65c_get_915e3 : GoodIn wsX2_refuseOldOffers wsJx4a65c_get_915e3 := goodIn_r _ [14, 10, 15, 16, 17, 18, 19, 20, 21, 22, 23, 24, 25, 8, 26, 27, 73, 74, 75] (by decide +kernel) (by decide +kernel)
set_option maxRecDepth 20000 in
theorem gX2_refuseOldOffers_Jx4a65c_get_915e3 : GoodIn wsX2_refuseOldOffers (wsV RX2 197 RJx4a65c yJx4a65c_get_915e3 wsJx4a65c_get_915e3) := goodIn_app (goodIn_of _ (by decide +kernel)) ggX2_refuseOldOffers_Jx4a65c_get_915e3
set_option maxRecDepth 20000 in
theorem ggX2_refuseOldOffers_X2_offeredTo : GoodIn wsX2_refuseOldOffers wsX2_offeredTo := goodIn_r _ [31, 32, 33, 76, 77, 78, 79, 80, 81, 82, 83, 84] (by decide +kernel) (by decide +kernel)
set_option maxRecDepth 20000 in
theorem gX2_refuseOldOffers_X2_offeredTo : GoodIn wsX2_refuseOldOffers (va_wsS RX2 132 yX2_offeredTo wsX2_offeredTo) := goodIn_app (goodIn_of _ (by decide +kernel)) ggX2_refuseOldOffers_X2_offeredTo
set_option maxRecDepth 20000 in
theorem ggX2_refuseOldOffers_X2_turnDown : GoodIn wsX2_refuseOldOffers wsX2_turnDown := goodIn_r _ [37, 38, 39, 40, 33, 28, 29, 30, 31, 32, 41, 42, 43, 44, 45, 46, 47, 48, 49, 50, 58, 59, 60, 61, 62, 63, 64, 65, 66, 67, 68, 69, 70, 71, 72, 76, 77, 78, 79, 80, 81, 82, 83, 84, 51, 52, 53, 54, 55, 56, 57] (by decide +kernel) (by decide +kernel)
set_option maxRecDepth 20000 in
theorem gX2_refuseOldOffers_X2_turnDown : GoodIn wsX2_refuseOldOffers (wsV RX2 98 RX2 yX2_turnDown wsX2_turnDown) := goodIn_app (goodIn_of _ (by decide +kernel)) ggX2_refuseOldOffers_X2_turnDown
theorem dX2_refuseOldOffers_0 : decode cX2_refuseOldOffers 0 = .ok (.iconst 0, 1) := by decide +kernel
theorem dX2_refuseOldOffers_1 : decode cX2_refuseOldOffers 1 = .ok (.istore_n 1, 1) := by decide +kernel
theorem dX2_refuseOldOffers_2 : decode cX2_refuseOldOffers 2 = .ok (.iload_n 1, 1) := by decide +kernel
theorem dX2_refuseOldOffers_3 : decode cX2_refuseOldOffers 3 = .ok (.aload_n 0, 1) := by decide +kernel
theorem dX2_refuseOldOffers_4 : decode cX2_refuseOldOffers 4 = .ok (.getfield 16, 3) := by decide +kernel
theorem dX2_refuseOldOffers_7 : decode cX2_refuseOldOffers 7 = .ok (.invokevirtual 59, 3) := by decide +kernel
theorem dX2_refuseOldOffers_10 : decode cX2_refuseOldOffers 10 = .ok (.if_icmp .ge 48, 3) := by decide +kernel
theorem dX2_refuseOldOffers_13 : decode cX2_refuseOldOffers 13 = .ok (.aload_n 0, 1) := by decide +kernel
theorem dX2_refuseOldOffers_14 : decode cX2_refuseOldOffers 14 = .ok (.getfield 16, 3) := by decide +kernel
theorem dX2_refuseOldOffers_17 : decode cX2_refuseOldOffers 17 = .ok (.iload_n 1, 1) := by decide +kernel
theorem dX2_refuseOldOffers_18 : decode cX2_refuseOldOffers 18 = .ok (.invokevirtual 197, 3) := by decide +kernel
theorem dX2_refuseOldOffers_21 : decode cX2_refuseOldOffers 21 = .ok (.checkcast 68, 3) := by decide +kernel
theorem dX2_refuseOldOffers_24 : decode cX2_refuseOldOffers 24 = .ok (.astore_n 2, 1) := by decide +kernel
theorem dX2_refuseOldOffers_25 : decode cX2_refuseOldOffers 25 = .ok (.aload_n 2, 1) := by decide +kernel
theorem dX2_refuseOldOffers_26 : decode cX2_refuseOldOffers 26 = .ok (.invokestatic 132, 3) := by decide +kernel
theorem dX2_refuseOldOffers_29 : decode cX2_refuseOldOffers 29 = .ok (.astore_n 3, 1) := by decide +kernel
theorem dX2_refuseOldOffers_30 : decode cX2_refuseOldOffers 30 = .ok (.aload_n 3, 1) := by decide +kernel
theorem dX2_refuseOldOffers_31 : decode cX2_refuseOldOffers 31 = .ok (.ifnull 21, 3) := by decide +kernel
theorem dX2_refuseOldOffers_34 : decode cX2_refuseOldOffers 34 = .ok (.aload_n 0, 1) := by decide +kernel
theorem dX2_refuseOldOffers_35 : decode cX2_refuseOldOffers 35 = .ok (.getfield 120, 3) := by decide +kernel
theorem dX2_refuseOldOffers_38 : decode cX2_refuseOldOffers 38 = .ok (.aload_n 3, 1) := by decide +kernel
theorem dX2_refuseOldOffers_39 : decode cX2_refuseOldOffers 39 = .ok (.getfield 271, 3) := by decide +kernel
theorem dX2_refuseOldOffers_42 : decode cX2_refuseOldOffers 42 = .ok (.isub, 1) := by decide +kernel
theorem dX2_refuseOldOffers_43 : decode cX2_refuseOldOffers 43 = .ok (.iconst 2, 1) := by decide +kernel
theorem dX2_refuseOldOffers_44 : decode cX2_refuseOldOffers 44 = .ok (.if_icmp .lt 8, 3) := by decide +kernel
theorem dX2_refuseOldOffers_47 : decode cX2_refuseOldOffers 47 = .ok (.aload_n 0, 1) := by decide +kernel
theorem dX2_refuseOldOffers_48 : decode cX2_refuseOldOffers 48 = .ok (.aload_n 2, 1) := by decide +kernel
theorem dX2_refuseOldOffers_49 : decode cX2_refuseOldOffers 49 = .ok (.invokevirtual 98, 3) := by decide +kernel
theorem dX2_refuseOldOffers_52 : decode cX2_refuseOldOffers 52 = .ok (.iinc 1 1, 3) := by decide +kernel
theorem dX2_refuseOldOffers_55 : decode cX2_refuseOldOffers 55 = .ok (.goto (-53), 3) := by decide +kernel
theorem dX2_refuseOldOffers_58 : decode cX2_refuseOldOffers 58 = .ok (.return_, 1) := by decide +kernel
set_option maxRecDepth 20000 in
theorem ggX2_bringCabsOn_Jx4a65c_size_8abf5 : GoodIn wsX2_bringCabsOn wsJx4a65c_size_8abf5 := goodIn_r _ [11, 12, 92, 93, 94] (by decide +kernel) (by decide +kernel)
set_option maxRecDepth 20000 in
theorem gX2_bringCabsOn_Jx4a65c_size_8abf5 : GoodIn wsX2_bringCabsOn (wsV RX2 59 RJx4a65c yJx4a65c_size_8abf5 wsJx4a65c_size_8abf5) := goodIn_app (goodIn_of _ (by decide +kernel)) ggX2_bringCabsOn_Jx4a65c_size_8abf5
set_option maxRecDepth 20000 in
theorem ggX2_bringCabsOn_Jx4a65c_get_915e3 : GoodIn wsX2_bringCabsOn wsJx4a65c_get_915e3 := goodIn_r _ [16, 12, 17, 18, 19, 20, 21, 22, 23, 24, 25, 26, 27, 10, 28, 29, 92, 93, 94] (by decide +kernel) (by decide +kernel)
set_option maxRecDepth 20000 in
theorem gX2_bringCabsOn_Jx4a65c_get_915e3 : GoodIn wsX2_bringCabsOn (wsV RX2 197 RJx4a65c yJx4a65c_get_915e3 wsJx4a65c_get_915e3) := goodIn_app (goodIn_of _ (by decide +kernel)) ggX2_bringCabsOn_Jx4a65c_get_915e3
set_option maxRecDepth 20000 in
theorem ggX2_bringCabsOn_X2_beginRide : GoodIn wsX2_bringCabsOn wsX2_beginRide := goodIn_r _ [34, 35, 36, 6, 37, 4, 5, 38, 39, 40, 41, 42, 33, 43, 44, 45, 46, 47, 48, 49, 50, 51, 52, 53, 54, 55, 56, 57, 58, 59, 95, 96, 97, 98, 99, 100, 101, 102, 103, 104, 105, 106, 107, 108, 109, 83, 84, 85, 86, 87, 88, 89, 90, 91, 76, 77, 78, 79, 80, 81, 82] (by decide +kernel) (by decide +kernel)
set_option maxRecDepth 20000 in
theorem gX2_bringCabsOn_X2_beginRide : GoodIn wsX2_bringCabsOn (wsV RX2 296 RX2 yX2_beginRide wsX2_beginRide) := goodIn_app (goodIn_of _ (by decide +kernel)) ggX2_bringCabsOn_X2_beginRide
set_option maxRecDepth 20000 in
theorem ggX2_bringCabsOn_X2_endRide : GoodIn wsX2_bringCabsOn wsX2_endRide := goodIn_r _ [63, 64, 65, 36, 37, 3, 38, 4, 66, 67, 68, 33, 69, 50, 52, 58, 59, 70, 71, 72, 73, 6, 74, 75, 83, 84, 85, 86, 87, 88, 89, 90, 91, 95, 96, 97, 98, 99, 100, 101, 102, 103, 104, 105, 106, 107, 108, 109, 76, 77, 78, 79, 80, 81, 82] (by decide +kernel) (by decide +kernel)
set_option maxRecDepth 20000 in
theorem gX2_bringCabsOn_X2_endRide : GoodIn wsX2_bringCabsOn (wsV RX2 300 RX2 yX2_endRide wsX2_endRide) := goodIn_app (goodIn_of _ (by decide +kernel)) ggX2_bringCabsOn_X2_endRide
theorem dX2_bringCabsOn_0 : decode cX2_bringCabsOn 0 = .ok (.iconst 0, 1) := by decide +kernel
theorem dX2_bringCabsOn_1 : decode cX2_bringCabsOn 1 = .ok (.istore_n 1, 1) := by decide +kernel
theorem dX2_bringCabsOn_2 : decode cX2_bringCabsOn 2 = .ok (.iconst 0, 1) := by decide +kernel
theorem dX2_bringCabsOn_3 : decode cX2_bringCabsOn 3 = .ok (.istore_n 2, 1) := by decide +kernel
theorem dX2_bringCabsOn_4 : decode cX2_bringCabsOn 4 = .ok (.iload_n 2, 1) := by decide +kernel
theorem dX2_bringCabsOn_5 : decode cX2_bringCabsOn 5 = .ok (.aload_n 0, 1) := by decide +kernel
theorem dX2_bringCabsOn_6 : decode cX2_bringCabsOn 6 = .ok (.getfield 16, 3) := by decide +kernel
theorem dX2_bringCabsOn_9 : decode cX2_bringCabsOn 9 = .ok (.invokevirtual 59, 3) := by decide +kernel
theorem dX2_bringCabsOn_12 : decode cX2_bringCabsOn 12 = .ok (.if_icmp .ge 82, 3) := by decide +kernel
theorem dX2_bringCabsOn_15 : decode cX2_bringCabsOn 15 = .ok (.aload_n 0, 1) := by decide +kernel
theorem dX2_bringCabsOn_16 : decode cX2_bringCabsOn 16 = .ok (.getfield 16, 3) := by decide +kernel
theorem dX2_bringCabsOn_19 : decode cX2_bringCabsOn 19 = .ok (.iload_n 2, 1) := by decide +kernel
theorem dX2_bringCabsOn_20 : decode cX2_bringCabsOn 20 = .ok (.invokevirtual 197, 3) := by decide +kernel
theorem dX2_bringCabsOn_23 : decode cX2_bringCabsOn 23 = .ok (.checkcast 68, 3) := by decide +kernel
theorem dX2_bringCabsOn_26 : decode cX2_bringCabsOn 26 = .ok (.astore_n 3, 1) := by decide +kernel
theorem dX2_bringCabsOn_27 : decode cX2_bringCabsOn 27 = .ok (.aload_n 3, 1) := by decide +kernel
theorem dX2_bringCabsOn_28 : decode cX2_bringCabsOn 28 = .ok (.getfield 251, 3) := by decide +kernel
theorem dX2_bringCabsOn_31 : decode cX2_bringCabsOn 31 = .ok (.astore 4, 2) := by decide +kernel
theorem dX2_bringCabsOn_33 : decode cX2_bringCabsOn 33 = .ok (.aload 4, 2) := by decide +kernel
theorem dX2_bringCabsOn_35 : decode cX2_bringCabsOn 35 = .ok (.ifnull 53, 3) := by decide +kernel
theorem dX2_bringCabsOn_38 : decode cX2_bringCabsOn 38 = .ok (.aload_n 0, 1) := by decide +kernel
theorem dX2_bringCabsOn_39 : decode cX2_bringCabsOn 39 = .ok (.getfield 120, 3) := by decide +kernel
theorem dX2_bringCabsOn_42 : decode cX2_bringCabsOn 42 = .ok (.aload_n 3, 1) := by decide +kernel
theorem dX2_bringCabsOn_43 : decode cX2_bringCabsOn 43 = .ok (.getfield 149, 3) := by decide +kernel
theorem dX2_bringCabsOn_46 : decode cX2_bringCabsOn 46 = .ok (.if_icmp .ge 6, 3) := by decide +kernel
theorem dX2_bringCabsOn_49 : decode cX2_bringCabsOn 49 = .ok (.goto 39, 3) := by decide +kernel
theorem dX2_bringCabsOn_52 : decode cX2_bringCabsOn 52 = .ok (.aload_n 3, 1) := by decide +kernel
theorem dX2_bringCabsOn_53 : decode cX2_bringCabsOn 53 = .ok (.getfield 80, 3) := by decide +kernel
theorem dX2_bringCabsOn_56 : decode cX2_bringCabsOn 56 = .ok (.iconst 2, 1) := by decide +kernel
theorem dX2_bringCabsOn_57 : decode cX2_bringCabsOn 57 = .ok (.if_icmp .ne 13, 3) := by decide +kernel
theorem dX2_bringCabsOn_60 : decode cX2_bringCabsOn 60 = .ok (.aload_n 0, 1) := by decide +kernel
theorem dX2_bringCabsOn_61 : decode cX2_bringCabsOn 61 = .ok (.aload_n 3, 1) := by decide +kernel
theorem dX2_bringCabsOn_62 : decode cX2_bringCabsOn 62 = .ok (.aload 4, 2) := by decide +kernel
theorem dX2_bringCabsOn_64 : decode cX2_bringCabsOn 64 = .ok (.invokevirtual 296, 3) := by decide +kernel
theorem dX2_bringCabsOn_67 : decode cX2_bringCabsOn 67 = .ok (.goto 21, 3) := by decide +kernel
theorem dX2_bringCabsOn_70 : decode cX2_bringCabsOn 70 = .ok (.aload_n 3, 1) := by decide +kernel
theorem dX2_bringCabsOn_71 : decode cX2_bringCabsOn 71 = .ok (.getfield 80, 3) := by decide +kernel
theorem dX2_bringCabsOn_74 : decode cX2_bringCabsOn 74 = .ok (.iconst 3, 1) := by decide +kernel
theorem dX2_bringCabsOn_75 : decode cX2_bringCabsOn 75 = .ok (.if_icmp .ne 13, 3) := by decide +kernel
theorem dX2_bringCabsOn_78 : decode cX2_bringCabsOn 78 = .ok (.aload_n 0, 1) := by decide +kernel
theorem dX2_bringCabsOn_79 : decode cX2_bringCabsOn 79 = .ok (.aload_n 3, 1) := by decide +kernel
theorem dX2_bringCabsOn_80 : decode cX2_bringCabsOn 80 = .ok (.aload 4, 2) := by decide +kernel
theorem dX2_bringCabsOn_82 : decode cX2_bringCabsOn 82 = .ok (.invokevirtual 300, 3) := by decide +kernel
theorem dX2_bringCabsOn_85 : decode cX2_bringCabsOn 85 = .ok (.iinc 1 1, 3) := by decide +kernel
theorem dX2_bringCabsOn_88 : decode cX2_bringCabsOn 88 = .ok (.iinc 2 1, 3) := by decide +kernel
theorem dX2_bringCabsOn_91 : decode cX2_bringCabsOn 91 = .ok (.goto (-87), 3) := by decide +kernel
theorem dX2_bringCabsOn_94 : decode cX2_bringCabsOn 94 = .ok (.iload_n 1, 1) := by decide +kernel
theorem dX2_bringCabsOn_95 : decode cX2_bringCabsOn 95 = .ok (.ireturn, 1) := by decide +kernel
set_option maxRecDepth 20000 in
theorem ggX2_beginRide_X2_wayBetween : GoodIn wsX2_beginRide wsX2_wayBetween := goodIn_r _ [13, 14, 54, 55, 56, 57, 58, 59, 60] (by decide +kernel) (by decide +kernel)
set_option maxRecDepth 20000 in
theorem gX2_beginRide_X2_wayBetween : GoodIn wsX2_beginRide (wsV RX2 43 RX2 yX2_wayBetween wsX2_wayBetween) := goodIn_app (goodIn_of _ (by decide +kernel)) ggX2_beginRide_X2_wayBetween
set_option maxRecDepth 20000 in
theorem ggX2_beginRide_X2_meterFare : GoodIn wsX2_beginRide wsX2_meterFare := goodIn_r _ [18, 19, 20, 21, 22, 5, 23, 24, 25, 26, 27, 28, 29, 54, 55, 56, 57, 58, 59, 60, 30, 31, 32, 33, 34, 35, 36, 37, 38, 39, 40, 41, 42, 43, 44] (by decide +kernel) (by decide +kernel)
set_option maxRecDepth 20000 in
theorem gX2_beginRide_X2_meterFare : GoodIn wsX2_beginRide (wsV RX2 306 RX2 yX2_meterFare wsX2_meterFare) := goodIn_app (goodIn_of _ (by decide +kernel)) ggX2_beginRide_X2_meterFare
theorem dX2_beginRide_0 : decode cX2_beginRide 0 = .ok (.aload_n 0, 1) := by decide +kernel
theorem dX2_beginRide_1 : decode cX2_beginRide 1 = .ok (.aload_n 2, 1) := by decide +kernel
theorem dX2_beginRide_2 : decode cX2_beginRide 2 = .ok (.getfield 138, 3) := by decide +kernel
theorem dX2_beginRide_5 : decode cX2_beginRide 5 = .ok (.aload_n 2, 1) := by decide +kernel
theorem dX2_beginRide_6 : decode cX2_beginRide 6 = .ok (.getfield 303, 3) := by decide +kernel
theorem dX2_beginRide_9 : decode cX2_beginRide 9 = .ok (.invokevirtual 43, 3) := by decide +kernel
theorem dX2_beginRide_12 : decode cX2_beginRide 12 = .ok (.istore_n 3, 1) := by decide +kernel
theorem dX2_beginRide_13 : decode cX2_beginRide 13 = .ok (.aload_n 1, 1) := by decide +kernel
theorem dX2_beginRide_14 : decode cX2_beginRide 14 = .ok (.iconst 3, 1) := by decide +kernel
theorem dX2_beginRide_15 : decode cX2_beginRide 15 = .ok (.putfield 80, 3) := by decide +kernel
theorem dX2_beginRide_18 : decode cX2_beginRide 18 = .ok (.aload_n 1, 1) := by decide +kernel
theorem dX2_beginRide_19 : decode cX2_beginRide 19 = .ok (.aload_n 2, 1) := by decide +kernel
theorem dX2_beginRide_20 : decode cX2_beginRide 20 = .ok (.getfield 138, 3) := by decide +kernel
theorem dX2_beginRide_23 : decode cX2_beginRide 23 = .ok (.putfield 101, 3) := by decide +kernel
theorem dX2_beginRide_26 : decode cX2_beginRide 26 = .ok (.aload_n 1, 1) := by decide +kernel
theorem dX2_beginRide_27 : decode cX2_beginRide 27 = .ok (.aload_n 0, 1) := by decide +kernel
theorem dX2_beginRide_28 : decode cX2_beginRide 28 = .ok (.getfield 120, 3) := by decide +kernel
theorem dX2_beginRide_31 : decode cX2_beginRide 31 = .ok (.iload_n 3, 1) := by decide +kernel
theorem dX2_beginRide_32 : decode cX2_beginRide 32 = .ok (.iadd, 1) := by decide +kernel
theorem dX2_beginRide_33 : decode cX2_beginRide 33 = .ok (.putfield 149, 3) := by decide +kernel
theorem dX2_beginRide_36 : decode cX2_beginRide 36 = .ok (.aload_n 2, 1) := by decide +kernel
theorem dX2_beginRide_37 : decode cX2_beginRide 37 = .ok (.iconst 3, 1) := by decide +kernel
theorem dX2_beginRide_38 : decode cX2_beginRide 38 = .ok (.putfield 152, 3) := by decide +kernel
theorem dX2_beginRide_41 : decode cX2_beginRide 41 = .ok (.aload_n 2, 1) := by decide +kernel
theorem dX2_beginRide_42 : decode cX2_beginRide 42 = .ok (.aload_n 0, 1) := by decide +kernel
theorem dX2_beginRide_43 : decode cX2_beginRide 43 = .ok (.getfield 120, 3) := by decide +kernel
theorem dX2_beginRide_46 : decode cX2_beginRide 46 = .ok (.putfield 201, 3) := by decide +kernel
theorem dX2_beginRide_49 : decode cX2_beginRide 49 = .ok (.aload_n 0, 1) := by decide +kernel
theorem dX2_beginRide_50 : decode cX2_beginRide 50 = .ok (.aload_n 2, 1) := by decide +kernel
theorem dX2_beginRide_51 : decode cX2_beginRide 51 = .ok (.iload_n 3, 1) := by decide +kernel
theorem dX2_beginRide_52 : decode cX2_beginRide 52 = .ok (.invokevirtual 306, 3) := by decide +kernel
theorem dX2_beginRide_55 : decode cX2_beginRide 55 = .ok (.return_, 1) := by decide +kernel
theorem dX2_meterFare_0 : decode cX2_meterFare 0 = .ok (.aload_n 1, 1) := by decide +kernel
theorem dX2_meterFare_1 : decode cX2_meterFare 1 = .ok (.aload_n 0, 1) := by decide +kernel
theorem dX2_meterFare_2 : decode cX2_meterFare 2 = .ok (.getfield 23, 3) := by decide +kernel
theorem dX2_meterFare_5 : decode cX2_meterFare 5 = .ok (.putfield 310, 3) := by decide +kernel
theorem dX2_meterFare_8 : decode cX2_meterFare 8 = .ok (.aload_n 1, 1) := by decide +kernel
theorem dX2_meterFare_9 : decode cX2_meterFare 9 = .ok (.aload_n 0, 1) := by decide +kernel
theorem dX2_meterFare_10 : decode cX2_meterFare 10 = .ok (.getfield 27, 3) := by decide +kernel
theorem dX2_meterFare_13 : decode cX2_meterFare 13 = .ok (.iload_n 2, 1) := by decide +kernel
theorem dX2_meterFare_14 : decode cX2_meterFare 14 = .ok (.imul, 1) := by decide +kernel
theorem dX2_meterFare_15 : decode cX2_meterFare 15 = .ok (.putfield 313, 3) := by decide +kernel
theorem dX2_meterFare_18 : decode cX2_meterFare 18 = .ok (.aload_n 1, 1) := by decide +kernel
theorem dX2_meterFare_19 : decode cX2_meterFare 19 = .ok (.aload_n 0, 1) := by decide +kernel
theorem dX2_meterFare_20 : decode cX2_meterFare 20 = .ok (.getfield 120, 3) := by decide +kernel
theorem dX2_meterFare_23 : decode cX2_meterFare 23 = .ok (.aload_n 1, 1) := by decide +kernel
theorem dX2_meterFare_24 : decode cX2_meterFare 24 = .ok (.getfield 141, 3) := by decide +kernel
theorem dX2_meterFare_27 : decode cX2_meterFare 27 = .ok (.isub, 1) := by decide +kernel
theorem dX2_meterFare_28 : decode cX2_meterFare 28 = .ok (.iconst 5, 1) := by decide +kernel
theorem dX2_meterFare_29 : decode cX2_meterFare 29 = .ok (.invokestatic 211, 3) := by decide +kernel
theorem dX2_meterFare_32 : decode cX2_meterFare 32 = .ok (.ineg, 1) := by decide +kernel
theorem dX2_meterFare_33 : decode cX2_meterFare 33 = .ok (.putfield 316, 3) := by decide +kernel
theorem dX2_meterFare_36 : decode cX2_meterFare 36 = .ok (.aload_n 1, 1) := by decide +kernel
theorem dX2_meterFare_37 : decode cX2_meterFare 37 = .ok (.aload_n 0, 1) := by decide +kernel
theorem dX2_meterFare_38 : decode cX2_meterFare 38 = .ok (.getfield 120, 3) := by decide +kernel
theorem dX2_meterFare_41 : decode cX2_meterFare 41 = .ok (.sipush 1440, 3) := by decide +kernel
theorem dX2_meterFare_44 : decode cX2_meterFare 44 = .ok (.irem, 1) := by decide +kernel
theorem dX2_meterFare_45 : decode cX2_meterFare 45 = .ok (.sipush 360, 3) := by decide +kernel
theorem dX2_meterFare_48 : decode cX2_meterFare 48 = .ok (.if_icmp .ge 17, 3) := by decide +kernel
theorem dX2_meterFare_51 : decode cX2_meterFare 51 = .ok (.aload_n 1, 1) := by decide +kernel
theorem dX2_meterFare_52 : decode cX2_meterFare 52 = .ok (.getfield 310, 3) := by decide +kernel
theorem dX2_meterFare_55 : decode cX2_meterFare 55 = .ok (.aload_n 1, 1) := by decide +kernel
theorem dX2_meterFare_56 : decode cX2_meterFare 56 = .ok (.getfield 313, 3) := by decide +kernel
theorem dX2_meterFare_59 : decode cX2_meterFare 59 = .ok (.iadd, 1) := by decide +kernel
theorem dX2_meterFare_60 : decode cX2_meterFare 60 = .ok (.iconst 2, 1) := by decide +kernel
theorem dX2_meterFare_61 : decode cX2_meterFare 61 = .ok (.idiv, 1) := by decide +kernel
theorem dX2_meterFare_62 : decode cX2_meterFare 62 = .ok (.goto 4, 3) := by decide +kernel
theorem dX2_meterFare_65 : decode cX2_meterFare 65 = .ok (.iconst 0, 1) := by decide +kernel
theorem dX2_meterFare_66 : decode cX2_meterFare 66 = .ok (.putfield 319, 3) := by decide +kernel
theorem dX2_meterFare_69 : decode cX2_meterFare 69 = .ok (.return_, 1) := by decide +kernel
set_option maxRecDepth 20000 in
theorem ggX2_endRide_X2_wholeFare : GoodIn wsX2_endRide wsX2_wholeFare := goodIn_r _ [12, 13, 14, 15, 16, 33, 34, 35, 36, 37, 38, 39, 40, 41, 42, 43, 44, 45, 46, 47] (by decide +kernel) (by decide +kernel)
set_option maxRecDepth 20000 in
theorem gX2_endRide_X2_wholeFare : GoodIn wsX2_endRide (va_wsS RX2 322 yX2_wholeFare wsX2_wholeFare) := goodIn_app (goodIn_of _ (by decide +kernel)) ggX2_endRide_X2_wholeFare
set_option maxRecDepth 20000 in
theorem ggX2_endRide_X2_joinQueue : GoodIn wsX2_endRide wsX2_joinQueue := goodIn_r _ [20, 21, 22, 23, 24, 25, 26, 27, 28, 29, 30, 31, 32, 48, 49, 50, 51, 52, 53, 54] (by decide +kernel) (by decide +kernel)
set_option maxRecDepth 20000 in
theorem gX2_endRide_X2_joinQueue : GoodIn wsX2_endRide (wsV RX2 85 RX2 yX2_joinQueue wsX2_joinQueue) := goodIn_app (goodIn_of _ (by decide +kernel)) ggX2_endRide_X2_joinQueue
theorem dX2_endRide_0 : decode cX2_endRide 0 = .ok (.aload_n 2, 1) := by decide +kernel
theorem dX2_endRide_1 : decode cX2_endRide 1 = .ok (.invokestatic 322, 3) := by decide +kernel
theorem dX2_endRide_4 : decode cX2_endRide 4 = .ok (.istore_n 3, 1) := by decide +kernel
theorem dX2_endRide_5 : decode cX2_endRide 5 = .ok (.iload_n 3, 1) := by decide +kernel
theorem dX2_endRide_6 : decode cX2_endRide 6 = .ok (.bipush 80, 2) := by decide +kernel
theorem dX2_endRide_8 : decode cX2_endRide 8 = .ok (.imul, 1) := by decide +kernel
theorem dX2_endRide_9 : decode cX2_endRide 9 = .ok (.bipush 100, 2) := by decide +kernel
theorem dX2_endRide_11 : decode cX2_endRide 11 = .ok (.idiv, 1) := by decide +kernel
theorem dX2_endRide_12 : decode cX2_endRide 12 = .ok (.istore 4, 2) := by decide +kernel
theorem dX2_endRide_14 : decode cX2_endRide 14 = .ok (.aload_n 1, 1) := by decide +kernel
theorem dX2_endRide_15 : decode cX2_endRide 15 = .ok (.dup, 1) := by decide +kernel
theorem dX2_endRide_16 : decode cX2_endRide 16 = .ok (.getfield 194, 3) := by decide +kernel
theorem dX2_endRide_19 : decode cX2_endRide 19 = .ok (.iload 4, 2) := by decide +kernel
theorem dX2_endRide_21 : decode cX2_endRide 21 = .ok (.iadd, 1) := by decide +kernel
theorem dX2_endRide_22 : decode cX2_endRide 22 = .ok (.putfield 194, 3) := by decide +kernel
theorem dX2_endRide_25 : decode cX2_endRide 25 = .ok (.aload_n 1, 1) := by decide +kernel
theorem dX2_endRide_26 : decode cX2_endRide 26 = .ok (.dup, 1) := by decide +kernel
theorem dX2_endRide_27 : decode cX2_endRide 27 = .ok (.getfield 193, 3) := by decide +kernel
theorem dX2_endRide_30 : decode cX2_endRide 30 = .ok (.iload_n 3, 1) := by decide +kernel
theorem dX2_endRide_31 : decode cX2_endRide 31 = .ok (.iload 4, 2) := by decide +kernel
theorem dX2_endRide_33 : decode cX2_endRide 33 = .ok (.isub, 1) := by decide +kernel
theorem dX2_endRide_34 : decode cX2_endRide 34 = .ok (.iadd, 1) := by decide +kernel
theorem dX2_endRide_35 : decode cX2_endRide 35 = .ok (.putfield 193, 3) := by decide +kernel
theorem dX2_endRide_38 : decode cX2_endRide 38 = .ok (.aload_n 1, 1) := by decide +kernel
theorem dX2_endRide_39 : decode cX2_endRide 39 = .ok (.aload_n 2, 1) := by decide +kernel
theorem dX2_endRide_40 : decode cX2_endRide 40 = .ok (.getfield 303, 3) := by decide +kernel
theorem dX2_endRide_43 : decode cX2_endRide 43 = .ok (.putfield 101, 3) := by decide +kernel
theorem dX2_endRide_46 : decode cX2_endRide 46 = .ok (.aload_n 1, 1) := by decide +kernel
theorem dX2_endRide_47 : decode cX2_endRide 47 = .ok (.aconst_null, 1) := by decide +kernel
theorem dX2_endRide_48 : decode cX2_endRide 48 = .ok (.putfield 251, 3) := by decide +kernel
theorem dX2_endRide_51 : decode cX2_endRide 51 = .ok (.aload_n 0, 1) := by decide +kernel
theorem dX2_endRide_52 : decode cX2_endRide 52 = .ok (.aload_n 1, 1) := by decide +kernel
theorem dX2_endRide_53 : decode cX2_endRide 53 = .ok (.invokevirtual 85, 3) := by decide +kernel
theorem dX2_endRide_56 : decode cX2_endRide 56 = .ok (.aload_n 2, 1) := by decide +kernel
theorem dX2_endRide_57 : decode cX2_endRide 57 = .ok (.iconst 4, 1) := by decide +kernel
theorem dX2_endRide_58 : decode cX2_endRide 58 = .ok (.putfield 152, 3) := by decide +kernel
theorem dX2_endRide_61 : decode cX2_endRide 61 = .ok (.aload_n 2, 1) := by decide +kernel
theorem dX2_endRide_62 : decode cX2_endRide 62 = .ok (.aload_n 0, 1) := by decide +kernel
theorem dX2_endRide_63 : decode cX2_endRide 63 = .ok (.getfield 120, 3) := by decide +kernel
theorem dX2_endRide_66 : decode cX2_endRide 66 = .ok (.putfield 326, 3) := by decide +kernel
theorem dX2_endRide_69 : decode cX2_endRide 69 = .ok (.return_, 1) := by decide +kernel
set_option maxRecDepth 20000 in
theorem ggX2_cabDetail_X2_placeOf : GoodIn wsX2_cabDetail wsX2_placeOf := goodIn_r _ [10, 1, 11, 12, 2, 13, 14, 15, 16, 17, 18, 19, 20, 21, 22, 23, 24, 25, 26, 27, 28, 29, 30, 31, 32, 33, 34, 35, 36, 37, 38, 9, 39, 40, 41, 42, 43, 44, 45, 46, 47, 48, 64, 65, 66, 67, 68, 69, 70, 71, 72, 73] (by decide +kernel) (by decide +kernel)
set_option maxRecDepth 20000 in
theorem gX2_cabDetail_X2_placeOf : GoodIn wsX2_cabDetail (wsV RX2 92 RX2 yX2_placeOf wsX2_placeOf) := goodIn_app (goodIn_of _ (by decide +kernel)) ggX2_cabDetail_X2_placeOf
theorem dX2_cabDetail_0 : decode cX2_cabDetail 0 = .ok (.iload_n 2, 1) := by decide +kernel
theorem dX2_cabDetail_1 : decode cX2_cabDetail 1 = .ok (.tableswitch 65 0 3 #[31, 36, 41, 46], 31) := by decide +kernel
theorem dX2_cabDetail_32 : decode cX2_cabDetail 32 = .ok (.aload_n 1, 1) := by decide +kernel
theorem dX2_cabDetail_33 : decode cX2_cabDetail 33 = .ok (.getfield 80, 3) := by decide +kernel
theorem dX2_cabDetail_36 : decode cX2_cabDetail 36 = .ok (.ireturn, 1) := by decide +kernel
theorem dX2_cabDetail_37 : decode cX2_cabDetail 37 = .ok (.aload_n 1, 1) := by decide +kernel
theorem dX2_cabDetail_38 : decode cX2_cabDetail 38 = .ok (.getfield 101, 3) := by decide +kernel
theorem dX2_cabDetail_41 : decode cX2_cabDetail 41 = .ok (.ireturn, 1) := by decide +kernel
theorem dX2_cabDetail_42 : decode cX2_cabDetail 42 = .ok (.aload_n 1, 1) := by decide +kernel
theorem dX2_cabDetail_43 : decode cX2_cabDetail 43 = .ok (.getfield 208, 3) := by decide +kernel
theorem dX2_cabDetail_46 : decode cX2_cabDetail 46 = .ok (.ireturn, 1) := by decide +kernel
theorem dX2_cabDetail_47 : decode cX2_cabDetail 47 = .ok (.aload_n 1, 1) := by decide +kernel
theorem dX2_cabDetail_48 : decode cX2_cabDetail 48 = .ok (.getfield 251, 3) := by decide +kernel
theorem dX2_cabDetail_51 : decode cX2_cabDetail 51 = .ok (.ifnonnull 7, 3) := by decide +kernel
theorem dX2_cabDetail_54 : decode cX2_cabDetail 54 = .ok (.iconst (-1), 1) := by decide +kernel
theorem dX2_cabDetail_55 : decode cX2_cabDetail 55 = .ok (.goto 10, 3) := by decide +kernel
theorem dX2_cabDetail_58 : decode cX2_cabDetail 58 = .ok (.aload_n 1, 1) := by decide +kernel
theorem dX2_cabDetail_59 : decode cX2_cabDetail 59 = .ok (.getfield 251, 3) := by decide +kernel
theorem dX2_cabDetail_62 : decode cX2_cabDetail 62 = .ok (.getfield 153, 3) := by decide +kernel
theorem dX2_cabDetail_65 : decode cX2_cabDetail 65 = .ok (.ireturn, 1) := by decide +kernel
theorem dX2_cabDetail_66 : decode cX2_cabDetail 66 = .ok (.aload_n 0, 1) := by decide +kernel
theorem dX2_cabDetail_67 : decode cX2_cabDetail 67 = .ok (.aload_n 1, 1) := by decide +kernel
theorem dX2_cabDetail_68 : decode cX2_cabDetail 68 = .ok (.invokevirtual 92, 3) := by decide +kernel
