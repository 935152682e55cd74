theorem wsL_law_x0 : ∀ w ∈ (vx_atS RX2 38 "java/lang/IllegalArgumentException" ["java/lang/RuntimeException", "java/lang/Exception"]).filter goodWord, w ∈ lw_tbl := by decide +kernel
theorem wsL_law_x1 : ∀ w ∈ (vx_atS RX2 67 "java/lang/IllegalStateException" ["java/lang/RuntimeException", "java/lang/Exception"]).filter goodWord, w ∈ lw_tbl := by decide +kernel
theorem wsL_law_x2 : ∀ w ∈ (vx_atS RX2 112 "java/lang/IndexOutOfBoundsException" ["java/lang/RuntimeException", "java/lang/Exception"]).filter goodWord, w ∈ lw_tbl := by decide +kernel
theorem wsL_law_in : ∀ w ∈ wsL_law, w ∈ lw_tbl := fun w h => (List.mem_append.mp h).elim (fun h => (List.mem_append.mp h).elim (fun h => (List.mem_append.mp h).elim (fun h => wsL_law_in0 w h) (fun h => wsL_law_x0 w h)) (fun h => wsL_law_x1 w h)) (fun h => wsL_law_x2 w h)
theorem inlX0 : ∀ w ∈ wsX00, w ∈ wsL_law := fun _ h => List.mem_append_left _ (List.mem_append_left _ (List.mem_append_left _ (List.mem_append_left _ (List.mem_append_left _ (List.mem_append_right _ h)))))
theorem inX0 : ∀ w ∈ wsX00, w ∈ lw_tbl := fun w h => wsL_law_in w (inlX0 w h)
theorem inlX1 : ∀ w ∈ wsX10, w ∈ wsL_law := fun _ h => List.mem_append_left _ (List.mem_append_left _ (List.mem_append_left _ (List.mem_append_left _ (List.mem_append_right _ h))))
theorem inX1 : ∀ w ∈ wsX10, w ∈ lw_tbl := fun w h => wsL_law_in w (inlX1 w h)
theorem inlX2 : ∀ w ∈ wsX20, w ∈ wsL_law := fun _ h => List.mem_append_left _ (List.mem_append_left _ (List.mem_append_left _ (List.mem_append_left _ (List.mem_append_left _ (List.mem_append_left _ (List.mem_append_left _ (List.mem_append_left _ (List.mem_append_right _ h))))))))
theorem inX2 : ∀ w ∈ wsX20, w ∈ lw_tbl := fun w h => wsL_law_in w (inlX2 w h)
theorem inlX3 : ∀ w ∈ wsX30, w ∈ wsL_law := fun _ h => List.mem_append_left _ (List.mem_append_left _ (List.mem_append_left _ (List.mem_append_left _ (List.mem_append_left _ (List.mem_append_left _ (List.mem_append_left _ (List.mem_append_right _ h)))))))
theorem inX3 : ∀ w ∈ wsX30, w ∈ lw_tbl := fun w h => wsL_law_in w (inlX3 w h)
theorem inX4 : ∀ w ∈ wsX40, w ∈ lw_tbl := by decide +kernel
theorem inJx145de : ∀ w ∈ wsJx145de0, w ∈ lw_tbl := by decide +kernel
theorem inJx8e188 : ∀ w ∈ wsJx8e1880, w ∈ lw_tbl := by decide +kernel
theorem inJ6 : ∀ w ∈ wsJ60, w ∈ lw_tbl := by decide +kernel
theorem inJxab1ab : ∀ w ∈ wsJxab1ab0, w ∈ lw_tbl := by decide +kernel
theorem inJ9 : ∀ w ∈ wsJ90, w ∈ lw_tbl := by decide +kernel
theorem inJ0 : ∀ w ∈ wsJ00, w ∈ lw_tbl := by decide +kernel
theorem inJ10 : ∀ w ∈ wsJ100, w ∈ lw_tbl := by decide +kernel
theorem inJxa1e45 : ∀ w ∈ wsJxa1e450, w ∈ lw_tbl := by decide +kernel
theorem inJxc12de : ∀ w ∈ wsJxc12de0, w ∈ lw_tbl := by decide +kernel
theorem inlJx4a65c : ∀ w ∈ wsJx4a65c0, w ∈ wsL_law := fun _ h => List.mem_append_left _ (List.mem_append_left _ (List.mem_append_left _ (List.mem_append_left _ (List.mem_append_left _ (List.mem_append_left _ (List.mem_append_right _ h))))))
theorem inJx4a65c : ∀ w ∈ wsJx4a65c0, w ∈ lw_tbl := fun w h => wsL_law_in w (inlJx4a65c w h)
theorem inJ7 : ∀ w ∈ wsJ70, w ∈ lw_tbl := by decide +kernel
theorem inJx5ef63 : ∀ w ∈ wsJx5ef630, w ∈ lw_tbl := by decide +kernel
theorem inJxbd725 : ∀ w ∈ wsJxbd7250, w ∈ lw_tbl := by decide +kernel
theorem inJ15 : ∀ w ∈ wsJ150, w ∈ lw_tbl := by decide +kernel
theorem inJxf0a74 : ∀ w ∈ wsJxf0a740, w ∈ lw_tbl := by decide +kernel
theorem inJxa66e6 : ∀ w ∈ wsJxa66e60, w ∈ lw_tbl := by decide +kernel
theorem inJ8 : ∀ w ∈ wsJ80, w ∈ lw_tbl := by decide +kernel
theorem inJ3 : ∀ w ∈ wsJ30, w ∈ lw_tbl := by decide +kernel
theorem dX0_init_0 : decode cX0_init 0 = .ok (.aload_n 0, 1) := by decide +kernel
theorem dX0_init_1 : decode cX0_init 1 = .ok (.invokespecial 3, 3) := by decide +kernel
theorem dX0_init_4 : decode cX0_init 4 = .ok (.aload_n 0, 1) := by decide +kernel
theorem dX0_init_5 : decode cX0_init 5 = .ok (.iconst 0, 1) := by decide +kernel
theorem dX0_init_6 : decode cX0_init 6 = .ok (.putfield 9, 3) := by decide +kernel
theorem dX0_init_9 : decode cX0_init 9 = .ok (.aload_n 0, 1) := by decide +kernel
theorem dX0_init_10 : decode cX0_init 10 = .ok (.iload_n 1, 1) := by decide +kernel
theorem dX0_init_11 : decode cX0_init 11 = .ok (.putfield 15, 3) := by decide +kernel
theorem dX0_init_14 : decode cX0_init 14 = .ok (.aload_n 0, 1) := by decide +kernel
theorem dX0_init_15 : decode cX0_init 15 = .ok (.iload_n 2, 1) := by decide +kernel
theorem dX0_init_16 : decode cX0_init 16 = .ok (.putfield 18, 3) := by decide +kernel
theorem dX0_init_19 : decode cX0_init 19 = .ok (.aload_n 0, 1) := by decide +kernel
theorem dX0_init_20 : decode cX0_init 20 = .ok (.iload_n 3, 1) := by decide +kernel
theorem dX0_init_21 : decode cX0_init 21 = .ok (.putfield 21, 3) := by decide +kernel
theorem dX0_init_24 : decode cX0_init 24 = .ok (.return_, 1) := by decide +kernel
theorem dX1_init_0 : decode cX1_init 0 = .ok (.aload_n 0, 1) := by decide +kernel
theorem dX1_init_1 : decode cX1_init 1 = .ok (.invokespecial 3, 3) := by decide +kernel
theorem dX1_init_4 : decode cX1_init 4 = .ok (.aload_n 0, 1) := by decide +kernel
theorem dX1_init_5 : decode cX1_init 5 = .ok (.iconst 0, 1) := by decide +kernel
theorem dX1_init_6 : decode cX1_init 6 = .ok (.putfield 9, 3) := by decide +kernel
theorem dX1_init_9 : decode cX1_init 9 = .ok (.aload_n 0, 1) := by decide +kernel
theorem dX1_init_10 : decode cX1_init 10 = .ok (.iconst (-1), 1) := by decide +kernel
theorem dX1_init_11 : decode cX1_init 11 = .ok (.putfield 15, 3) := by decide +kernel
theorem dX1_init_14 : decode cX1_init 14 = .ok (.aload_n 0, 1) := by decide +kernel
theorem dX1_init_15 : decode cX1_init 15 = .ok (.iconst (-1), 1) := by decide +kernel
theorem dX1_init_16 : decode cX1_init 16 = .ok (.putfield 18, 3) := by decide +kernel
theorem dX1_init_19 : decode cX1_init 19 = .ok (.aload_n 0, 1) := by decide +kernel
theorem dX1_init_20 : decode cX1_init 20 = .ok (.iload_n 1, 1) := by decide +kernel
theorem dX1_init_21 : decode cX1_init 21 = .ok (.putfield 21, 3) := by decide +kernel
theorem dX1_init_24 : decode cX1_init 24 = .ok (.aload_n 0, 1) := by decide +kernel
theorem dX1_init_25 : decode cX1_init 25 = .ok (.iload_n 2, 1) := by decide +kernel
theorem dX1_init_26 : decode cX1_init 26 = .ok (.putfield 24, 3) := by decide +kernel
theorem dX1_init_29 : decode cX1_init 29 = .ok (.aload_n 0, 1) := by decide +kernel
theorem dX1_init_30 : decode cX1_init 30 = .ok (.iload_n 3, 1) := by decide +kernel
theorem dX1_init_31 : decode cX1_init 31 = .ok (.putfield 27, 3) := by decide +kernel
theorem dX1_init_34 : decode cX1_init 34 = .ok (.aload_n 0, 1) := by decide +kernel
theorem dX1_init_35 : decode cX1_init 35 = .ok (.iload 4, 2) := by decide +kernel
theorem dX1_init_37 : decode cX1_init 37 = .ok (.putfield 30, 3) := by decide +kernel
theorem dX1_init_40 : decode cX1_init 40 = .ok (.aload_n 0, 1) := by decide +kernel
theorem dX1_init_41 : decode cX1_init 41 = .ok (.iload 5, 2) := by decide +kernel
theorem dX1_init_43 : decode cX1_init 43 = .ok (.putfield 33, 3) := by decide +kernel
theorem dX1_init_46 : decode cX1_init 46 = .ok (.return_, 1) := by decide +kernel
set_option maxRecDepth 20000 in
theorem ggX2_init_Jx4a65c_init_da8c8 : GoodIn wsX2_init wsJx4a65c_init_da8c8 := goodIn_r _ [15, 16, 17, 18, 19, 20, 21, 22, 23, 24, 25, 26, 27, 2, 3, 35, 36, 37] (by decide +kernel) (by decide +kernel)
set_option maxRecDepth 20000 in
theorem gX2_init_Jx4a65c_init_da8c8 : GoodIn wsX2_init (wsJx4a65c_init_da8c8) := ggX2_init_Jx4a65c_init_da8c8
theorem dX2_init_0 : decode cX2_init 0 = .ok (.aload_n 0, 1) := by decide +kernel
theorem dX2_init_1 : decode cX2_init 1 = .ok (.invokespecial 1, 3) := by decide +kernel
theorem dX2_init_4 : decode cX2_init 4 = .ok (.aload_n 0, 1) := by decide +kernel
theorem dX2_init_5 : decode cX2_init 5 = .ok (.bipush 36, 2) := by decide +kernel
theorem dX2_init_7 : decode cX2_init 7 = .ok (.newarray .int, 2) := by decide +kernel
theorem dX2_init_9 : decode cX2_init 9 = .ok (.putfield 9, 3) := by decide +kernel
theorem dX2_init_12 : decode cX2_init 12 = .ok (.iconst 0, 1) := by decide +kernel
theorem dX2_init_13 : decode cX2_init 13 = .ok (.istore_n 1, 1) := by decide +kernel
theorem dX2_init_14 : decode cX2_init 14 = .ok (.iload_n 1, 1) := by decide +kernel
theorem dX2_init_15 : decode cX2_init 15 = .ok (.aload_n 0, 1) := by decide +kernel
theorem dX2_init_16 : decode cX2_init 16 = .ok (.getfield 9, 3) := by decide +kernel
theorem dX2_init_19 : decode cX2_init 19 = .ok (.arraylength, 1) := by decide +kernel
theorem dX2_init_20 : decode cX2_init 20 = .ok (.if_icmp .ge 32, 3) := by decide +kernel
theorem dX2_init_23 : decode cX2_init 23 = .ok (.aload_n 0, 1) := by decide +kernel
theorem dX2_init_24 : decode cX2_init 24 = .ok (.getfield 9, 3) := by decide +kernel
theorem dX2_init_27 : decode cX2_init 27 = .ok (.iload_n 1, 1) := by decide +kernel
theorem dX2_init_28 : decode cX2_init 28 = .ok (.iload_n 1, 1) := by decide +kernel
theorem dX2_init_29 : decode cX2_init 29 = .ok (.bipush 6, 2) := by decide +kernel
theorem dX2_init_31 : decode cX2_init 31 = .ok (.idiv, 1) := by decide +kernel
theorem dX2_init_32 : decode cX2_init 32 = .ok (.iload_n 1, 1) := by decide +kernel
theorem dX2_init_33 : decode cX2_init 33 = .ok (.bipush 6, 2) := by decide +kernel
theorem dX2_init_35 : decode cX2_init 35 = .ok (.irem, 1) := by decide +kernel
theorem dX2_init_36 : decode cX2_init 36 = .ok (.if_icmp .ne 7, 3) := by decide +kernel
theorem dX2_init_39 : decode cX2_init 39 = .ok (.iconst 5, 1) := by decide +kernel
theorem dX2_init_40 : decode cX2_init 40 = .ok (.goto 5, 3) := by decide +kernel
theorem dX2_init_43 : decode cX2_init 43 = .ok (.bipush 10, 2) := by decide +kernel
theorem dX2_init_45 : decode cX2_init 45 = .ok (.iastore, 1) := by decide +kernel
theorem dX2_init_46 : decode cX2_init 46 = .ok (.iinc 1 1, 3) := by decide +kernel
theorem dX2_init_49 : decode cX2_init 49 = .ok (.goto (-35), 3) := by decide +kernel
theorem dX2_init_52 : decode cX2_init 52 = .ok (.aload_n 0, 1) := by decide +kernel
theorem dX2_init_53 : decode cX2_init 53 = .ok (.new 13, 3) := by decide +kernel
theorem dX2_init_56 : decode cX2_init 56 = .ok (.dup, 1) := by decide +kernel
theorem dX2_init_57 : decode cX2_init 57 = .ok (.invokespecial 15, 3) := by decide +kernel
theorem dX2_init_60 : decode cX2_init 60 = .ok (.putfield 16, 3) := by decide +kernel
theorem dX2_init_63 : decode cX2_init 63 = .ok (.aload_n 0, 1) := by decide +kernel
theorem dX2_init_64 : decode cX2_init 64 = .ok (.new 13, 3) := by decide +kernel
theorem dX2_init_67 : decode cX2_init 67 = .ok (.dup, 1) := by decide +kernel
theorem dX2_init_68 : decode cX2_init 68 = .ok (.invokespecial 15, 3) := by decide +kernel
theorem dX2_init_71 : decode cX2_init 71 = .ok (.putfield 20, 3) := by decide +kernel
theorem dX2_init_74 : decode cX2_init 74 = .ok (.aload_n 0, 1) := by decide +kernel
theorem dX2_init_75 : decode cX2_init 75 = .ok (.iconst 4, 1) := by decide +kernel
theorem dX2_init_76 : decode cX2_init 76 = .ok (.putfield 23, 3) := by decide +kernel
theorem dX2_init_79 : decode cX2_init 79 = .ok (.aload_n 0, 1) := by decide +kernel
theorem dX2_init_80 : decode cX2_init 80 = .ok (.iconst 2, 1) := by decide +kernel
theorem dX2_init_81 : decode cX2_init 81 = .ok (.putfield 27, 3) := by decide +kernel
theorem dX2_init_84 : decode cX2_init 84 = .ok (.return_, 1) := by decide +kernel
set_option maxRecDepth 20000 in
theorem ggX2_setWay_X2_requireZone : GoodIn wsX2_setWay wsX2_requireZone := goodIn_ca (goodIn_r _ [6, 7, 8, 9, 10, 5, 11] (by decide +kernel) (by decide +kernel)) (goodIn_sub (fun _ h => List.mem_cons_of_mem _ (List.mem_append_right _ h)) (by decide +kernel))
set_option maxRecDepth 20000 in
theorem gX2_setWay_X2_requireZone : GoodIn wsX2_setWay (va_wsS RX2 30 yX2_requireZone wsX2_requireZone) := goodIn_app (goodIn_of _ (by decide +kernel)) ggX2_setWay_X2_requireZone
set_option maxRecDepth 20000 in
theorem ggX2_setWay_X2_wayBetween : GoodIn wsX2_setWay wsX2_wayBetween := goodIn_r _ [15, 16, 21, 22, 23, 24, 25, 26, 27] (by decide +kernel) (by decide +kernel)
set_option maxRecDepth 20000 in
theorem gX2_setWay_X2_wayBetween : GoodIn wsX2_setWay (wsV RX2 43 RX2 yX2_wayBetween wsX2_wayBetween) := goodIn_app (goodIn_of _ (by decide +kernel)) ggX2_setWay_X2_wayBetween
set_option maxRecDepth 20000 in
theorem ggX2_setWay_X2_putWay : GoodIn wsX2_setWay wsX2_putWay := goodIn_r _ [20, 16, 21, 22, 23, 24, 25, 26, 27] (by decide +kernel) (by decide +kernel)
set_option maxRecDepth 20000 in
theorem gX2_setWay_X2_putWay : GoodIn wsX2_setWay (wsV RX2 47 RX2 yX2_putWay wsX2_putWay) := goodIn_app (goodIn_of _ (by decide +kernel)) ggX2_setWay_X2_putWay
theorem dX2_setWay_0 : decode cX2_setWay 0 = .ok (.iload_n 1, 1) := by decide +kernel
theorem dX2_setWay_1 : decode cX2_setWay 1 = .ok (.invokestatic 30, 3) := by decide +kernel
theorem dX2_setWay_4 : decode cX2_setWay 4 = .ok (.iload_n 2, 1) := by decide +kernel
theorem dX2_setWay_5 : decode cX2_setWay 5 = .ok (.invokestatic 30, 3) := by decide +kernel
theorem dX2_setWay_8 : decode cX2_setWay 8 = .ok (.iload_n 1, 1) := by decide +kernel
theorem dX2_setWay_9 : decode cX2_setWay 9 = .ok (.iload_n 2, 1) := by decide +kernel
theorem dX2_setWay_10 : decode cX2_setWay 10 = .ok (.if_icmp .ne 13, 3) := by decide +kernel
theorem dX2_setWay_13 : decode cX2_setWay 13 = .ok (.new 34, 3) := by decide +kernel
theorem dX2_setWay_16 : decode cX2_setWay 16 = .ok (.dup, 1) := by decide +kernel
theorem dX2_setWay_17 : decode cX2_setWay 17 = .ok (.ldc 36, 2) := by decide +kernel
theorem dX2_setWay_19 : decode cX2_setWay 19 = .ok (.invokespecial 38, 3) := by decide +kernel
theorem dX2_setWay_22 : decode cX2_setWay 22 = .ok (.athrow, 1) := by decide +kernel
theorem dX2_setWay_23 : decode cX2_setWay 23 = .ok (.iload_n 3, 1) := by decide +kernel
theorem dX2_setWay_24 : decode cX2_setWay 24 = .ok (.iconst 1, 1) := by decide +kernel
theorem dX2_setWay_25 : decode cX2_setWay 25 = .ok (.if_icmp .lt 9, 3) := by decide +kernel
theorem dX2_setWay_28 : decode cX2_setWay 28 = .ok (.iload_n 3, 1) := by decide +kernel
theorem dX2_setWay_29 : decode cX2_setWay 29 = .ok (.bipush 120, 2) := by decide +kernel
theorem dX2_setWay_31 : decode cX2_setWay 31 = .ok (.if_icmp .le 13, 3) := by decide +kernel
theorem dX2_setWay_34 : decode cX2_setWay 34 = .ok (.new 34, 3) := by decide +kernel
theorem dX2_setWay_37 : decode cX2_setWay 37 = .ok (.dup, 1) := by decide +kernel
theorem dX2_setWay_38 : decode cX2_setWay 38 = .ok (.ldc 41, 2) := by decide +kernel
theorem dX2_setWay_40 : decode cX2_setWay 40 = .ok (.invokespecial 38, 3) := by decide +kernel
theorem dX2_setWay_43 : decode cX2_setWay 43 = .ok (.athrow, 1) := by decide +kernel
theorem dX2_setWay_44 : decode cX2_setWay 44 = .ok (.aload_n 0, 1) := by decide +kernel
theorem dX2_setWay_45 : decode cX2_setWay 45 = .ok (.iload_n 1, 1) := by decide +kernel
theorem dX2_setWay_46 : decode cX2_setWay 46 = .ok (.iload_n 2, 1) := by decide +kernel
theorem dX2_setWay_47 : decode cX2_setWay 47 = .ok (.invokevirtual 43, 3) := by decide +kernel
theorem dX2_setWay_50 : decode cX2_setWay 50 = .ok (.istore 4, 2) := by decide +kernel
theorem dX2_setWay_52 : decode cX2_setWay 52 = .ok (.aload_n 0, 1) := by decide +kernel
theorem dX2_setWay_53 : decode cX2_setWay 53 = .ok (.iload_n 1, 1) := by decide +kernel
theorem dX2_setWay_54 : decode cX2_setWay 54 = .ok (.iload_n 2, 1) := by decide +kernel
theorem dX2_setWay_55 : decode cX2_setWay 55 = .ok (.iload_n 3, 1) := by decide +kernel
theorem dX2_setWay_56 : decode cX2_setWay 56 = .ok (.invokevirtual 47, 3) := by decide +kernel
theorem dX2_setWay_59 : decode cX2_setWay 59 = .ok (.aload_n 0, 1) := by decide +kernel
theorem dX2_setWay_60 : decode cX2_setWay 60 = .ok (.iload_n 2, 1) := by decide +kernel
theorem dX2_setWay_61 : decode cX2_setWay 61 = .ok (.iload_n 1, 1) := by decide +kernel
theorem dX2_setWay_62 : decode cX2_setWay 62 = .ok (.iload_n 3, 1) := by decide +kernel
theorem dX2_setWay_63 : decode cX2_setWay 63 = .ok (.invokevirtual 47, 3) := by decide +kernel
theorem dX2_setWay_66 : decode cX2_setWay 66 = .ok (.iload 4, 2) := by decide +kernel
theorem dX2_setWay_68 : decode cX2_setWay 68 = .ok (.ireturn, 1) := by decide +kernel
set_option maxRecDepth 20000 in
theorem ggX2_addCab_X2_isZone : GoodIn wsX2_addCab wsX2_isZone := goodIn_r _ [12] (by decide +kernel) (by decide +kernel)
set_option maxRecDepth 20000 in
theorem gX2_addCab_X2_isZone : GoodIn wsX2_addCab (va_wsS RX2 53 yX2_isZone wsX2_isZone) := goodIn_app (goodIn_of _ (by decide +kernel)) ggX2_addCab_X2_isZone
set_option maxRecDepth 20000 in
theorem ggX2_addCab_Jx4a65c_size_8abf5 : GoodIn wsX2_addCab wsJx4a65c_size_8abf5 := goodIn_r _ [17, 18, 99, 100, 101] (by decide +kernel) (by decide +kernel)
set_option maxRecDepth 20000 in
theorem gX2_addCab_Jx4a65c_size_8abf5 : GoodIn wsX2_addCab (wsV RX2 59 RJx4a65c yJx4a65c_size_8abf5 wsJx4a65c_size_8abf5) := goodIn_app (goodIn_of _ (by decide +kernel)) ggX2_addCab_Jx4a65c_size_8abf5
set_option maxRecDepth 20000 in
theorem ggX2_addCab_X0_init : GoodIn wsX2_addCab wsX0_init := goodIn_r _ [21, 22, 23, 24, 25, 26, 27, 28, 90, 91, 92, 93, 94, 95, 96, 97, 98] (by decide +kernel) (by decide +kernel)
set_option maxRecDepth 20000 in
theorem gX2_addCab_X0_init : GoodIn wsX2_addCab (wsX0_init) := ggX2_addCab_X0_init
set_option maxRecDepth 20000 in
theorem ggX2_addCab_Jx4a65c_add_9ea2d : GoodIn wsX2_addCab wsJx4a65c_add_9ea2d := goodIn_r _ [32, 33, 34, 35, 18, 36, 37, 38, 16, 39, 40, 41, 42, 43, 44, 45, 46, 47, 48, 49, 50, 51, 52, 53, 54, 55, 56, 57, 58, 59, 60, 61, 62, 63, 64, 65, 66, 67, 68, 69, 70, 71, 72, 73, 74, 75, 76, 77, 78, 79, 80, 81, 82, 99, 100, 101] (by decide +kernel) (by decide +kernel)
set_option maxRecDepth 20000 in
theorem gX2_addCab_Jx4a65c_add_9ea2d : GoodIn wsX2_addCab (wsV RX2 72 RJx4a65c yJx4a65c_add_9ea2d wsJx4a65c_add_9ea2d) := goodIn_app (goodIn_of _ (by decide +kernel)) ggX2_addCab_Jx4a65c_add_9ea2d
theorem dX2_addCab_0 : decode cX2_addCab 0 = .ok (.iload_n 1, 1) := by decide +kernel
theorem dX2_addCab_1 : decode cX2_addCab 1 = .ok (.iconst 1, 1) := by decide +kernel
theorem dX2_addCab_2 : decode cX2_addCab 2 = .ok (.if_icmp .lt 9, 3) := by decide +kernel
theorem dX2_addCab_5 : decode cX2_addCab 5 = .ok (.iload_n 1, 1) := by decide +kernel
theorem dX2_addCab_6 : decode cX2_addCab 6 = .ok (.bipush 8, 2) := by decide +kernel
theorem dX2_addCab_8 : decode cX2_addCab 8 = .ok (.if_icmp .le 13, 3) := by decide +kernel
theorem dX2_addCab_11 : decode cX2_addCab 11 = .ok (.new 34, 3) := by decide +kernel
theorem dX2_addCab_14 : decode cX2_addCab 14 = .ok (.dup, 1) := by decide +kernel
theorem dX2_addCab_15 : decode cX2_addCab 15 = .ok (.ldc 51, 2) := by decide +kernel
theorem dX2_addCab_17 : decode cX2_addCab 17 = .ok (.invokespecial 38, 3) := by decide +kernel
theorem dX2_addCab_20 : decode cX2_addCab 20 = .ok (.athrow, 1) := by decide +kernel
theorem dX2_addCab_21 : decode cX2_addCab 21 = .ok (.iload_n 2, 1) := by decide +kernel
theorem dX2_addCab_22 : decode cX2_addCab 22 = .ok (.invokestatic 53, 3) := by decide +kernel
theorem dX2_addCab_25 : decode cX2_addCab 25 = .ok (.ifCond .ne 13, 3) := by decide +kernel
theorem dX2_addCab_28 : decode cX2_addCab 28 = .ok (.new 34, 3) := by decide +kernel
theorem dX2_addCab_31 : decode cX2_addCab 31 = .ok (.dup, 1) := by decide +kernel
theorem dX2_addCab_32 : decode cX2_addCab 32 = .ok (.ldc 57, 2) := by decide +kernel
theorem dX2_addCab_34 : decode cX2_addCab 34 = .ok (.invokespecial 38, 3) := by decide +kernel
theorem dX2_addCab_37 : decode cX2_addCab 37 = .ok (.athrow, 1) := by decide +kernel
theorem dX2_addCab_38 : decode cX2_addCab 38 = .ok (.aload_n 0, 1) := by decide +kernel
theorem dX2_addCab_39 : decode cX2_addCab 39 = .ok (.getfield 16, 3) := by decide +kernel
theorem dX2_addCab_42 : decode cX2_addCab 42 = .ok (.invokevirtual 59, 3) := by decide +kernel
theorem dX2_addCab_45 : decode cX2_addCab 45 = .ok (.istore_n 3, 1) := by decide +kernel
theorem dX2_addCab_46 : decode cX2_addCab 46 = .ok (.iload_n 3, 1) := by decide +kernel
theorem dX2_addCab_47 : decode cX2_addCab 47 = .ok (.bipush 10, 2) := by decide +kernel
theorem dX2_addCab_49 : decode cX2_addCab 49 = .ok (.if_icmp .lt 13, 3) := by decide +kernel
theorem dX2_addCab_52 : decode cX2_addCab 52 = .ok (.new 63, 3) := by decide +kernel
theorem dX2_addCab_55 : decode cX2_addCab 55 = .ok (.dup, 1) := by decide +kernel
theorem dX2_addCab_56 : decode cX2_addCab 56 = .ok (.ldc 65, 2) := by decide +kernel
theorem dX2_addCab_58 : decode cX2_addCab 58 = .ok (.invokespecial 67, 3) := by decide +kernel
theorem dX2_addCab_61 : decode cX2_addCab 61 = .ok (.athrow, 1) := by decide +kernel
theorem dX2_addCab_62 : decode cX2_addCab 62 = .ok (.aload_n 0, 1) := by decide +kernel
theorem dX2_addCab_63 : decode cX2_addCab 63 = .ok (.getfield 16, 3) := by decide +kernel
theorem dX2_addCab_66 : decode cX2_addCab 66 = .ok (.new 68, 3) := by decide +kernel
theorem dX2_addCab_69 : decode cX2_addCab 69 = .ok (.dup, 1) := by decide +kernel
theorem dX2_addCab_70 : decode cX2_addCab 70 = .ok (.iload_n 3, 1) := by decide +kernel
theorem dX2_addCab_71 : decode cX2_addCab 71 = .ok (.iload_n 1, 1) := by decide +kernel
theorem dX2_addCab_72 : decode cX2_addCab 72 = .ok (.iload_n 2, 1) := by decide +kernel
theorem dX2_addCab_73 : decode cX2_addCab 73 = .ok (.invokespecial 70, 3) := by decide +kernel
theorem dX2_addCab_76 : decode cX2_addCab 76 = .ok (.invokevirtual 72, 3) := by decide +kernel
theorem dX2_addCab_79 : decode cX2_addCab 79 = .ok (.pop, 1) := by decide +kernel
theorem dX2_addCab_80 : decode cX2_addCab 80 = .ok (.iload_n 3, 1) := by decide +kernel
theorem dX2_addCab_81 : decode cX2_addCab 81 = .ok (.ireturn, 1) := by decide +kernel
set_option maxRecDepth 20000 in
theorem ggX2_start_X2_cabNumbered : GoodIn wsX2_start wsX2_cabNumbered := goodIn_ca (goodIn_r _ [8, 9, 10, 11, 12, 13, 14, 15, 16, 17, 18, 19, 20, 21, 22, 23, 24, 25, 26, 27, 28, 29, 30, 31, 32, 33, 34, 35, 106, 107, 108, 109, 110, 111, 112, 113, 114, 115] (by decide +kernel) (by decide +kernel)) (goodIn_sub (fun _ h => List.mem_cons_of_mem _ (List.mem_append_right _ h)) (by decide +kernel))
set_option maxRecDepth 20000 in
theorem gX2_start_X2_cabNumbered : GoodIn wsX2_start (wsV RX2 76 RX2 yX2_cabNumbered wsX2_cabNumbered) := goodIn_app (goodIn_of _ (by decide +kernel)) ggX2_start_X2_cabNumbered
set_option maxRecDepth 20000 in
theorem ggX2_start_X2_joinQueue : GoodIn wsX2_start wsX2_joinQueue := goodIn_r _ [39, 3, 40, 41, 97, 98, 99, 100, 101, 102, 103, 104, 105, 106, 107, 108, 109, 110, 111, 112] (by decide +kernel) (by decide +kernel)
set_option maxRecDepth 20000 in
theorem gX2_start_X2_joinQueue : GoodIn wsX2_start (wsV RX2 85 RX2 yX2_joinQueue wsX2_joinQueue) := goodIn_app (goodIn_of _ (by decide +kernel)) ggX2_start_X2_joinQueue
set_option maxRecDepth 20000 in
theorem ggX2_start_X2_makeOffers : GoodIn wsX2_start wsX2_makeOffers := goodIn_r _ [45, 11, 13, 14, 15, 16, 17, 18, 46, 47, 48, 7, 49, 50, 51, 52, 53, 54, 55, 56, 57, 19, 20, 21, 22, 23, 24, 25, 26, 27, 28, 29, 30, 31, 32, 33, 34, 35, 58, 59, 60, 61, 62, 63, 64, 65, 12, 66, 67, 41, 68, 69, 70, 71, 72, 73, 74, 75, 76, 3, 77, 78, 79, 80, 81, 82, 83, 84, 85, 86, 87, 88, 89, 106, 107, 108, 109, 110, 111, 112, 113, 114, 115, 116, 117, 118, 119, 120, 121, 122, 123, 124, 125, 126, 127, 128, 129, 130, 97, 98, 99, 100, 101, 102, 103, 104, 105] (by decide +kernel) (by decide +kernel)
set_option maxRecDepth 20000 in
theorem gX2_start_X2_makeOffers : GoodIn wsX2_start (wsV RX2 89 RX2 yX2_makeOffers wsX2_makeOffers) := goodIn_app (goodIn_of _ (by decide +kernel)) ggX2_start_X2_makeOffers
set_option maxRecDepth 20000 in
theorem ggX2_start_X2_placeOf : GoodIn wsX2_start wsX2_placeOf := goodIn_r _ [93, 3, 11, 12, 66, 41, 13, 14, 15, 16, 17, 18, 19, 20, 21, 22, 23, 24, 25, 26, 27, 28, 29, 30, 31, 32, 33, 34, 35, 94, 95, 7, 96, 97, 98, 99, 100, 101, 102, 103, 104, 105, 106, 107, 108, 109, 110, 111, 112, 113, 114, 115] (by decide +kernel) (by decide +kernel)
set_option maxRecDepth 20000 in
theorem gX2_start_X2_placeOf : GoodIn wsX2_start (wsV RX2 92 RX2 yX2_placeOf wsX2_placeOf) := goodIn_app (goodIn_of _ (by decide +kernel)) ggX2_start_X2_placeOf
theorem dX2_start_0 : decode cX2_start 0 = .ok (.aload_n 0, 1) := by decide +kernel
theorem dX2_start_1 : decode cX2_start 1 = .ok (.iload_n 1, 1) := by decide +kernel
theorem dX2_start_2 : decode cX2_start 2 = .ok (.invokevirtual 76, 3) := by decide +kernel
theorem dX2_start_5 : decode cX2_start 5 = .ok (.astore_n 2, 1) := by decide +kernel
theorem dX2_start_6 : decode cX2_start 6 = .ok (.aload_n 2, 1) := by decide +kernel
theorem dX2_start_7 : decode cX2_start 7 = .ok (.getfield 80, 3) := by decide +kernel
theorem dX2_start_10 : decode cX2_start 10 = .ok (.ifCond .eq 13, 3) := by decide +kernel
theorem dX2_start_13 : decode cX2_start 13 = .ok (.new 63, 3) := by decide +kernel
theorem dX2_start_16 : decode cX2_start 16 = .ok (.dup, 1) := by decide +kernel
theorem dX2_start_17 : decode cX2_start 17 = .ok (.ldc 83, 2) := by decide +kernel
theorem dX2_start_19 : decode cX2_start 19 = .ok (.invokespecial 67, 3) := by decide +kernel
theorem dX2_start_22 : decode cX2_start 22 = .ok (.athrow, 1) := by decide +kernel
theorem dX2_start_23 : decode cX2_start 23 = .ok (.aload_n 0, 1) := by decide +kernel
theorem dX2_start_24 : decode cX2_start 24 = .ok (.aload_n 2, 1) := by decide +kernel
theorem dX2_start_25 : decode cX2_start 25 = .ok (.invokevirtual 85, 3) := by decide +kernel
theorem dX2_start_28 : decode cX2_start 28 = .ok (.aload_n 0, 1) := by decide +kernel
theorem dX2_start_29 : decode cX2_start 29 = .ok (.invokevirtual 89, 3) := by decide +kernel
theorem dX2_start_32 : decode cX2_start 32 = .ok (.aload_n 0, 1) := by decide +kernel
theorem dX2_start_33 : decode cX2_start 33 = .ok (.aload_n 2, 1) := by decide +kernel
theorem dX2_start_34 : decode cX2_start 34 = .ok (.invokevirtual 92, 3) := by decide +kernel
theorem dX2_start_37 : decode cX2_start 37 = .ok (.ireturn, 1) := by decide +kernel
set_option maxRecDepth 20000 in
theorem ggX2_stop_X2_cabNumbered : GoodIn wsX2_stop wsX2_cabNumbered := goodIn_ca (goodIn_r _ [9, 10, 11, 12, 13, 14, 15, 16, 17, 18, 19, 20, 21, 22, 23, 24, 25, 26, 27, 28, 29, 30, 31, 32, 33, 34, 35, 36, 106, 107, 108, 109, 110, 111, 112, 113, 114, 115] (by decide +kernel) (by decide +kernel)) (goodIn_sub (fun _ h => List.mem_cons_of_mem _ (List.mem_append_right _ h)) (by decide +kernel))
set_option maxRecDepth 20000 in
theorem gX2_stop_X2_cabNumbered : GoodIn wsX2_stop (wsV RX2 76 RX2 yX2_cabNumbered wsX2_cabNumbered) := goodIn_app (goodIn_of _ (by decide +kernel)) ggX2_stop_X2_cabNumbered
set_option maxRecDepth 20000 in
theorem ggX2_stop_X2_turnDown : GoodIn wsX2_stop wsX2_turnDown := goodIn_r _ [40, 41, 42, 43, 44, 45, 46, 8, 47, 3, 48, 49, 50, 51, 52, 53, 54, 55, 56, 57, 116, 117, 118, 119, 120, 121, 122, 123, 124, 125, 126, 127, 128, 129, 130, 97, 98, 99, 100, 101, 102, 103, 104, 105, 106, 107, 108, 109, 110, 111, 112] (by decide +kernel) (by decide +kernel)
set_option maxRecDepth 20000 in
theorem gX2_stop_X2_turnDown : GoodIn wsX2_stop (wsV RX2 98 RX2 yX2_turnDown wsX2_turnDown) := goodIn_app (goodIn_of _ (by decide +kernel)) ggX2_stop_X2_turnDown
set_option maxRecDepth 20000 in
theorem ggX2_stop_X2_makeOffers : GoodIn wsX2_stop wsX2_makeOffers := goodIn_r _ [61, 12, 14, 15, 16, 17, 18, 19, 62, 63, 64, 8, 65, 66, 67, 68, 42, 43, 69, 70, 44, 20, 21, 22, 23, 24, 25, 26, 27, 28, 29, 30, 31, 32, 33, 34, 35, 36, 71, 72, 73, 74, 75, 76, 77, 78, 13, 4, 79, 57, 80, 81, 82, 83, 84, 41, 85, 86, 87, 3, 48, 49, 50, 51, 88, 89, 90, 91, 92, 93, 94, 95, 96, 106, 107, 108, 109, 110, 111, 112, 113, 114, 115, 116, 117, 118, 119, 120, 121, 122, 123, 124, 125, 126, 127, 128, 129, 130, 97, 98, 99, 100, 101, 102, 103, 104, 105] (by decide +kernel) (by decide +kernel)
set_option maxRecDepth 20000 in
theorem gX2_stop_X2_makeOffers : GoodIn wsX2_stop (wsV RX2 89 RX2 yX2_makeOffers wsX2_makeOffers) := goodIn_app (goodIn_of _ (by decide +kernel)) ggX2_stop_X2_makeOffers
theorem dX2_stop_0 : decode cX2_stop 0 = .ok (.aload_n 0, 1) := by decide +kernel
theorem dX2_stop_1 : decode cX2_stop 1 = .ok (.iload_n 1, 1) := by decide +kernel
theorem dX2_stop_2 : decode cX2_stop 2 = .ok (.invokevirtual 76, 3) := by decide +kernel
theorem dX2_stop_5 : decode cX2_stop 5 = .ok (.astore_n 2, 1) := by decide +kernel
theorem dX2_stop_6 : decode cX2_stop 6 = .ok (.aload_n 2, 1) := by decide +kernel
theorem dX2_stop_7 : decode cX2_stop 7 = .ok (.getfield 80, 3) := by decide +kernel
theorem dX2_stop_10 : decode cX2_stop 10 = .ok (.iconst 1, 1) := by decide +kernel
theorem dX2_stop_11 : decode cX2_stop 11 = .ok (.if_icmp .eq 13, 3) := by decide +kernel
theorem dX2_stop_14 : decode cX2_stop 14 = .ok (.new 63, 3) := by decide +kernel
theorem dX2_stop_17 : decode cX2_stop 17 = .ok (.dup, 1) := by decide +kernel
theorem dX2_stop_18 : decode cX2_stop 18 = .ok (.ldc 96, 2) := by decide +kernel
theorem dX2_stop_20 : decode cX2_stop 20 = .ok (.invokespecial 67, 3) := by decide +kernel
theorem dX2_stop_23 : decode cX2_stop 23 = .ok (.athrow, 1) := by decide +kernel
theorem dX2_stop_24 : decode cX2_stop 24 = .ok (.aload_n 0, 1) := by decide +kernel
theorem dX2_stop_25 : decode cX2_stop 25 = .ok (.aload_n 2, 1) := by decide +kernel
theorem dX2_stop_26 : decode cX2_stop 26 = .ok (.invokevirtual 98, 3) := by decide +kernel
theorem dX2_stop_29 : decode cX2_stop 29 = .ok (.aload_n 2, 1) := by decide +kernel
theorem dX2_stop_30 : decode cX2_stop 30 = .ok (.iconst 0, 1) := by decide +kernel
theorem dX2_stop_31 : decode cX2_stop 31 = .ok (.putfield 80, 3) := by decide +kernel
theorem dX2_stop_34 : decode cX2_stop 34 = .ok (.aload_n 0, 1) := by decide +kernel
theorem dX2_stop_35 : decode cX2_stop 35 = .ok (.invokevirtual 89, 3) := by decide +kernel
theorem dX2_stop_38 : decode cX2_stop 38 = .ok (.aload_n 2, 1) := by decide +kernel
theorem dX2_stop_39 : decode cX2_stop 39 = .ok (.getfield 101, 3) := by decide +kernel
theorem dX2_stop_42 : decode cX2_stop 42 = .ok (.ireturn, 1) := by decide +kernel
set_option maxRecDepth 20000 in
theorem ggX2_cab_X2_cabNumbered : GoodIn wsX2_cab wsX2_cabNumbered := goodIn_ca (goodIn_r _ [7, 1, 2, 8, 9, 10, 11, 12, 13, 14, 15, 16, 17, 18, 19, 20, 21, 22, 23, 24, 25, 26, 27, 28, 29, 30, 31, 32, 50, 51, 52, 53, 54, 55, 56, 57, 58, 59] (by decide +kernel) (by decide +kernel)) (goodIn_sub (fun _ h => List.mem_cons_of_mem _ (List.mem_append_right _ h)) (by decide +kernel))
set_option maxRecDepth 20000 in
theorem gX2_cab_X2_cabNumbered : GoodIn wsX2_cab (wsV RX2 76 RX2 yX2_cabNumbered wsX2_cabNumbered) := goodIn_app (goodIn_of _ (by decide +kernel)) ggX2_cab_X2_cabNumbered
set_option maxRecDepth 20000 in
theorem ggX2_cab_X2_cabDetail : GoodIn wsX2_cab wsX2_cabDetail := goodIn_r _ [36, 37, 38, 39, 40, 41, 42, 43, 44, 6, 45, 8, 9, 46, 10, 11, 12, 13, 14, 15, 16, 17, 18, 19, 20, 21, 22, 23, 24, 25, 26, 27, 28, 29, 30, 31, 32, 47, 48, 49, 60, 61, 62, 63, 64, 65, 66, 67, 68, 69, 70, 71, 72, 73, 74, 75, 76, 77, 78, 79, 80, 81, 82, 83, 50, 51, 52, 53, 54, 55, 56, 57, 58, 59] (by decide +kernel) (by decide +kernel)
set_option maxRecDepth 20000 in
theorem gX2_cab_X2_cabDetail : GoodIn wsX2_cab (wsV RX2 113 RX2 yX2_cabDetail wsX2_cabDetail) := goodIn_app (goodIn_of _ (by decide +kernel)) ggX2_cab_X2_cabDetail
theorem dX2_cab_0 : decode cX2_cab 0 = .ok (.aload_n 0, 1) := by decide +kernel
theorem dX2_cab_1 : decode cX2_cab 1 = .ok (.iload_n 1, 1) := by decide +kernel
theorem dX2_cab_2 : decode cX2_cab 2 = .ok (.invokevirtual 76, 3) := by decide +kernel
theorem dX2_cab_5 : decode cX2_cab 5 = .ok (.astore_n 3, 1) := by decide +kernel
theorem dX2_cab_6 : decode cX2_cab 6 = .ok (.iload_n 2, 1) := by decide +kernel
theorem dX2_cab_7 : decode cX2_cab 7 = .ok (.ifCond .lt 8, 3) := by decide +kernel
theorem dX2_cab_10 : decode cX2_cab 10 = .ok (.iload_n 2, 1) := by decide +kernel
theorem dX2_cab_11 : decode cX2_cab 11 = .ok (.iconst 5, 1) := by decide +kernel
theorem dX2_cab_12 : decode cX2_cab 12 = .ok (.if_icmp .lt 13, 3) := by decide +kernel
theorem dX2_cab_15 : decode cX2_cab 15 = .ok (.new 108, 3) := by decide +kernel
theorem dX2_cab_18 : decode cX2_cab 18 = .ok (.dup, 1) := by decide +kernel
theorem dX2_cab_19 : decode cX2_cab 19 = .ok (.ldc 110, 2) := by decide +kernel
theorem dX2_cab_21 : decode cX2_cab 21 = .ok (.invokespecial 112, 3) := by decide +kernel
theorem dX2_cab_24 : decode cX2_cab 24 = .ok (.athrow, 1) := by decide +kernel
theorem dX2_cab_25 : decode cX2_cab 25 = .ok (.aload_n 0, 1) := by decide +kernel
theorem dX2_cab_26 : decode cX2_cab 26 = .ok (.aload_n 3, 1) := by decide +kernel
theorem dX2_cab_27 : decode cX2_cab 27 = .ok (.iload_n 2, 1) := by decide +kernel
theorem dX2_cab_28 : decode cX2_cab 28 = .ok (.invokevirtual 113, 3) := by decide +kernel
theorem dX2_cab_31 : decode cX2_cab 31 = .ok (.ireturn, 1) := by decide +kernel
set_option maxRecDepth 20000 in
theorem ggX2_order_X2_requireZone : GoodIn wsX2_order wsX2_requireZone := goodIn_ca (goodIn_r _ [13, 14, 15, 16, 17, 12, 18] (by decide +kernel) (by decide +kernel)) (goodIn_sub (fun _ h => List.mem_cons_of_mem _ (List.mem_append_right _ h)) (by decide +kernel))
set_option maxRecDepth 20000 in
theorem gX2_order_X2_requireZone : GoodIn wsX2_order (va_wsS RX2 30 yX2_requireZone wsX2_requireZone) := goodIn_app (goodIn_of _ (by decide +kernel)) ggX2_order_X2_requireZone
set_option maxRecDepth 20000 in
theorem ggX2_order_X2_requirePassengers : GoodIn wsX2_order wsX2_requirePassengers := goodIn_ca (goodIn_r _ [21, 1, 2] (by decide +kernel) (by decide +kernel)) (goodIn_sub (fun _ h => List.mem_cons_of_mem _ (List.mem_append_left _ (List.mem_append_left _ (List.mem_append_right _ h)))) (by decide +kernel))
set_option maxRecDepth 20000 in
theorem gX2_order_X2_requirePassengers : GoodIn wsX2_order (va_wsS RX2 117 yX2_requirePassengers wsX2_requirePassengers) := goodIn_app (goodIn_of _ (by decide +kernel)) ggX2_order_X2_requirePassengers
set_option maxRecDepth 20000 in
theorem ggX2_order_Jx4a65c_size_8abf5 : GoodIn wsX2_order wsJx4a65c_size_8abf5 := goodIn_r _ [26, 27, 184, 185, 186] (by decide +kernel) (by decide +kernel)
set_option maxRecDepth 20000 in
theorem gX2_order_Jx4a65c_size_8abf5 : GoodIn wsX2_order (wsV RX2 59 RJx4a65c yJx4a65c_size_8abf5 wsJx4a65c_size_8abf5) := goodIn_app (goodIn_of _ (by decide +kernel)) ggX2_order_Jx4a65c_size_8abf5
set_option maxRecDepth 20000 in
theorem ggX2_order_X1_init : GoodIn wsX2_order wsX1_init := goodIn_r _ [30, 31, 32, 33, 34, 35, 36, 37, 38, 39, 40, 41, 169, 170, 171, 172, 173, 174, 175, 176, 177, 178, 179, 180, 181, 182, 183] (by decide +kernel) (by decide +kernel)
set_option maxRecDepth 20000 in
theorem gX2_order_X1_init : GoodIn wsX2_order (wsX1_init) := ggX2_order_X1_init
set_option maxRecDepth 20000 in
theorem ggX2_order_Jx4a65c_add_9ea2d : GoodIn wsX2_order wsJx4a65c_add_9ea2d := goodIn_r _ [45, 46, 47, 48, 27, 49, 50, 51, 25, 52, 53, 54, 55, 56, 57, 58, 59, 60, 61, 62, 63, 64, 65, 66, 67, 68, 69, 70, 71, 72, 73, 74, 75, 76, 77, 78, 79, 80, 81, 82, 83, 84, 85, 86, 87, 88, 89, 90, 91, 92, 93, 94, 95, 184, 185, 186] (by decide +kernel) (by decide +kernel)
set_option maxRecDepth 20000 in
theorem gX2_order_Jx4a65c_add_9ea2d : GoodIn wsX2_order (wsV RX2 72 RJx4a65c yJx4a65c_add_9ea2d wsJx4a65c_add_9ea2d) := goodIn_app (goodIn_of _ (by decide +kernel)) ggX2_order_Jx4a65c_add_9ea2d
set_option maxRecDepth 20000 in
theorem ggX2_order_X2_makeOffers : GoodIn wsX2_order wsX2_makeOffers := goodIn_r _ [99, 100, 22, 23, 24, 25, 26, 27, 101, 102, 103, 12, 104, 6, 105, 106, 107, 108, 5, 109, 110, 111, 112, 113, 114, 115, 116, 117, 118, 119, 120, 121, 122, 123, 124, 125, 126, 48, 127, 128, 129, 130, 131, 132, 133, 134, 135, 136, 137, 138, 139, 140, 141, 142, 143, 144, 145, 146, 147, 148, 149, 150, 151, 152, 153, 154, 155, 156, 157, 158, 159, 160, 161, 162, 163, 164, 165, 166, 167, 168, 184, 185, 186, 169, 170, 171, 172, 173, 174, 175, 176, 177, 178, 179, 180, 181, 182, 183, 187, 188, 189, 190, 191, 192, 193, 194, 195] (by decide +kernel) (by decide +kernel)
set_option maxRecDepth 20000 in
theorem gX2_order_X2_makeOffers : GoodIn wsX2_order (wsV RX2 89 RX2 yX2_makeOffers wsX2_makeOffers) := goodIn_app (goodIn_of _ (by decide +kernel)) ggX2_order_X2_makeOffers
theorem dX2_order_0 : decode cX2_order 0 = .ok (.iload_n 1, 1) := by decide +kernel
theorem dX2_order_1 : decode cX2_order 1 = .ok (.invokestatic 30, 3) := by decide +kernel
theorem dX2_order_4 : decode cX2_order 4 = .ok (.iload_n 2, 1) := by decide +kernel
theorem dX2_order_5 : decode cX2_order 5 = .ok (.invokestatic 30, 3) := by decide +kernel
theorem dX2_order_8 : decode cX2_order 8 = .ok (.iload_n 3, 1) := by decide +kernel
theorem dX2_order_9 : decode cX2_order 9 = .ok (.invokestatic 117, 3) := by decide +kernel
theorem dX2_order_12 : decode cX2_order 12 = .ok (.iload 4, 2) := by decide +kernel
theorem dX2_order_14 : decode cX2_order 14 = .ok (.aload_n 0, 1) := by decide +kernel
theorem dX2_order_15 : decode cX2_order 15 = .ok (.getfield 120, 3) := by decide +kernel
theorem dX2_order_18 : decode cX2_order 18 = .ok (.if_icmp .lt 11, 3) := by decide +kernel
theorem dX2_order_21 : decode cX2_order 21 = .ok (.iload 4, 2) := by decide +kernel
theorem dX2_order_23 : decode cX2_order 23 = .ok (.sipush 9999, 3) := by decide +kernel
theorem dX2_order_26 : decode cX2_order 26 = .ok (.if_icmp .le 13, 3) := by decide +kernel
theorem dX2_order_29 : decode cX2_order 29 = .ok (.new 34, 3) := by decide +kernel
theorem dX2_order_32 : decode cX2_order 32 = .ok (.dup, 1) := by decide +kernel
theorem dX2_order_33 : decode cX2_order 33 = .ok (.ldc 123, 2) := by decide +kernel
theorem dX2_order_35 : decode cX2_order 35 = .ok (.invokespecial 38, 3) := by decide +kernel
theorem dX2_order_38 : decode cX2_order 38 = .ok (.athrow, 1) := by decide +kernel
theorem dX2_order_39 : decode cX2_order 39 = .ok (.aload_n 0, 1) := by decide +kernel
theorem dX2_order_40 : decode cX2_order 40 = .ok (.getfield 20, 3) := by decide +kernel
theorem dX2_order_43 : decode cX2_order 43 = .ok (.invokevirtual 59, 3) := by decide +kernel
theorem dX2_order_46 : decode cX2_order 46 = .ok (.istore 5, 2) := by decide +kernel
theorem dX2_order_48 : decode cX2_order 48 = .ok (.iload 5, 2) := by decide +kernel
theorem dX2_order_50 : decode cX2_order 50 = .ok (.bipush 60, 2) := by decide +kernel
theorem dX2_order_52 : decode cX2_order 52 = .ok (.if_icmp .lt 13, 3) := by decide +kernel
theorem dX2_order_55 : decode cX2_order 55 = .ok (.new 63, 3) := by decide +kernel
theorem dX2_order_58 : decode cX2_order 58 = .ok (.dup, 1) := by decide +kernel
theorem dX2_order_59 : decode cX2_order 59 = .ok (.ldc 125, 2) := by decide +kernel
theorem dX2_order_61 : decode cX2_order 61 = .ok (.invokespecial 67, 3) := by decide +kernel
theorem dX2_order_64 : decode cX2_order 64 = .ok (.athrow, 1) := by decide +kernel
theorem dX2_order_65 : decode cX2_order 65 = .ok (.aload_n 0, 1) := by decide +kernel
theorem dX2_order_66 : decode cX2_order 66 = .ok (.getfield 20, 3) := by decide +kernel
theorem dX2_order_69 : decode cX2_order 69 = .ok (.new 127, 3) := by decide +kernel
theorem dX2_order_72 : decode cX2_order 72 = .ok (.dup, 1) := by decide +kernel
theorem dX2_order_73 : decode cX2_order 73 = .ok (.iload 5, 2) := by decide +kernel
theorem dX2_order_75 : decode cX2_order 75 = .ok (.iload_n 1, 1) := by decide +kernel
theorem dX2_order_76 : decode cX2_order 76 = .ok (.iload_n 2, 1) := by decide +kernel
theorem dX2_order_77 : decode cX2_order 77 = .ok (.iload_n 3, 1) := by decide +kernel
theorem dX2_order_78 : decode cX2_order 78 = .ok (.iload 4, 2) := by decide +kernel
theorem dX2_order_80 : decode cX2_order 80 = .ok (.invokespecial 129, 3) := by decide +kernel
theorem dX2_order_83 : decode cX2_order 83 = .ok (.invokevirtual 72, 3) := by decide +kernel
theorem dX2_order_86 : decode cX2_order 86 = .ok (.pop, 1) := by decide +kernel
theorem dX2_order_87 : decode cX2_order 87 = .ok (.aload_n 0, 1) := by decide +kernel
theorem dX2_order_88 : decode cX2_order 88 = .ok (.invokevirtual 89, 3) := by decide +kernel
theorem dX2_order_91 : decode cX2_order 91 = .ok (.iload 5, 2) := by decide +kernel
theorem dX2_order_93 : decode cX2_order 93 = .ok (.ireturn, 1) := by decide +kernel
set_option maxRecDepth 20000 in
theorem ggX2_accept_X2_cabNumbered : GoodIn wsX2_accept wsX2_cabNumbered := goodIn_ca (goodIn_r _ [18, 19, 20, 21, 22, 23, 24, 25, 26, 27, 28, 29, 30, 31, 32, 33, 34, 35, 36, 37, 38, 39, 40, 41, 42, 43, 44, 45, 117, 118, 119, 120, 121, 122, 123, 124, 125, 126] (by decide +kernel) (by decide +kernel)) (goodIn_sub (fun _ h => List.mem_cons_of_mem _ (List.mem_append_right _ h)) (by decide +kernel))
set_option maxRecDepth 20000 in
theorem gX2_accept_X2_cabNumbered : GoodIn wsX2_accept (wsV RX2 76 RX2 yX2_cabNumbered wsX2_cabNumbered) := goodIn_app (goodIn_of _ (by decide +kernel)) ggX2_accept_X2_cabNumbered
set_option maxRecDepth 20000 in
theorem ggX2_accept_X2_offeredTo : GoodIn wsX2_accept wsX2_offeredTo := goodIn_r _ [48, 5, 49, 93, 94, 95, 96, 97, 98, 99, 100, 101] (by decide +kernel) (by decide +kernel)
set_option maxRecDepth 20000 in
theorem gX2_accept_X2_offeredTo : GoodIn wsX2_accept (va_wsS RX2 132 yX2_offeredTo wsX2_offeredTo) := goodIn_app (goodIn_of _ (by decide +kernel)) ggX2_accept_X2_offeredTo
set_option maxRecDepth 20000 in
theorem ggX2_accept_X2_wayBetween : GoodIn wsX2_accept wsX2_wayBetween := goodIn_r _ [53, 54, 117, 118, 119, 120, 121, 122, 123] (by decide +kernel) (by decide +kernel)
set_option maxRecDepth 20000 in
theorem gX2_accept_X2_wayBetween : GoodIn wsX2_accept (wsV RX2 43 RX2 yX2_wayBetween wsX2_wayBetween) := goodIn_app (goodIn_of _ (by decide +kernel)) ggX2_accept_X2_wayBetween
set_option maxRecDepth 20000 in
theorem ggX2_accept_X2_makeOffers : GoodIn wsX2_accept wsX2_makeOffers := goodIn_r _ [58, 21, 23, 24, 25, 26, 27, 28, 59, 60, 61, 17, 62, 63, 64, 7, 13, 65, 6, 66, 49, 29, 30, 31, 32, 33, 34, 35, 36, 37, 38, 39, 40, 41, 42, 43, 44, 45, 67, 68, 69, 70, 71, 72, 73, 74, 22, 3, 4, 75, 76, 77, 78, 79, 80, 81, 82, 83, 84, 5, 85, 86, 87, 88, 89, 90, 91, 92, 50, 51, 52, 53, 54, 117, 118, 119, 120, 121, 122, 123, 124, 125, 126, 102, 103, 104, 105, 106, 107, 108, 109, 110, 111, 112, 113, 114, 115, 116, 93, 94, 95, 96, 97, 98, 99, 100, 101] (by decide +kernel) (by decide +kernel)
set_option maxRecDepth 20000 in
theorem gX2_accept_X2_makeOffers : GoodIn wsX2_accept (wsV RX2 89 RX2 yX2_makeOffers wsX2_makeOffers) := goodIn_app (goodIn_of _ (by decide +kernel)) ggX2_accept_X2_makeOffers
theorem dX2_accept_0 : decode cX2_accept 0 = .ok (.aload_n 0, 1) := by decide +kernel
theorem dX2_accept_1 : decode cX2_accept 1 = .ok (.iload_n 1, 1) := by decide +kernel
theorem dX2_accept_2 : decode cX2_accept 2 = .ok (.invokevirtual 76, 3) := by decide +kernel
theorem dX2_accept_5 : decode cX2_accept 5 = .ok (.astore_n 2, 1) := by decide +kernel
theorem dX2_accept_6 : decode cX2_accept 6 = .ok (.aload_n 2, 1) := by decide +kernel
theorem dX2_accept_7 : decode cX2_accept 7 = .ok (.invokestatic 132, 3) := by decide +kernel
theorem dX2_accept_10 : decode cX2_accept 10 = .ok (.astore_n 3, 1) := by decide +kernel
theorem dX2_accept_11 : decode cX2_accept 11 = .ok (.aload_n 3, 1) := by decide +kernel
theorem dX2_accept_12 : decode cX2_accept 12 = .ok (.ifnonnull 13, 3) := by decide +kernel
theorem dX2_accept_15 : decode cX2_accept 15 = .ok (.new 63, 3) := by decide +kernel
theorem dX2_accept_18 : decode cX2_accept 18 = .ok (.dup, 1) := by decide +kernel
theorem dX2_accept_19 : decode cX2_accept 19 = .ok (.ldc 136, 2) := by decide +kernel
theorem dX2_accept_21 : decode cX2_accept 21 = .ok (.invokespecial 67, 3) := by decide +kernel
theorem dX2_accept_24 : decode cX2_accept 24 = .ok (.athrow, 1) := by decide +kernel
theorem dX2_accept_25 : decode cX2_accept 25 = .ok (.aload_n 0, 1) := by decide +kernel
theorem dX2_accept_26 : decode cX2_accept 26 = .ok (.aload_n 2, 1) := by decide +kernel
theorem dX2_accept_27 : decode cX2_accept 27 = .ok (.getfield 101, 3) := by decide +kernel
theorem dX2_accept_30 : decode cX2_accept 30 = .ok (.aload_n 3, 1) := by decide +kernel
theorem dX2_accept_31 : decode cX2_accept 31 = .ok (.getfield 138, 3) := by decide +kernel
theorem dX2_accept_34 : decode cX2_accept 34 = .ok (.invokevirtual 43, 3) := by decide +kernel
theorem dX2_accept_37 : decode cX2_accept 37 = .ok (.istore 4, 2) := by decide +kernel
theorem dX2_accept_39 : decode cX2_accept 39 = .ok (.aload_n 2, 1) := by decide +kernel
theorem dX2_accept_40 : decode cX2_accept 40 = .ok (.iconst 2, 1) := by decide +kernel
theorem dX2_accept_41 : decode cX2_accept 41 = .ok (.putfield 80, 3) := by decide +kernel
theorem dX2_accept_44 : decode cX2_accept 44 = .ok (.aload_n 2, 1) := by decide +kernel
theorem dX2_accept_45 : decode cX2_accept 45 = .ok (.aload_n 0, 1) := by decide +kernel
theorem dX2_accept_46 : decode cX2_accept 46 = .ok (.getfield 120, 3) := by decide +kernel
theorem dX2_accept_49 : decode cX2_accept 49 = .ok (.iload 4, 2) := by decide +kernel
theorem dX2_accept_51 : decode cX2_accept 51 = .ok (.iadd, 1) := by decide +kernel
theorem dX2_accept_52 : decode cX2_accept 52 = .ok (.aload_n 3, 1) := by decide +kernel
theorem dX2_accept_53 : decode cX2_accept 53 = .ok (.getfield 141, 3) := by decide +kernel
theorem dX2_accept_56 : decode cX2_accept 56 = .ok (.invokestatic 144, 3) := by decide +kernel
theorem dX2_accept_59 : decode cX2_accept 59 = .ok (.putfield 149, 3) := by decide +kernel
theorem dX2_accept_62 : decode cX2_accept 62 = .ok (.aload_n 3, 1) := by decide +kernel
theorem dX2_accept_63 : decode cX2_accept 63 = .ok (.iconst 2, 1) := by decide +kernel
theorem dX2_accept_64 : decode cX2_accept 64 = .ok (.putfield 152, 3) := by decide +kernel
theorem dX2_accept_67 : decode cX2_accept 67 = .ok (.aload_n 0, 1) := by decide +kernel
theorem dX2_accept_68 : decode cX2_accept 68 = .ok (.invokevirtual 89, 3) := by decide +kernel
theorem dX2_accept_71 : decode cX2_accept 71 = .ok (.iload 4, 2) := by decide +kernel
theorem dX2_accept_73 : decode cX2_accept 73 = .ok (.ireturn, 1) := by decide +kernel
set_option maxRecDepth 20000 in
theorem ggX2_refuse_X2_cabNumbered : GoodIn wsX2_refuse wsX2_cabNumbered := goodIn_ca (goodIn_r _ [8, 9, 10, 11, 12, 13, 14, 15, 16, 17, 18, 19, 20, 21, 22, 23, 24, 25, 26, 27, 28, 29, 30, 31, 32, 33, 34, 35, 113, 114, 115, 116, 117, 118, 119, 120, 121, 122] (by decide +kernel) (by decide +kernel)) (goodIn_sub (fun _ h => List.mem_cons_of_mem _ (List.mem_append_right _ h)) (by decide +kernel))
set_option maxRecDepth 20000 in
theorem gX2_refuse_X2_cabNumbered : GoodIn wsX2_refuse (wsV RX2 76 RX2 yX2_cabNumbered wsX2_cabNumbered) := goodIn_app (goodIn_of _ (by decide +kernel)) ggX2_refuse_X2_cabNumbered
set_option maxRecDepth 20000 in
theorem ggX2_refuse_X2_offeredTo : GoodIn wsX2_refuse wsX2_offeredTo := goodIn_r _ [38, 39, 40, 123, 124, 125, 126, 127, 128, 129, 130, 131] (by decide +kernel) (by decide +kernel)
set_option maxRecDepth 20000 in
theorem gX2_refuse_X2_offeredTo : GoodIn wsX2_refuse (va_wsS RX2 132 yX2_offeredTo wsX2_offeredTo) := goodIn_app (goodIn_of _ (by decide +kernel)) ggX2_refuse_X2_offeredTo
set_option maxRecDepth 20000 in
theorem ggX2_refuse_X2_turnDown : GoodIn wsX2_refuse wsX2_turnDown := goodIn_r _ [44, 45, 46, 47, 40, 36, 37, 7, 38, 39, 48, 49, 50, 51, 52, 53, 54, 55, 56, 57, 98, 99, 100, 101, 102, 103, 104, 105, 106, 107, 108, 109, 110, 111, 112, 123, 124, 125, 126, 127, 128, 129, 130, 131, 113, 114, 115, 116, 117, 118, 119] (by decide +kernel) (by decide +kernel)
set_option maxRecDepth 20000 in
theorem gX2_refuse_X2_turnDown : GoodIn wsX2_refuse (wsV RX2 98 RX2 yX2_turnDown wsX2_turnDown) := goodIn_app (goodIn_of _ (by decide +kernel)) ggX2_refuse_X2_turnDown
set_option maxRecDepth 20000 in
theorem ggX2_refuse_X2_makeOffers : GoodIn wsX2_refuse wsX2_makeOffers := goodIn_r _ [61, 11, 13, 14, 15, 16, 17, 18, 62, 63, 64, 7, 65, 66, 67, 68, 46, 47, 69, 70, 40, 19, 20, 21, 22, 23, 24, 25, 26, 27, 28, 29, 30, 31, 32, 33, 34, 35, 71, 72, 73, 74, 75, 76, 77, 78, 12, 79, 80, 57, 81, 82, 83, 84, 85, 45, 86, 87, 88, 39, 48, 49, 50, 51, 89, 90, 91, 92, 93, 94, 95, 96, 97, 113, 114, 115, 116, 117, 118, 119, 120, 121, 122, 98, 99, 100, 101, 102, 103, 104, 105, 106, 107, 108, 109, 110, 111, 112, 123, 124, 125, 126, 127, 128, 129, 130, 131] (by decide +kernel) (by decide +kernel)
set_option maxRecDepth 20000 in
theorem gX2_refuse_X2_makeOffers : GoodIn wsX2_refuse (wsV RX2 89 RX2 yX2_makeOffers wsX2_makeOffers) := goodIn_app (goodIn_of _ (by decide +kernel)) ggX2_refuse_X2_makeOffers
theorem dX2_refuse_0 : decode cX2_refuse 0 = .ok (.aload_n 0, 1) := by decide +kernel
theorem dX2_refuse_1 : decode cX2_refuse 1 = .ok (.iload_n 1, 1) := by decide +kernel
theorem dX2_refuse_2 : decode cX2_refuse 2 = .ok (.invokevirtual 76, 3) := by decide +kernel
theorem dX2_refuse_5 : decode cX2_refuse 5 = .ok (.astore_n 2, 1) := by decide +kernel
theorem dX2_refuse_6 : decode cX2_refuse 6 = .ok (.aload_n 2, 1) := by decide +kernel
theorem dX2_refuse_7 : decode cX2_refuse 7 = .ok (.invokestatic 132, 3) := by decide +kernel
theorem dX2_refuse_10 : decode cX2_refuse 10 = .ok (.astore_n 3, 1) := by decide +kernel
theorem dX2_refuse_11 : decode cX2_refuse 11 = .ok (.aload_n 3, 1) := by decide +kernel
theorem dX2_refuse_12 : decode cX2_refuse 12 = .ok (.ifnonnull 13, 3) := by decide +kernel
theorem dX2_refuse_15 : decode cX2_refuse 15 = .ok (.new 63, 3) := by decide +kernel
theorem dX2_refuse_18 : decode cX2_refuse 18 = .ok (.dup, 1) := by decide +kernel
theorem dX2_refuse_19 : decode cX2_refuse 19 = .ok (.ldc 136, 2) := by decide +kernel
theorem dX2_refuse_21 : decode cX2_refuse 21 = .ok (.invokespecial 67, 3) := by decide +kernel
theorem dX2_refuse_24 : decode cX2_refuse 24 = .ok (.athrow, 1) := by decide +kernel
theorem dX2_refuse_25 : decode cX2_refuse 25 = .ok (.aload_n 0, 1) := by decide +kernel
theorem dX2_refuse_26 : decode cX2_refuse 26 = .ok (.aload_n 2, 1) := by decide +kernel
theorem dX2_refuse_27 : decode cX2_refuse 27 = .ok (.invokevirtual 98, 3) := by decide +kernel
theorem dX2_refuse_30 : decode cX2_refuse 30 = .ok (.aload_n 0, 1) := by decide +kernel
theorem dX2_refuse_31 : decode cX2_refuse 31 = .ok (.invokevirtual 89, 3) := by decide +kernel
theorem dX2_refuse_34 : decode cX2_refuse 34 = .ok (.aload_n 3, 1) := by decide +kernel
theorem dX2_refuse_35 : decode cX2_refuse 35 = .ok (.getfield 153, 3) := by decide +kernel
theorem dX2_refuse_38 : decode cX2_refuse 38 = .ok (.ireturn, 1) := by decide +kernel
set_option maxRecDepth 20000 in
theorem ggX2_cancel_X2_orderNumbered : GoodIn wsX2_cancel wsX2_orderNumbered := goodIn_ca (goodIn_r _ [8, 9, 10, 11, 12, 13, 14, 15, 16, 17, 18, 19, 20, 21, 22, 23, 24, 25, 26, 27, 28, 29, 30, 31, 32, 33, 34, 35, 109, 110, 111, 112, 113, 114, 115, 116, 117, 118] (by decide +kernel) (by decide +kernel)) (goodIn_sub (fun _ h => List.mem_cons_of_mem _ (List.mem_append_right _ h)) (by decide +kernel))
set_option maxRecDepth 20000 in
theorem gX2_cancel_X2_orderNumbered : GoodIn wsX2_cancel (wsV RX2 156 RX2 yX2_orderNumbered wsX2_orderNumbered) := goodIn_app (goodIn_of _ (by decide +kernel)) ggX2_cancel_X2_orderNumbered
set_option maxRecDepth 20000 in
theorem ggX2_cancel_X2_releaseCab : GoodIn wsX2_cancel wsX2_releaseCab := goodIn_r _ [39, 40, 41, 42, 43, 44, 45, 7, 46, 47, 48, 94, 95, 96, 97, 98, 99, 100, 101, 102, 103, 104, 105, 106, 107, 108, 119, 120, 121, 122, 123, 124, 125, 126, 127, 109, 110, 111, 112, 113, 114, 115] (by decide +kernel) (by decide +kernel)
set_option maxRecDepth 20000 in
theorem gX2_cancel_X2_releaseCab : GoodIn wsX2_cancel (wsV RX2 162 RX2 yX2_releaseCab wsX2_releaseCab) := goodIn_app (goodIn_of _ (by decide +kernel)) ggX2_cancel_X2_releaseCab
set_option maxRecDepth 20000 in
theorem ggX2_cancel_X2_makeOffers : GoodIn wsX2_cancel wsX2_makeOffers := goodIn_r _ [52, 53, 13, 14, 15, 16, 17, 18, 54, 55, 56, 7, 57, 11, 12, 58, 3, 40, 59, 60, 41, 19, 20, 21, 22, 23, 24, 25, 26, 27, 28, 29, 30, 31, 32, 33, 34, 35, 61, 62, 63, 64, 65, 66, 67, 68, 69, 70, 71, 48, 72, 73, 74, 75, 76, 77, 78, 79, 80, 42, 81, 82, 83, 84, 85, 86, 87, 88, 89, 90, 91, 92, 93, 109, 110, 111, 112, 113, 114, 115, 116, 117, 118, 94, 95, 96, 97, 98, 99, 100, 101, 102, 103, 104, 105, 106, 107, 108, 119, 120, 121, 122, 123, 124, 125, 126, 127] (by decide +kernel) (by decide +kernel)
set_option maxRecDepth 20000 in
theorem gX2_cancel_X2_makeOffers : GoodIn wsX2_cancel (wsV RX2 89 RX2 yX2_makeOffers wsX2_makeOffers) := goodIn_app (goodIn_of _ (by decide +kernel)) ggX2_cancel_X2_makeOffers
theorem dX2_cancel_0 : decode cX2_cancel 0 = .ok (.aload_n 0, 1) := by decide +kernel
theorem dX2_cancel_1 : decode cX2_cancel 1 = .ok (.iload_n 1, 1) := by decide +kernel
theorem dX2_cancel_2 : decode cX2_cancel 2 = .ok (.invokevirtual 156, 3) := by decide +kernel
theorem dX2_cancel_5 : decode cX2_cancel 5 = .ok (.astore_n 2, 1) := by decide +kernel
theorem dX2_cancel_6 : decode cX2_cancel 6 = .ok (.aload_n 2, 1) := by decide +kernel
theorem dX2_cancel_7 : decode cX2_cancel 7 = .ok (.getfield 152, 3) := by decide +kernel
theorem dX2_cancel_10 : decode cX2_cancel 10 = .ok (.istore_n 3, 1) := by decide +kernel
theorem dX2_cancel_11 : decode cX2_cancel 11 = .ok (.iload_n 3, 1) := by decide +kernel
theorem dX2_cancel_12 : decode cX2_cancel 12 = .ok (.ifCond .eq 23, 3) := by decide +kernel
theorem dX2_cancel_15 : decode cX2_cancel 15 = .ok (.iload_n 3, 1) := by decide +kernel
theorem dX2_cancel_16 : decode cX2_cancel 16 = .ok (.iconst 1, 1) := by decide +kernel
theorem dX2_cancel_17 : decode cX2_cancel 17 = .ok (.if_icmp .eq 18, 3) := by decide +kernel
theorem dX2_cancel_20 : decode cX2_cancel 20 = .ok (.iload_n 3, 1) := by decide +kernel
theorem dX2_cancel_21 : decode cX2_cancel 21 = .ok (.iconst 2, 1) := by decide +kernel
theorem dX2_cancel_22 : decode cX2_cancel 22 = .ok (.if_icmp .eq 13, 3) := by decide +kernel
theorem dX2_cancel_25 : decode cX2_cancel 25 = .ok (.new 63, 3) := by decide +kernel
theorem dX2_cancel_28 : decode cX2_cancel 28 = .ok (.dup, 1) := by decide +kernel
theorem dX2_cancel_29 : decode cX2_cancel 29 = .ok (.ldc 160, 2) := by decide +kernel
theorem dX2_cancel_31 : decode cX2_cancel 31 = .ok (.invokespecial 67, 3) := by decide +kernel
theorem dX2_cancel_34 : decode cX2_cancel 34 = .ok (.athrow, 1) := by decide +kernel
theorem dX2_cancel_35 : decode cX2_cancel 35 = .ok (.aload_n 0, 1) := by decide +kernel
theorem dX2_cancel_36 : decode cX2_cancel 36 = .ok (.aload_n 2, 1) := by decide +kernel
theorem dX2_cancel_37 : decode cX2_cancel 37 = .ok (.invokevirtual 162, 3) := by decide +kernel
theorem dX2_cancel_40 : decode cX2_cancel 40 = .ok (.aload_n 2, 1) := by decide +kernel
theorem dX2_cancel_41 : decode cX2_cancel 41 = .ok (.iconst 5, 1) := by decide +kernel
theorem dX2_cancel_42 : decode cX2_cancel 42 = .ok (.putfield 152, 3) := by decide +kernel
theorem dX2_cancel_45 : decode cX2_cancel 45 = .ok (.aload_n 0, 1) := by decide +kernel
theorem dX2_cancel_46 : decode cX2_cancel 46 = .ok (.invokevirtual 89, 3) := by decide +kernel
theorem dX2_cancel_49 : decode cX2_cancel 49 = .ok (.iload_n 3, 1) := by decide +kernel
theorem dX2_cancel_50 : decode cX2_cancel 50 = .ok (.ireturn, 1) := by decide +kernel
set_option maxRecDepth 20000 in
theorem ggX2_told_X2_orderNumbered : GoodIn wsX2_told wsX2_orderNumbered := goodIn_ca (goodIn_r _ [7, 1, 2, 8, 9, 10, 11, 12, 13, 14, 15, 16, 17, 18, 19, 20, 21, 22, 23, 24, 25, 26, 27, 28, 29, 30, 31, 32, 49, 50, 51, 52, 53, 54, 55, 56, 57, 58] (by decide +kernel) (by decide +kernel)) (goodIn_sub (fun _ h => List.mem_cons_of_mem _ (List.mem_append_right _ h)) (by decide +kernel))
set_option maxRecDepth 20000 in
theorem gX2_told_X2_orderNumbered : GoodIn wsX2_told (wsV RX2 156 RX2 yX2_orderNumbered wsX2_orderNumbered) := goodIn_app (goodIn_of _ (by decide +kernel)) ggX2_told_X2_orderNumbered
set_option maxRecDepth 20000 in
theorem ggX2_told_X2_orderDetail : GoodIn wsX2_told wsX2_orderDetail := goodIn_r _ [35, 36, 37, 38, 39, 40, 41, 42, 43, 44, 45, 46, 47, 48, 59, 60, 61, 62, 63, 64, 65, 66, 67, 68, 69, 70, 71, 72, 73, 74, 75, 76, 77, 78, 79, 80, 81, 82] (by decide +kernel) (by decide +kernel)
set_option maxRecDepth 20000 in
theorem gX2_told_X2_orderDetail : GoodIn wsX2_told (va_wsS RX2 166 yX2_orderDetail wsX2_orderDetail) := goodIn_app (goodIn_of _ (by decide +kernel)) ggX2_told_X2_orderDetail
theorem dX2_told_0 : decode cX2_told 0 = .ok (.aload_n 0, 1) := by decide +kernel
theorem dX2_told_1 : decode cX2_told 1 = .ok (.iload_n 1, 1) := by decide +kernel
theorem dX2_told_2 : decode cX2_told 2 = .ok (.invokevirtual 156, 3) := by decide +kernel
theorem dX2_told_5 : decode cX2_told 5 = .ok (.astore_n 3, 1) := by decide +kernel
theorem dX2_told_6 : decode cX2_told 6 = .ok (.iload_n 2, 1) := by decide +kernel
theorem dX2_told_7 : decode cX2_told 7 = .ok (.ifCond .lt 8, 3) := by decide +kernel
theorem dX2_told_10 : decode cX2_told 10 = .ok (.iload_n 2, 1) := by decide +kernel
theorem dX2_told_11 : decode cX2_told 11 = .ok (.iconst 5, 1) := by decide +kernel
theorem dX2_told_12 : decode cX2_told 12 = .ok (.if_icmp .lt 13, 3) := by decide +kernel
theorem dX2_told_15 : decode cX2_told 15 = .ok (.new 108, 3) := by decide +kernel
theorem dX2_told_18 : decode cX2_told 18 = .ok (.dup, 1) := by decide +kernel
theorem dX2_told_19 : decode cX2_told 19 = .ok (.ldc 110, 2) := by decide +kernel
theorem dX2_told_21 : decode cX2_told 21 = .ok (.invokespecial 112, 3) := by decide +kernel
theorem dX2_told_24 : decode cX2_told 24 = .ok (.athrow, 1) := by decide +kernel
theorem dX2_told_25 : decode cX2_told 25 = .ok (.aload_n 3, 1) := by decide +kernel
theorem dX2_told_26 : decode cX2_told 26 = .ok (.iload_n 2, 1) := by decide +kernel
theorem dX2_told_27 : decode cX2_told 27 = .ok (.invokestatic 166, 3) := by decide +kernel
theorem dX2_told_30 : decode cX2_told 30 = .ok (.ireturn, 1) := by decide +kernel
set_option maxRecDepth 20000 in
theorem ggX2_tick_X2_passMinute : GoodIn wsX2_tick wsX2_passMinute := goodIn_r _ [8, 3, 9, 10, 11, 7, 12, 13, 14, 15, 16, 17, 18, 19, 20, 21, 22, 23, 24, 25, 26, 27, 28, 29, 30, 31, 32, 33, 34, 35, 36, 37, 38, 39, 40, 41, 42, 43, 44, 45, 46, 47, 48, 49, 50, 51, 52, 53, 54, 55, 56, 57, 58, 59, 60, 61, 62, 63, 64, 65, 66, 67, 68, 69, 70, 71, 72, 73, 74, 75, 76, 77, 78, 79, 80, 81, 82, 83, 84, 85, 86, 87, 88, 89, 90, 91, 92, 93, 94, 95, 96, 97, 98, 99, 100, 101, 102, 103, 104, 105, 106, 107, 108, 109, 110, 111, 112, 113, 114, 115, 116, 117, 118, 119, 120, 121, 122, 123, 124, 125, 126, 127, 128, 129, 130, 131, 132, 133, 134, 135, 136, 137, 138, 139, 140, 141, 142, 143, 144, 145, 146, 147, 148, 149, 150, 151, 152, 153, 154, 155, 156, 157, 158, 159, 160, 161, 162, 163, 164, 165, 166, 167] (by decide +kernel) (by decide +kernel)
set_option maxRecDepth 20000 in
theorem gX2_tick_X2_passMinute : GoodIn wsX2_tick (wsV RX2 179 RX2 yX2_passMinute wsX2_passMinute) := goodIn_app (goodIn_of _ (by decide +kernel)) ggX2_tick_X2_passMinute
theorem dX2_tick_0 : decode cX2_tick 0 = .ok (.iload_n 1, 1) := by decide +kernel
theorem dX2_tick_1 : decode cX2_tick 1 = .ok (.iconst 1, 1) := by decide +kernel
theorem dX2_tick_2 : decode cX2_tick 2 = .ok (.if_icmp .lt 10, 3) := by decide +kernel
theorem dX2_tick_5 : decode cX2_tick 5 = .ok (.iload_n 1, 1) := by decide +kernel
theorem dX2_tick_6 : decode cX2_tick 6 = .ok (.sipush 300, 3) := by decide +kernel
theorem dX2_tick_9 : decode cX2_tick 9 = .ok (.if_icmp .le 13, 3) := by decide +kernel
theorem dX2_tick_12 : decode cX2_tick 12 = .ok (.new 34, 3) := by decide +kernel
theorem dX2_tick_15 : decode cX2_tick 15 = .ok (.dup, 1) := by decide +kernel
theorem dX2_tick_16 : decode cX2_tick 16 = .ok (.ldc 175, 2) := by decide +kernel
theorem dX2_tick_18 : decode cX2_tick 18 = .ok (.invokespecial 38, 3) := by decide +kernel
theorem dX2_tick_21 : decode cX2_tick 21 = .ok (.athrow, 1) := by decide +kernel
theorem dX2_tick_22 : decode cX2_tick 22 = .ok (.iload_n 1, 1) := by decide +kernel
theorem dX2_tick_23 : decode cX2_tick 23 = .ok (.sipush 9999, 3) := by decide +kernel
theorem dX2_tick_26 : decode cX2_tick 26 = .ok (.aload_n 0, 1) := by decide +kernel
theorem dX2_tick_27 : decode cX2_tick 27 = .ok (.getfield 120, 3) := by decide +kernel
theorem dX2_tick_30 : decode cX2_tick 30 = .ok (.isub, 1) := by decide +kernel
theorem dX2_tick_31 : decode cX2_tick 31 = .ok (.if_icmp .le 13, 3) := by decide +kernel
theorem dX2_tick_34 : decode cX2_tick 34 = .ok (.new 34, 3) := by decide +kernel
theorem dX2_tick_37 : decode cX2_tick 37 = .ok (.dup, 1) := by decide +kernel
theorem dX2_tick_38 : decode cX2_tick 38 = .ok (.ldc 177, 2) := by decide +kernel
theorem dX2_tick_40 : decode cX2_tick 40 = .ok (.invokespecial 38, 3) := by decide +kernel
theorem dX2_tick_43 : decode cX2_tick 43 = .ok (.athrow, 1) := by decide +kernel
theorem dX2_tick_44 : decode cX2_tick 44 = .ok (.iconst 0, 1) := by decide +kernel
theorem dX2_tick_45 : decode cX2_tick 45 = .ok (.istore_n 2, 1) := by decide +kernel
theorem dX2_tick_46 : decode cX2_tick 46 = .ok (.iconst 0, 1) := by decide +kernel
theorem dX2_tick_47 : decode cX2_tick 47 = .ok (.istore_n 3, 1) := by decide +kernel
theorem dX2_tick_48 : decode cX2_tick 48 = .ok (.iload_n 3, 1) := by decide +kernel
theorem dX2_tick_49 : decode cX2_tick 49 = .ok (.iload_n 1, 1) := by decide +kernel
theorem dX2_tick_50 : decode cX2_tick 50 = .ok (.if_icmp .ge 16, 3) := by decide +kernel
theorem dX2_tick_53 : decode cX2_tick 53 = .ok (.iload_n 2, 1) := by decide +kernel
theorem dX2_tick_54 : decode cX2_tick 54 = .ok (.aload_n 0, 1) := by decide +kernel
theorem dX2_tick_55 : decode cX2_tick 55 = .ok (.invokevirtual 179, 3) := by decide +kernel
theorem dX2_tick_58 : decode cX2_tick 58 = .ok (.iadd, 1) := by decide +kernel
theorem dX2_tick_59 : decode cX2_tick 59 = .ok (.istore_n 2, 1) := by decide +kernel
theorem dX2_tick_60 : decode cX2_tick 60 = .ok (.iinc 3 1, 3) := by decide +kernel
theorem dX2_tick_63 : decode cX2_tick 63 = .ok (.goto (-15), 3) := by decide +kernel
theorem dX2_tick_66 : decode cX2_tick 66 = .ok (.iload_n 2, 1) := by decide +kernel
theorem dX2_tick_67 : decode cX2_tick 67 = .ok (.ireturn, 1) := by decide +kernel
theorem dX2_now_0 : decode cX2_now 0 = .ok (.aload_n 0, 1) := by decide +kernel
theorem dX2_now_1 : decode cX2_now 1 = .ok (.getfield 120, 3) := by decide +kernel
theorem dX2_now_4 : decode cX2_now 4 = .ok (.ireturn, 1) := by decide +kernel
set_option maxRecDepth 20000 in
theorem ggX2_count_Jx4a65c_size_8abf5 : GoodIn wsX2_count wsJx4a65c_size_8abf5 := goodIn_r _ [9, 10, 42, 43, 44] (by decide +kernel) (by decide +kernel)
set_option maxRecDepth 20000 in
theorem gX2_count_Jx4a65c_size_8abf5 : GoodIn wsX2_count (wsV RX2 59 RJx4a65c yJx4a65c_size_8abf5 wsJx4a65c_size_8abf5) := goodIn_app (goodIn_of _ (by decide +kernel)) ggX2_count_Jx4a65c_size_8abf5
set_option maxRecDepth 20000 in
theorem ggX2_count_X2_ordersInState : GoodIn wsX2_count wsX2_ordersInState := goodIn_r _ [15, 4, 16, 17, 5, 6, 7, 8, 9, 10, 18, 19, 20, 21, 22, 23, 24, 25, 26, 27, 28, 29, 30, 31, 32, 33, 34, 35, 36, 37, 38, 39, 40, 41, 45, 46, 47, 48, 49, 50, 51, 52, 53, 54, 55, 56, 57, 58, 59, 42, 43, 44] (by decide +kernel) (by decide +kernel)
set_option maxRecDepth 20000 in
theorem gX2_count_X2_ordersInState : GoodIn wsX2_count (wsV RX2 189 RX2 yX2_ordersInState wsX2_ordersInState) := goodIn_app (goodIn_of _ (by decide +kernel)) ggX2_count_X2_ordersInState
theorem dX2_count_0 : decode cX2_count 0 = .ok (.iload_n 1, 1) := by decide +kernel
theorem dX2_count_1 : decode cX2_count 1 = .ok (.ifCond .lt 9, 3) := by decide +kernel
theorem dX2_count_4 : decode cX2_count 4 = .ok (.iload_n 1, 1) := by decide +kernel
theorem dX2_count_5 : decode cX2_count 5 = .ok (.bipush 7, 2) := by decide +kernel
theorem dX2_count_7 : decode cX2_count 7 = .ok (.if_icmp .le 13, 3) := by decide +kernel
theorem dX2_count_10 : decode cX2_count 10 = .ok (.new 108, 3) := by decide +kernel
theorem dX2_count_13 : decode cX2_count 13 = .ok (.dup, 1) := by decide +kernel
theorem dX2_count_14 : decode cX2_count 14 = .ok (.ldc 187, 2) := by decide +kernel
theorem dX2_count_16 : decode cX2_count 16 = .ok (.invokespecial 112, 3) := by decide +kernel
theorem dX2_count_19 : decode cX2_count 19 = .ok (.athrow, 1) := by decide +kernel
theorem dX2_count_20 : decode cX2_count 20 = .ok (.iload_n 1, 1) := by decide +kernel
theorem dX2_count_21 : decode cX2_count 21 = .ok (.ifCond .ne 11, 3) := by decide +kernel
theorem dX2_count_24 : decode cX2_count 24 = .ok (.aload_n 0, 1) := by decide +kernel
theorem dX2_count_25 : decode cX2_count 25 = .ok (.getfield 16, 3) := by decide +kernel
theorem dX2_count_28 : decode cX2_count 28 = .ok (.invokevirtual 59, 3) := by decide +kernel
theorem dX2_count_31 : decode cX2_count 31 = .ok (.ireturn, 1) := by decide +kernel
theorem dX2_count_32 : decode cX2_count 32 = .ok (.iload_n 1, 1) := by decide +kernel
theorem dX2_count_33 : decode cX2_count 33 = .ok (.iconst 1, 1) := by decide +kernel
theorem dX2_count_34 : decode cX2_count 34 = .ok (.if_icmp .ne 11, 3) := by decide +kernel
theorem dX2_count_37 : decode cX2_count 37 = .ok (.aload_n 0, 1) := by decide +kernel
theorem dX2_count_38 : decode cX2_count 38 = .ok (.getfield 20, 3) := by decide +kernel
theorem dX2_count_41 : decode cX2_count 41 = .ok (.invokevirtual 59, 3) := by decide +kernel
theorem dX2_count_44 : decode cX2_count 44 = .ok (.ireturn, 1) := by decide +kernel
theorem dX2_count_45 : decode cX2_count 45 = .ok (.aload_n 0, 1) := by decide +kernel
theorem dX2_count_46 : decode cX2_count 46 = .ok (.iload_n 1, 1) := by decide +kernel
theorem dX2_count_47 : decode cX2_count 47 = .ok (.iconst 2, 1) := by decide +kernel
theorem dX2_count_48 : decode cX2_count 48 = .ok (.isub, 1) := by decide +kernel
theorem dX2_count_49 : decode cX2_count 49 = .ok (.invokevirtual 189, 3) := by decide +kernel
theorem dX2_count_52 : decode cX2_count 52 = .ok (.ireturn, 1) := by decide +kernel
theorem dX2_isZone_0 : decode cX2_isZone 0 = .ok (.iload_n 0, 1) := by decide +kernel
theorem dX2_isZone_1 : decode cX2_isZone 1 = .ok (.ifCond .lt 13, 3) := by decide +kernel
theorem dX2_isZone_4 : decode cX2_isZone 4 = .ok (.iload_n 0, 1) := by decide +kernel
theorem dX2_isZone_5 : decode cX2_isZone 5 = .ok (.bipush 6, 2) := by decide +kernel
theorem dX2_isZone_7 : decode cX2_isZone 7 = .ok (.if_icmp .ge 7, 3) := by decide +kernel
theorem dX2_isZone_10 : decode cX2_isZone 10 = .ok (.iconst 1, 1) := by decide +kernel
theorem dX2_isZone_11 : decode cX2_isZone 11 = .ok (.goto 4, 3) := by decide +kernel
theorem dX2_isZone_14 : decode cX2_isZone 14 = .ok (.iconst 0, 1) := by decide +kernel
theorem dX2_isZone_15 : decode cX2_isZone 15 = .ok (.ireturn, 1) := by decide +kernel
set_option maxRecDepth 20000 in
theorem ggX2_requireZone_X2_isZone : GoodIn wsX2_requireZone wsX2_isZone := goodIn_r _ [6] (by decide +kernel) (by decide +kernel)
set_option maxRecDepth 20000 in
theorem gX2_requireZone_X2_isZone : GoodIn wsX2_requireZone (va_wsS RX2 53 yX2_isZone wsX2_isZone) := goodIn_app (goodIn_of _ (by decide +kernel)) ggX2_requireZone_X2_isZone
theorem dX2_requireZone_0 : decode cX2_requireZone 0 = .ok (.iload_n 0, 1) := by decide +kernel
theorem dX2_requireZone_1 : decode cX2_requireZone 1 = .ok (.invokestatic 53, 3) := by decide +kernel
theorem dX2_requireZone_4 : decode cX2_requireZone 4 = .ok (.ifCond .ne 13, 3) := by decide +kernel
theorem dX2_requireZone_7 : decode cX2_requireZone 7 = .ok (.new 108, 3) := by decide +kernel
theorem dX2_requireZone_10 : decode cX2_requireZone 10 = .ok (.dup, 1) := by decide +kernel
theorem dX2_requireZone_11 : decode cX2_requireZone 11 = .ok (.ldc 232, 2) := by decide +kernel
theorem dX2_requireZone_13 : decode cX2_requireZone 13 = .ok (.invokespecial 112, 3) := by decide +kernel
theorem dX2_requireZone_16 : decode cX2_requireZone 16 = .ok (.athrow, 1) := by decide +kernel
theorem dX2_requireZone_17 : decode cX2_requireZone 17 = .ok (.return_, 1) := by decide +kernel
theorem dX2_requirePassengers_0 : decode cX2_requirePassengers 0 = .ok (.iload_n 0, 1) := by decide +kernel
theorem dX2_requirePassengers_1 : decode cX2_requirePassengers 1 = .ok (.iconst 1, 1) := by decide +kernel
theorem dX2_requirePassengers_2 : decode cX2_requirePassengers 2 = .ok (.if_icmp .lt 9, 3) := by decide +kernel
theorem dX2_requirePassengers_5 : decode cX2_requirePassengers 5 = .ok (.iload_n 0, 1) := by decide +kernel
theorem dX2_requirePassengers_6 : decode cX2_requirePassengers 6 = .ok (.bipush 8, 2) := by decide +kernel
theorem dX2_requirePassengers_8 : decode cX2_requirePassengers 8 = .ok (.if_icmp .le 13, 3) := by decide +kernel
theorem dX2_requirePassengers_11 : decode cX2_requirePassengers 11 = .ok (.new 34, 3) := by decide +kernel
theorem dX2_requirePassengers_14 : decode cX2_requirePassengers 14 = .ok (.dup, 1) := by decide +kernel
theorem dX2_requirePassengers_15 : decode cX2_requirePassengers 15 = .ok (.ldc 234, 2) := by decide +kernel
theorem dX2_requirePassengers_17 : decode cX2_requirePassengers 17 = .ok (.invokespecial 38, 3) := by decide +kernel
theorem dX2_requirePassengers_20 : decode cX2_requirePassengers 20 = .ok (.athrow, 1) := by decide +kernel
theorem dX2_requirePassengers_21 : decode cX2_requirePassengers 21 = .ok (.return_, 1) := by decide +kernel
set_option maxRecDepth 20000 in
theorem ggX2_cabNumbered_Jx4a65c_size_8abf5 : GoodIn wsX2_cabNumbered wsJx4a65c_size_8abf5 := goodIn_r _ [9, 10, 35, 36, 37] (by decide +kernel) (by decide +kernel)
set_option maxRecDepth 20000 in
theorem gX2_cabNumbered_Jx4a65c_size_8abf5 : GoodIn wsX2_cabNumbered (wsV RX2 59 RJx4a65c yJx4a65c_size_8abf5 wsJx4a65c_size_8abf5) := goodIn_app (goodIn_of _ (by decide +kernel)) ggX2_cabNumbered_Jx4a65c_size_8abf5
set_option maxRecDepth 20000 in
theorem ggX2_cabNumbered_Jx4a65c_get_915e3 : GoodIn wsX2_cabNumbered wsJx4a65c_get_915e3 := goodIn_r _ [14, 10, 15, 16, 17, 18, 19, 20, 21, 22, 23, 24, 25, 8, 26, 27, 35, 36, 37] (by decide +kernel) (by decide +kernel)
set_option maxRecDepth 20000 in
theorem gX2_cabNumbered_Jx4a65c_get_915e3 : GoodIn wsX2_cabNumbered (wsV RX2 197 RJx4a65c yJx4a65c_get_915e3 wsJx4a65c_get_915e3) := goodIn_app (goodIn_of _ (by decide +kernel)) ggX2_cabNumbered_Jx4a65c_get_915e3
theorem dX2_cabNumbered_0 : decode cX2_cabNumbered 0 = .ok (.iload_n 1, 1) := by decide +kernel
theorem dX2_cabNumbered_1 : decode cX2_cabNumbered 1 = .ok (.ifCond .lt 14, 3) := by decide +kernel
theorem dX2_cabNumbered_4 : decode cX2_cabNumbered 4 = .ok (.iload_n 1, 1) := by decide +kernel
theorem dX2_cabNumbered_5 : decode cX2_cabNumbered 5 = .ok (.aload_n 0, 1) := by decide +kernel
theorem dX2_cabNumbered_6 : decode cX2_cabNumbered 6 = .ok (.getfield 16, 3) := by decide +kernel
theorem dX2_cabNumbered_9 : decode cX2_cabNumbered 9 = .ok (.invokevirtual 59, 3) := by decide +kernel
theorem dX2_cabNumbered_12 : decode cX2_cabNumbered 12 = .ok (.if_icmp .lt 13, 3) := by decide +kernel
theorem dX2_cabNumbered_15 : decode cX2_cabNumbered 15 = .ok (.new 108, 3) := by decide +kernel
theorem dX2_cabNumbered_18 : decode cX2_cabNumbered 18 = .ok (.dup, 1) := by decide +kernel
theorem dX2_cabNumbered_19 : decode cX2_cabNumbered 19 = .ok (.ldc 236, 2) := by decide +kernel
theorem dX2_cabNumbered_21 : decode cX2_cabNumbered 21 = .ok (.invokespecial 112, 3) := by decide +kernel
theorem dX2_cabNumbered_24 : decode cX2_cabNumbered 24 = .ok (.athrow, 1) := by decide +kernel
theorem dX2_cabNumbered_25 : decode cX2_cabNumbered 25 = .ok (.aload_n 0, 1) := by decide +kernel
theorem dX2_cabNumbered_26 : decode cX2_cabNumbered 26 = .ok (.getfield 16, 3) := by decide +kernel
theorem dX2_cabNumbered_29 : decode cX2_cabNumbered 29 = .ok (.iload_n 1, 1) := by decide +kernel
theorem dX2_cabNumbered_30 : decode cX2_cabNumbered 30 = .ok (.invokevirtual 197, 3) := by decide +kernel
theorem dX2_cabNumbered_33 : decode cX2_cabNumbered 33 = .ok (.checkcast 68, 3) := by decide +kernel
theorem dX2_cabNumbered_36 : decode cX2_cabNumbered 36 = .ok (.areturn, 1) := by decide +kernel
set_option maxRecDepth 20000 in
theorem ggX2_orderNumbered_Jx4a65c_size_8abf5 : GoodIn wsX2_orderNumbered wsJx4a65c_size_8abf5 := goodIn_r _ [9, 10, 35, 36, 37] (by decide +kernel) (by decide +kernel)
set_option maxRecDepth 20000 in
theorem gX2_orderNumbered_Jx4a65c_size_8abf5 : GoodIn wsX2_orderNumbered (wsV RX2 59 RJx4a65c yJx4a65c_size_8abf5 wsJx4a65c_size_8abf5) := goodIn_app (goodIn_of _ (by decide +kernel)) ggX2_orderNumbered_Jx4a65c_size_8abf5
set_option maxRecDepth 20000 in
theorem ggX2_orderNumbered_Jx4a65c_get_915e3 : GoodIn wsX2_orderNumbered wsJx4a65c_get_915e3 := goodIn_r _ [14, 10, 15, 16, 17, 18, 19, 20, 21, 22, 23, 24, 25, 8, 26, 27, 35, 36, 37] (by decide +kernel) (by decide +kernel)
set_option maxRecDepth 20000 in
theorem gX2_orderNumbered_Jx4a65c_get_915e3 : GoodIn wsX2_orderNumbered (wsV RX2 197 RJx4a65c yJx4a65c_get_915e3 wsJx4a65c_get_915e3) := goodIn_app (goodIn_of _ (by decide +kernel)) ggX2_orderNumbered_Jx4a65c_get_915e3
theorem dX2_orderNumbered_0 : decode cX2_orderNumbered 0 = .ok (.iload_n 1, 1) := by decide +kernel
theorem dX2_orderNumbered_1 : decode cX2_orderNumbered 1 = .ok (.ifCond .lt 14, 3) := by decide +kernel
theorem dX2_orderNumbered_4 : decode cX2_orderNumbered 4 = .ok (.iload_n 1, 1) := by decide +kernel
theorem dX2_orderNumbered_5 : decode cX2_orderNumbered 5 = .ok (.aload_n 0, 1) := by decide +kernel
theorem dX2_orderNumbered_6 : decode cX2_orderNumbered 6 = .ok (.getfield 20, 3) := by decide +kernel
theorem dX2_orderNumbered_9 : decode cX2_orderNumbered 9 = .ok (.invokevirtual 59, 3) := by decide +kernel
theorem dX2_orderNumbered_12 : decode cX2_orderNumbered 12 = .ok (.if_icmp .lt 13, 3) := by decide +kernel
theorem dX2_orderNumbered_15 : decode cX2_orderNumbered 15 = .ok (.new 108, 3) := by decide +kernel
theorem dX2_orderNumbered_18 : decode cX2_orderNumbered 18 = .ok (.dup, 1) := by decide +kernel
