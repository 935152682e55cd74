theorem dX3_isNearer_6 : decode cX3_isNearer 6 = .ok (.iload_n 3, 1) := by decide +kernel
theorem dX3_isNearer_7 : decode cX3_isNearer 7 = .ok (.if_icmp .ne 7, 3) := by decide +kernel
theorem dX3_isNearer_10 : decode cX3_isNearer 10 = .ok (.iconst 1, 1) := by decide +kernel
theorem dX3_isNearer_11 : decode cX3_isNearer 11 = .ok (.goto 4, 3) := by decide +kernel
theorem dX3_isNearer_14 : decode cX3_isNearer 14 = .ok (.iconst 0, 1) := by decide +kernel
theorem dX3_isNearer_15 : decode cX3_isNearer 15 = .ok (.istore 4, 2) := by decide +kernel
theorem dX3_isNearer_17 : decode cX3_isNearer 17 = .ok (.iload 4, 2) := by decide +kernel
theorem dX3_isNearer_19 : decode cX3_isNearer 19 = .ok (.aload_n 0, 1) := by decide +kernel
theorem dX3_isNearer_20 : decode cX3_isNearer 20 = .ok (.getfield 23, 3) := by decide +kernel
theorem dX3_isNearer_23 : decode cX3_isNearer 23 = .ok (.iload_n 2, 1) := by decide +kernel
theorem dX3_isNearer_24 : decode cX3_isNearer 24 = .ok (.iaload, 1) := by decide +kernel
theorem dX3_isNearer_25 : decode cX3_isNearer 25 = .ok (.iload_n 3, 1) := by decide +kernel
theorem dX3_isNearer_26 : decode cX3_isNearer 26 = .ok (.if_icmp .ne 7, 3) := by decide +kernel
theorem dX3_isNearer_29 : decode cX3_isNearer 29 = .ok (.iconst 1, 1) := by decide +kernel
theorem dX3_isNearer_30 : decode cX3_isNearer 30 = .ok (.goto 4, 3) := by decide +kernel
theorem dX3_isNearer_33 : decode cX3_isNearer 33 = .ok (.iconst 0, 1) := by decide +kernel
theorem dX3_isNearer_34 : decode cX3_isNearer 34 = .ok (.if_icmp .eq 6, 3) := by decide +kernel
theorem dX3_isNearer_37 : decode cX3_isNearer 37 = .ok (.iload 4, 2) := by decide +kernel
theorem dX3_isNearer_39 : decode cX3_isNearer 39 = .ok (.ireturn, 1) := by decide +kernel
theorem dX3_isNearer_40 : decode cX3_isNearer 40 = .ok (.aload_n 0, 1) := by decide +kernel
theorem dX3_isNearer_41 : decode cX3_isNearer 41 = .ok (.getfield 23, 3) := by decide +kernel
theorem dX3_isNearer_44 : decode cX3_isNearer 44 = .ok (.iload_n 1, 1) := by decide +kernel
theorem dX3_isNearer_45 : decode cX3_isNearer 45 = .ok (.iaload, 1) := by decide +kernel
theorem dX3_isNearer_46 : decode cX3_isNearer 46 = .ok (.aload_n 0, 1) := by decide +kernel
theorem dX3_isNearer_47 : decode cX3_isNearer 47 = .ok (.getfield 23, 3) := by decide +kernel
theorem dX3_isNearer_50 : decode cX3_isNearer 50 = .ok (.iload_n 2, 1) := by decide +kernel
theorem dX3_isNearer_51 : decode cX3_isNearer 51 = .ok (.iaload, 1) := by decide +kernel
theorem dX3_isNearer_52 : decode cX3_isNearer 52 = .ok (.if_icmp .ne 24, 3) := by decide +kernel
theorem dX3_isNearer_55 : decode cX3_isNearer 55 = .ok (.aload_n 0, 1) := by decide +kernel
theorem dX3_isNearer_56 : decode cX3_isNearer 56 = .ok (.getfield 35, 3) := by decide +kernel
theorem dX3_isNearer_59 : decode cX3_isNearer 59 = .ok (.iload_n 1, 1) := by decide +kernel
theorem dX3_isNearer_60 : decode cX3_isNearer 60 = .ok (.iaload, 1) := by decide +kernel
theorem dX3_isNearer_61 : decode cX3_isNearer 61 = .ok (.aload_n 0, 1) := by decide +kernel
theorem dX3_isNearer_62 : decode cX3_isNearer 62 = .ok (.getfield 35, 3) := by decide +kernel
theorem dX3_isNearer_65 : decode cX3_isNearer 65 = .ok (.iload_n 2, 1) := by decide +kernel
theorem dX3_isNearer_66 : decode cX3_isNearer 66 = .ok (.iaload, 1) := by decide +kernel
theorem dX3_isNearer_67 : decode cX3_isNearer 67 = .ok (.if_icmp .ge 7, 3) := by decide +kernel
theorem dX3_isNearer_70 : decode cX3_isNearer 70 = .ok (.iconst 1, 1) := by decide +kernel
theorem dX3_isNearer_71 : decode cX3_isNearer 71 = .ok (.goto 4, 3) := by decide +kernel
theorem dX3_isNearer_74 : decode cX3_isNearer 74 = .ok (.iconst 0, 1) := by decide +kernel
theorem dX3_isNearer_75 : decode cX3_isNearer 75 = .ok (.ireturn, 1) := by decide +kernel
theorem dX3_isNearer_76 : decode cX3_isNearer 76 = .ok (.aload_n 0, 1) := by decide +kernel
theorem dX3_isNearer_77 : decode cX3_isNearer 77 = .ok (.aload_n 0, 1) := by decide +kernel
theorem dX3_isNearer_78 : decode cX3_isNearer 78 = .ok (.getfield 23, 3) := by decide +kernel
theorem dX3_isNearer_81 : decode cX3_isNearer 81 = .ok (.iload_n 1, 1) := by decide +kernel
theorem dX3_isNearer_82 : decode cX3_isNearer 82 = .ok (.iaload, 1) := by decide +kernel
theorem dX3_isNearer_83 : decode cX3_isNearer 83 = .ok (.iload_n 3, 1) := by decide +kernel
theorem dX3_isNearer_84 : decode cX3_isNearer 84 = .ok (.invokevirtual 74, 3) := by decide +kernel
theorem dX3_isNearer_87 : decode cX3_isNearer 87 = .ok (.aload_n 0, 1) := by decide +kernel
theorem dX3_isNearer_88 : decode cX3_isNearer 88 = .ok (.aload_n 0, 1) := by decide +kernel
theorem dX3_isNearer_89 : decode cX3_isNearer 89 = .ok (.getfield 23, 3) := by decide +kernel
theorem dX3_isNearer_92 : decode cX3_isNearer 92 = .ok (.iload_n 2, 1) := by decide +kernel
theorem dX3_isNearer_93 : decode cX3_isNearer 93 = .ok (.iaload, 1) := by decide +kernel
theorem dX3_isNearer_94 : decode cX3_isNearer 94 = .ok (.iload_n 3, 1) := by decide +kernel
theorem dX3_isNearer_95 : decode cX3_isNearer 95 = .ok (.invokevirtual 74, 3) := by decide +kernel
theorem dX3_isNearer_98 : decode cX3_isNearer 98 = .ok (.isub, 1) := by decide +kernel
theorem dX3_isNearer_99 : decode cX3_isNearer 99 = .ok (.istore 5, 2) := by decide +kernel
theorem dX3_isNearer_101 : decode cX3_isNearer 101 = .ok (.iload 5, 2) := by decide +kernel
theorem dX3_isNearer_103 : decode cX3_isNearer 103 = .ok (.ifCond .eq 16, 3) := by decide +kernel
theorem dX3_isNearer_106 : decode cX3_isNearer 106 = .ok (.iload 5, 2) := by decide +kernel
theorem dX3_isNearer_108 : decode cX3_isNearer 108 = .ok (.ifCond .ge 7, 3) := by decide +kernel
theorem dX3_isNearer_111 : decode cX3_isNearer 111 = .ok (.iconst 1, 1) := by decide +kernel
theorem dX3_isNearer_112 : decode cX3_isNearer 112 = .ok (.goto 27, 3) := by decide +kernel
theorem dX3_isNearer_115 : decode cX3_isNearer 115 = .ok (.iconst 0, 1) := by decide +kernel
theorem dX3_isNearer_116 : decode cX3_isNearer 116 = .ok (.goto 23, 3) := by decide +kernel
theorem dX3_isNearer_119 : decode cX3_isNearer 119 = .ok (.aload_n 0, 1) := by decide +kernel
theorem dX3_isNearer_120 : decode cX3_isNearer 120 = .ok (.getfield 23, 3) := by decide +kernel
theorem dX3_isNearer_123 : decode cX3_isNearer 123 = .ok (.iload_n 1, 1) := by decide +kernel
theorem dX3_isNearer_124 : decode cX3_isNearer 124 = .ok (.iaload, 1) := by decide +kernel
theorem dX3_isNearer_125 : decode cX3_isNearer 125 = .ok (.aload_n 0, 1) := by decide +kernel
theorem dX3_isNearer_126 : decode cX3_isNearer 126 = .ok (.getfield 23, 3) := by decide +kernel
theorem dX3_isNearer_129 : decode cX3_isNearer 129 = .ok (.iload_n 2, 1) := by decide +kernel
theorem dX3_isNearer_130 : decode cX3_isNearer 130 = .ok (.iaload, 1) := by decide +kernel
theorem dX3_isNearer_131 : decode cX3_isNearer 131 = .ok (.if_icmp .ge 7, 3) := by decide +kernel
theorem dX3_isNearer_134 : decode cX3_isNearer 134 = .ok (.iconst 1, 1) := by decide +kernel
theorem dX3_isNearer_135 : decode cX3_isNearer 135 = .ok (.goto 4, 3) := by decide +kernel
theorem dX3_isNearer_138 : decode cX3_isNearer 138 = .ok (.iconst 0, 1) := by decide +kernel
theorem dX3_isNearer_139 : decode cX3_isNearer 139 = .ok (.ireturn, 1) := by decide +kernel
set_option maxRecDepth 20000 in
theorem ggX3_offerAll_X3_state : GoodIn wsX3_offerAll wsX3_state := goodIn_r _ [9, 10, 42, 43, 44, 45, 46, 47, 48, 49, 50, 51, 52, 53, 54, 55, 56, 57, 58, 59, 60] (by decide +kernel) (by decide +kernel)
set_option maxRecDepth 20000 in
theorem gX3_offerAll_X3_state : GoodIn wsX3_offerAll (wsV RX3 118 RX3 yX3_state wsX3_state) := goodIn_app (goodIn_of _ (by decide +kernel)) ggX3_offerAll_X3_state
set_option maxRecDepth 20000 in
theorem ggX3_offerAll_X3_get : GoodIn wsX3_offerAll wsX3_get := goodIn_r _ [14, 10, 42, 43, 44, 45, 46, 47, 48, 49, 50, 51, 52, 53, 54, 55, 56, 57, 58, 59, 60] (by decide +kernel) (by decide +kernel)
set_option maxRecDepth 20000 in
theorem gX3_offerAll_X3_get : GoodIn wsX3_offerAll (wsV RX3 108 RX3 yX3_get wsX3_get) := goodIn_app (goodIn_of _ (by decide +kernel)) ggX3_offerAll_X3_get
set_option maxRecDepth 20000 in
theorem ggX3_offerAll_X3_cabFor : GoodIn wsX3_offerAll wsX3_cabFor := goodIn_r _ [18, 19, 20, 21, 22, 8, 23, 24, 3, 25, 26, 11, 12, 13, 14, 10, 27, 28, 29, 30, 31, 32, 33, 34, 35, 36, 37, 42, 43, 44, 45, 46, 47, 48, 49, 50, 51, 52, 53, 54, 55, 56, 57, 58, 59, 60] (by decide +kernel) (by decide +kernel)
set_option maxRecDepth 20000 in
theorem gX3_offerAll_X3_cabFor : GoodIn wsX3_offerAll (wsV RX3 124 RX3 yX3_cabFor wsX3_cabFor) := goodIn_app (goodIn_of _ (by decide +kernel)) ggX3_offerAll_X3_cabFor
set_option maxRecDepth 20000 in
theorem ggX3_offerAll_X3_set : GoodIn wsX3_offerAll wsX3_set := goodIn_r _ [41, 10, 42, 43, 44, 45, 46, 47, 48, 49, 50, 51, 52, 53, 54, 55, 56, 57, 58, 59, 60] (by decide +kernel) (by decide +kernel)
set_option maxRecDepth 20000 in
theorem gX3_offerAll_X3_set : GoodIn wsX3_offerAll (wsV RX3 98 RX3 yX3_set wsX3_set) := goodIn_app (goodIn_of _ (by decide +kernel)) ggX3_offerAll_X3_set
theorem dX3_offerAll_0 : decode cX3_offerAll 0 = .ok (.iconst 1, 1) := by decide +kernel
theorem dX3_offerAll_1 : decode cX3_offerAll 1 = .ok (.istore_n 1, 1) := by decide +kernel
theorem dX3_offerAll_2 : decode cX3_offerAll 2 = .ok (.iload_n 1, 1) := by decide +kernel
theorem dX3_offerAll_3 : decode cX3_offerAll 3 = .ok (.ifCond .eq 137, 3) := by decide +kernel
theorem dX3_offerAll_6 : decode cX3_offerAll 6 = .ok (.iconst (-1), 1) := by decide +kernel
theorem dX3_offerAll_7 : decode cX3_offerAll 7 = .ok (.istore_n 2, 1) := by decide +kernel
theorem dX3_offerAll_8 : decode cX3_offerAll 8 = .ok (.iconst 0, 1) := by decide +kernel
theorem dX3_offerAll_9 : decode cX3_offerAll 9 = .ok (.istore_n 3, 1) := by decide +kernel
theorem dX3_offerAll_10 : decode cX3_offerAll 10 = .ok (.iload_n 3, 1) := by decide +kernel
theorem dX3_offerAll_11 : decode cX3_offerAll 11 = .ok (.aload_n 0, 1) := by decide +kernel
theorem dX3_offerAll_12 : decode cX3_offerAll 12 = .ok (.getfield 63, 3) := by decide +kernel
theorem dX3_offerAll_15 : decode cX3_offerAll 15 = .ok (.if_icmp .ge 67, 3) := by decide +kernel
theorem dX3_offerAll_18 : decode cX3_offerAll 18 = .ok (.aload_n 0, 1) := by decide +kernel
theorem dX3_offerAll_19 : decode cX3_offerAll 19 = .ok (.iload_n 3, 1) := by decide +kernel
theorem dX3_offerAll_20 : decode cX3_offerAll 20 = .ok (.invokevirtual 118, 3) := by decide +kernel
theorem dX3_offerAll_23 : decode cX3_offerAll 23 = .ok (.ifCond .ne 53, 3) := by decide +kernel
theorem dX3_offerAll_26 : decode cX3_offerAll 26 = .ok (.aload_n 0, 1) := by decide +kernel
theorem dX3_offerAll_27 : decode cX3_offerAll 27 = .ok (.getfield 121, 3) := by decide +kernel
theorem dX3_offerAll_30 : decode cX3_offerAll 30 = .ok (.aload_n 0, 1) := by decide +kernel
theorem dX3_offerAll_31 : decode cX3_offerAll 31 = .ok (.iload_n 3, 1) := by decide +kernel
theorem dX3_offerAll_32 : decode cX3_offerAll 32 = .ok (.iconst 3, 1) := by decide +kernel
theorem dX3_offerAll_33 : decode cX3_offerAll 33 = .ok (.invokevirtual 108, 3) := by decide +kernel
theorem dX3_offerAll_36 : decode cX3_offerAll 36 = .ok (.bipush 15, 2) := by decide +kernel
theorem dX3_offerAll_38 : decode cX3_offerAll 38 = .ok (.isub, 1) := by decide +kernel
theorem dX3_offerAll_39 : decode cX3_offerAll 39 = .ok (.if_icmp .lt 37, 3) := by decide +kernel
theorem dX3_offerAll_42 : decode cX3_offerAll 42 = .ok (.aload_n 0, 1) := by decide +kernel
theorem dX3_offerAll_43 : decode cX3_offerAll 43 = .ok (.iload_n 3, 1) := by decide +kernel
theorem dX3_offerAll_44 : decode cX3_offerAll 44 = .ok (.invokevirtual 124, 3) := by decide +kernel
theorem dX3_offerAll_47 : decode cX3_offerAll 47 = .ok (.iconst (-1), 1) := by decide +kernel
theorem dX3_offerAll_48 : decode cX3_offerAll 48 = .ok (.if_icmp .ne 6, 3) := by decide +kernel
theorem dX3_offerAll_51 : decode cX3_offerAll 51 = .ok (.goto 25, 3) := by decide +kernel
theorem dX3_offerAll_54 : decode cX3_offerAll 54 = .ok (.iload_n 2, 1) := by decide +kernel
theorem dX3_offerAll_55 : decode cX3_offerAll 55 = .ok (.iconst (-1), 1) := by decide +kernel
theorem dX3_offerAll_56 : decode cX3_offerAll 56 = .ok (.if_icmp .eq 18, 3) := by decide +kernel
theorem dX3_offerAll_59 : decode cX3_offerAll 59 = .ok (.aload_n 0, 1) := by decide +kernel
theorem dX3_offerAll_60 : decode cX3_offerAll 60 = .ok (.iload_n 3, 1) := by decide +kernel
theorem dX3_offerAll_61 : decode cX3_offerAll 61 = .ok (.iconst 3, 1) := by decide +kernel
theorem dX3_offerAll_62 : decode cX3_offerAll 62 = .ok (.invokevirtual 108, 3) := by decide +kernel
theorem dX3_offerAll_65 : decode cX3_offerAll 65 = .ok (.aload_n 0, 1) := by decide +kernel
theorem dX3_offerAll_66 : decode cX3_offerAll 66 = .ok (.iload_n 2, 1) := by decide +kernel
theorem dX3_offerAll_67 : decode cX3_offerAll 67 = .ok (.iconst 3, 1) := by decide +kernel
theorem dX3_offerAll_68 : decode cX3_offerAll 68 = .ok (.invokevirtual 108, 3) := by decide +kernel
theorem dX3_offerAll_71 : decode cX3_offerAll 71 = .ok (.if_icmp .ge 5, 3) := by decide +kernel
theorem dX3_offerAll_74 : decode cX3_offerAll 74 = .ok (.iload_n 3, 1) := by decide +kernel
theorem dX3_offerAll_75 : decode cX3_offerAll 75 = .ok (.istore_n 2, 1) := by decide +kernel
theorem dX3_offerAll_76 : decode cX3_offerAll 76 = .ok (.iinc 3 1, 3) := by decide +kernel
theorem dX3_offerAll_79 : decode cX3_offerAll 79 = .ok (.goto (-69), 3) := by decide +kernel
theorem dX3_offerAll_82 : decode cX3_offerAll 82 = .ok (.iload_n 2, 1) := by decide +kernel
theorem dX3_offerAll_83 : decode cX3_offerAll 83 = .ok (.iconst (-1), 1) := by decide +kernel
theorem dX3_offerAll_84 : decode cX3_offerAll 84 = .ok (.if_icmp .eq 7, 3) := by decide +kernel
theorem dX3_offerAll_87 : decode cX3_offerAll 87 = .ok (.iconst 1, 1) := by decide +kernel
theorem dX3_offerAll_88 : decode cX3_offerAll 88 = .ok (.goto 4, 3) := by decide +kernel
theorem dX3_offerAll_91 : decode cX3_offerAll 91 = .ok (.iconst 0, 1) := by decide +kernel
theorem dX3_offerAll_92 : decode cX3_offerAll 92 = .ok (.istore_n 1, 1) := by decide +kernel
theorem dX3_offerAll_93 : decode cX3_offerAll 93 = .ok (.iload_n 1, 1) := by decide +kernel
theorem dX3_offerAll_94 : decode cX3_offerAll 94 = .ok (.ifCond .ne 6, 3) := by decide +kernel
theorem dX3_offerAll_97 : decode cX3_offerAll 97 = .ok (.goto (-95), 3) := by decide +kernel
theorem dX3_offerAll_100 : decode cX3_offerAll 100 = .ok (.aload_n 0, 1) := by decide +kernel
theorem dX3_offerAll_101 : decode cX3_offerAll 101 = .ok (.iload_n 2, 1) := by decide +kernel
theorem dX3_offerAll_102 : decode cX3_offerAll 102 = .ok (.invokevirtual 124, 3) := by decide +kernel
theorem dX3_offerAll_105 : decode cX3_offerAll 105 = .ok (.istore_n 3, 1) := by decide +kernel
theorem dX3_offerAll_106 : decode cX3_offerAll 106 = .ok (.aload_n 0, 1) := by decide +kernel
theorem dX3_offerAll_107 : decode cX3_offerAll 107 = .ok (.getfield 29, 3) := by decide +kernel
theorem dX3_offerAll_110 : decode cX3_offerAll 110 = .ok (.iload_n 3, 1) := by decide +kernel
theorem dX3_offerAll_111 : decode cX3_offerAll 111 = .ok (.iload_n 2, 1) := by decide +kernel
theorem dX3_offerAll_112 : decode cX3_offerAll 112 = .ok (.iastore, 1) := by decide +kernel
theorem dX3_offerAll_113 : decode cX3_offerAll 113 = .ok (.aload_n 0, 1) := by decide +kernel
theorem dX3_offerAll_114 : decode cX3_offerAll 114 = .ok (.getfield 32, 3) := by decide +kernel
theorem dX3_offerAll_117 : decode cX3_offerAll 117 = .ok (.iload_n 3, 1) := by decide +kernel
theorem dX3_offerAll_118 : decode cX3_offerAll 118 = .ok (.aload_n 0, 1) := by decide +kernel
theorem dX3_offerAll_119 : decode cX3_offerAll 119 = .ok (.getfield 121, 3) := by decide +kernel
theorem dX3_offerAll_122 : decode cX3_offerAll 122 = .ok (.iastore, 1) := by decide +kernel
theorem dX3_offerAll_123 : decode cX3_offerAll 123 = .ok (.aload_n 0, 1) := by decide +kernel
theorem dX3_offerAll_124 : decode cX3_offerAll 124 = .ok (.iload_n 2, 1) := by decide +kernel
theorem dX3_offerAll_125 : decode cX3_offerAll 125 = .ok (.iconst 4, 1) := by decide +kernel
theorem dX3_offerAll_126 : decode cX3_offerAll 126 = .ok (.iconst 1, 1) := by decide +kernel
theorem dX3_offerAll_127 : decode cX3_offerAll 127 = .ok (.invokevirtual 98, 3) := by decide +kernel
theorem dX3_offerAll_130 : decode cX3_offerAll 130 = .ok (.aload_n 0, 1) := by decide +kernel
theorem dX3_offerAll_131 : decode cX3_offerAll 131 = .ok (.iload_n 2, 1) := by decide +kernel
theorem dX3_offerAll_132 : decode cX3_offerAll 132 = .ok (.iconst 5, 1) := by decide +kernel
theorem dX3_offerAll_133 : decode cX3_offerAll 133 = .ok (.iload_n 3, 1) := by decide +kernel
theorem dX3_offerAll_134 : decode cX3_offerAll 134 = .ok (.invokevirtual 98, 3) := by decide +kernel
theorem dX3_offerAll_137 : decode cX3_offerAll 137 = .ok (.goto (-135), 3) := by decide +kernel
theorem dX3_offerAll_140 : decode cX3_offerAll 140 = .ok (.return_, 1) := by decide +kernel
set_option maxRecDepth 20000 in
theorem ggX3_order_X3_isZone : GoodIn wsX3_order wsX3_isZone := goodIn_r _ [13, 14, 15, 12, 16] (by decide +kernel) (by decide +kernel)
set_option maxRecDepth 20000 in
theorem gX3_order_X3_isZone : GoodIn wsX3_order (va_wsS RX3 66 yX3_isZone wsX3_isZone) := goodIn_app (goodIn_of _ (by decide +kernel)) ggX3_order_X3_isZone
set_option maxRecDepth 20000 in
theorem ggX3_order_X3_fail : GoodIn wsX3_order wsX3_fail := goodIn_r _ [20, 1, 62, 63, 64, 65, 66, 67, 68, 69, 70, 71, 72, 73, 74, 75, 76, 77, 78, 79, 80] (by decide +kernel) (by decide +kernel)
set_option maxRecDepth 20000 in
theorem gX3_order_X3_fail : GoodIn wsX3_order (wsV RX3 70 RX3 yX3_fail wsX3_fail) := goodIn_app (goodIn_of _ (by decide +kernel)) ggX3_order_X3_fail
set_option maxRecDepth 20000 in
theorem ggX3_order_X3_isIn : GoodIn wsX3_order wsX3_isIn := goodIn_r _ [16] (by decide +kernel) (by decide +kernel)
set_option maxRecDepth 20000 in
theorem gX3_order_X3_isIn : GoodIn wsX3_order (va_wsS RX3 56 yX3_isIn wsX3_isIn) := goodIn_app (goodIn_of _ (by decide +kernel)) ggX3_order_X3_isIn
set_option maxRecDepth 20000 in
theorem ggX3_order_X3_offerAll : GoodIn wsX3_order wsX3_offerAll := goodIn_r _ [24, 3, 2, 25, 26, 27, 28, 29, 12, 30, 5, 31, 32, 33, 34, 35, 36, 37, 38, 39, 40, 41, 42, 43, 44, 45, 46, 47, 48, 49, 50, 51, 52, 53, 54, 55, 56, 57, 58, 59, 60, 61, 62, 63, 64, 65, 66, 67, 68, 69, 70, 71, 72, 73, 74, 75, 76, 77, 78, 79, 80] (by decide +kernel) (by decide +kernel)
set_option maxRecDepth 20000 in
theorem gX3_order_X3_offerAll : GoodIn wsX3_order (wsV RX3 95 RX3 yX3_offerAll wsX3_offerAll) := goodIn_app (goodIn_of _ (by decide +kernel)) ggX3_order_X3_offerAll
theorem dX3_order_0 : decode cX3_order 0 = .ok (.aload_n 0, 1) := by decide +kernel
theorem dX3_order_1 : decode cX3_order 1 = .ok (.iconst 0, 1) := by decide +kernel
theorem dX3_order_2 : decode cX3_order 2 = .ok (.putfield 53, 3) := by decide +kernel
theorem dX3_order_5 : decode cX3_order 5 = .ok (.iload_n 1, 1) := by decide +kernel
theorem dX3_order_6 : decode cX3_order 6 = .ok (.invokestatic 66, 3) := by decide +kernel
theorem dX3_order_9 : decode cX3_order 9 = .ok (.ifCond .eq 10, 3) := by decide +kernel
theorem dX3_order_12 : decode cX3_order 12 = .ok (.iload_n 2, 1) := by decide +kernel
theorem dX3_order_13 : decode cX3_order 13 = .ok (.invokestatic 66, 3) := by decide +kernel
theorem dX3_order_16 : decode cX3_order 16 = .ok (.ifCond .ne 9, 3) := by decide +kernel
theorem dX3_order_19 : decode cX3_order 19 = .ok (.aload_n 0, 1) := by decide +kernel
theorem dX3_order_20 : decode cX3_order 20 = .ok (.iconst 1, 1) := by decide +kernel
theorem dX3_order_21 : decode cX3_order 21 = .ok (.invokevirtual 70, 3) := by decide +kernel
theorem dX3_order_24 : decode cX3_order 24 = .ok (.ireturn, 1) := by decide +kernel
theorem dX3_order_25 : decode cX3_order 25 = .ok (.iload_n 3, 1) := by decide +kernel
theorem dX3_order_26 : decode cX3_order 26 = .ok (.iconst 1, 1) := by decide +kernel
theorem dX3_order_27 : decode cX3_order 27 = .ok (.bipush 8, 2) := by decide +kernel
theorem dX3_order_29 : decode cX3_order 29 = .ok (.invokestatic 56, 3) := by decide +kernel
theorem dX3_order_32 : decode cX3_order 32 = .ok (.ifCond .eq 18, 3) := by decide +kernel
theorem dX3_order_35 : decode cX3_order 35 = .ok (.iload 4, 2) := by decide +kernel
theorem dX3_order_37 : decode cX3_order 37 = .ok (.aload_n 0, 1) := by decide +kernel
theorem dX3_order_38 : decode cX3_order 38 = .ok (.getfield 121, 3) := by decide +kernel
theorem dX3_order_41 : decode cX3_order 41 = .ok (.sipush 9999, 3) := by decide +kernel
theorem dX3_order_44 : decode cX3_order 44 = .ok (.invokestatic 56, 3) := by decide +kernel
theorem dX3_order_47 : decode cX3_order 47 = .ok (.ifCond .ne 9, 3) := by decide +kernel
theorem dX3_order_50 : decode cX3_order 50 = .ok (.aload_n 0, 1) := by decide +kernel
theorem dX3_order_51 : decode cX3_order 51 = .ok (.iconst 2, 1) := by decide +kernel
theorem dX3_order_52 : decode cX3_order 52 = .ok (.invokevirtual 70, 3) := by decide +kernel
theorem dX3_order_55 : decode cX3_order 55 = .ok (.ireturn, 1) := by decide +kernel
theorem dX3_order_56 : decode cX3_order 56 = .ok (.aload_n 0, 1) := by decide +kernel
theorem dX3_order_57 : decode cX3_order 57 = .ok (.getfield 63, 3) := by decide +kernel
theorem dX3_order_60 : decode cX3_order 60 = .ok (.bipush 60, 2) := by decide +kernel
theorem dX3_order_62 : decode cX3_order 62 = .ok (.if_icmp .ne 9, 3) := by decide +kernel
theorem dX3_order_65 : decode cX3_order 65 = .ok (.aload_n 0, 1) := by decide +kernel
theorem dX3_order_66 : decode cX3_order 66 = .ok (.iconst 3, 1) := by decide +kernel
theorem dX3_order_67 : decode cX3_order 67 = .ok (.invokevirtual 70, 3) := by decide +kernel
theorem dX3_order_70 : decode cX3_order 70 = .ok (.ireturn, 1) := by decide +kernel
theorem dX3_order_71 : decode cX3_order 71 = .ok (.bipush 8, 2) := by decide +kernel
theorem dX3_order_73 : decode cX3_order 73 = .ok (.newarray .int, 2) := by decide +kernel
theorem dX3_order_75 : decode cX3_order 75 = .ok (.dup, 1) := by decide +kernel
theorem dX3_order_76 : decode cX3_order 76 = .ok (.iconst 0, 1) := by decide +kernel
theorem dX3_order_77 : decode cX3_order 77 = .ok (.iload_n 1, 1) := by decide +kernel
theorem dX3_order_78 : decode cX3_order 78 = .ok (.iastore, 1) := by decide +kernel
theorem dX3_order_79 : decode cX3_order 79 = .ok (.dup, 1) := by decide +kernel
theorem dX3_order_80 : decode cX3_order 80 = .ok (.iconst 1, 1) := by decide +kernel
theorem dX3_order_81 : decode cX3_order 81 = .ok (.iload_n 2, 1) := by decide +kernel
theorem dX3_order_82 : decode cX3_order 82 = .ok (.iastore, 1) := by decide +kernel
theorem dX3_order_83 : decode cX3_order 83 = .ok (.dup, 1) := by decide +kernel
theorem dX3_order_84 : decode cX3_order 84 = .ok (.iconst 2, 1) := by decide +kernel
theorem dX3_order_85 : decode cX3_order 85 = .ok (.iload_n 3, 1) := by decide +kernel
theorem dX3_order_86 : decode cX3_order 86 = .ok (.iastore, 1) := by decide +kernel
theorem dX3_order_87 : decode cX3_order 87 = .ok (.dup, 1) := by decide +kernel
theorem dX3_order_88 : decode cX3_order 88 = .ok (.iconst 3, 1) := by decide +kernel
theorem dX3_order_89 : decode cX3_order 89 = .ok (.iload 4, 2) := by decide +kernel
theorem dX3_order_91 : decode cX3_order 91 = .ok (.iastore, 1) := by decide +kernel
theorem dX3_order_92 : decode cX3_order 92 = .ok (.dup, 1) := by decide +kernel
theorem dX3_order_93 : decode cX3_order 93 = .ok (.iconst 4, 1) := by decide +kernel
theorem dX3_order_94 : decode cX3_order 94 = .ok (.iconst 0, 1) := by decide +kernel
theorem dX3_order_95 : decode cX3_order 95 = .ok (.iastore, 1) := by decide +kernel
theorem dX3_order_96 : decode cX3_order 96 = .ok (.dup, 1) := by decide +kernel
theorem dX3_order_97 : decode cX3_order 97 = .ok (.iconst 5, 1) := by decide +kernel
theorem dX3_order_98 : decode cX3_order 98 = .ok (.iconst (-1), 1) := by decide +kernel
theorem dX3_order_99 : decode cX3_order 99 = .ok (.iastore, 1) := by decide +kernel
theorem dX3_order_100 : decode cX3_order 100 = .ok (.dup, 1) := by decide +kernel
theorem dX3_order_101 : decode cX3_order 101 = .ok (.bipush 6, 2) := by decide +kernel
theorem dX3_order_103 : decode cX3_order 103 = .ok (.iconst (-1), 1) := by decide +kernel
theorem dX3_order_104 : decode cX3_order 104 = .ok (.iastore, 1) := by decide +kernel
theorem dX3_order_105 : decode cX3_order 105 = .ok (.dup, 1) := by decide +kernel
theorem dX3_order_106 : decode cX3_order 106 = .ok (.bipush 7, 2) := by decide +kernel
theorem dX3_order_108 : decode cX3_order 108 = .ok (.iconst (-1), 1) := by decide +kernel
theorem dX3_order_109 : decode cX3_order 109 = .ok (.iastore, 1) := by decide +kernel
theorem dX3_order_110 : decode cX3_order 110 = .ok (.astore 5, 2) := by decide +kernel
theorem dX3_order_112 : decode cX3_order 112 = .ok (.aload 5, 2) := by decide +kernel
theorem dX3_order_114 : decode cX3_order 114 = .ok (.iconst 0, 1) := by decide +kernel
theorem dX3_order_115 : decode cX3_order 115 = .ok (.aload_n 0, 1) := by decide +kernel
theorem dX3_order_116 : decode cX3_order 116 = .ok (.getfield 44, 3) := by decide +kernel
theorem dX3_order_119 : decode cX3_order 119 = .ok (.bipush 8, 2) := by decide +kernel
theorem dX3_order_121 : decode cX3_order 121 = .ok (.aload_n 0, 1) := by decide +kernel
theorem dX3_order_122 : decode cX3_order 122 = .ok (.getfield 63, 3) := by decide +kernel
theorem dX3_order_125 : decode cX3_order 125 = .ok (.imul, 1) := by decide +kernel
theorem dX3_order_126 : decode cX3_order 126 = .ok (.bipush 8, 2) := by decide +kernel
theorem dX3_order_128 : decode cX3_order 128 = .ok (.invokestatic 127, 3) := by decide +kernel
theorem dX3_order_131 : decode cX3_order 131 = .ok (.aload_n 0, 1) := by decide +kernel
theorem dX3_order_132 : decode cX3_order 132 = .ok (.dup, 1) := by decide +kernel
theorem dX3_order_133 : decode cX3_order 133 = .ok (.getfield 63, 3) := by decide +kernel
theorem dX3_order_136 : decode cX3_order 136 = .ok (.iconst 1, 1) := by decide +kernel
theorem dX3_order_137 : decode cX3_order 137 = .ok (.iadd, 1) := by decide +kernel
theorem dX3_order_138 : decode cX3_order 138 = .ok (.putfield 63, 3) := by decide +kernel
theorem dX3_order_141 : decode cX3_order 141 = .ok (.aload_n 0, 1) := by decide +kernel
theorem dX3_order_142 : decode cX3_order 142 = .ok (.getfield 63, 3) := by decide +kernel
theorem dX3_order_145 : decode cX3_order 145 = .ok (.iconst 1, 1) := by decide +kernel
theorem dX3_order_146 : decode cX3_order 146 = .ok (.isub, 1) := by decide +kernel
theorem dX3_order_147 : decode cX3_order 147 = .ok (.istore 6, 2) := by decide +kernel
theorem dX3_order_149 : decode cX3_order 149 = .ok (.aload_n 0, 1) := by decide +kernel
theorem dX3_order_150 : decode cX3_order 150 = .ok (.invokevirtual 95, 3) := by decide +kernel
theorem dX3_order_153 : decode cX3_order 153 = .ok (.iload 6, 2) := by decide +kernel
theorem dX3_order_155 : decode cX3_order 155 = .ok (.ireturn, 1) := by decide +kernel
theorem dX3_isOffered_0 : decode cX3_isOffered 0 = .ok (.aload_n 0, 1) := by decide +kernel
theorem dX3_isOffered_1 : decode cX3_isOffered 1 = .ok (.getfield 26, 3) := by decide +kernel
theorem dX3_isOffered_4 : decode cX3_isOffered 4 = .ok (.iload_n 1, 1) := by decide +kernel
theorem dX3_isOffered_5 : decode cX3_isOffered 5 = .ok (.iaload, 1) := by decide +kernel
theorem dX3_isOffered_6 : decode cX3_isOffered 6 = .ok (.iconst 1, 1) := by decide +kernel
theorem dX3_isOffered_7 : decode cX3_isOffered 7 = .ok (.if_icmp .ne 17, 3) := by decide +kernel
theorem dX3_isOffered_10 : decode cX3_isOffered 10 = .ok (.aload_n 0, 1) := by decide +kernel
theorem dX3_isOffered_11 : decode cX3_isOffered 11 = .ok (.getfield 29, 3) := by decide +kernel
theorem dX3_isOffered_14 : decode cX3_isOffered 14 = .ok (.iload_n 1, 1) := by decide +kernel
theorem dX3_isOffered_15 : decode cX3_isOffered 15 = .ok (.iaload, 1) := by decide +kernel
theorem dX3_isOffered_16 : decode cX3_isOffered 16 = .ok (.iconst (-1), 1) := by decide +kernel
theorem dX3_isOffered_17 : decode cX3_isOffered 17 = .ok (.if_icmp .eq 7, 3) := by decide +kernel
theorem dX3_isOffered_20 : decode cX3_isOffered 20 = .ok (.iconst 1, 1) := by decide +kernel
theorem dX3_isOffered_21 : decode cX3_isOffered 21 = .ok (.goto 4, 3) := by decide +kernel
theorem dX3_isOffered_24 : decode cX3_isOffered 24 = .ok (.iconst 0, 1) := by decide +kernel
theorem dX3_isOffered_25 : decode cX3_isOffered 25 = .ok (.ireturn, 1) := by decide +kernel
set_option maxRecDepth 20000 in
theorem ggX3_accept_X3_isCab : GoodIn wsX3_accept wsX3_isCab := goodIn_r _ [11, 12, 13, 14, 10, 15, 62, 63, 64, 65, 66, 67, 68, 69, 70, 71, 72, 73, 74, 75, 76, 77, 78, 79, 80] (by decide +kernel) (by decide +kernel)
set_option maxRecDepth 20000 in
theorem gX3_accept_X3_isCab : GoodIn wsX3_accept (wsV RX3 85 RX3 yX3_isCab wsX3_isCab) := goodIn_app (goodIn_of _ (by decide +kernel)) ggX3_accept_X3_isCab
set_option maxRecDepth 20000 in
theorem ggX3_accept_X3_fail : GoodIn wsX3_accept wsX3_fail := goodIn_r _ [19, 1, 62, 63, 64, 65, 66, 67, 68, 69, 70, 71, 72, 73, 74, 75, 76, 77, 78, 79, 80] (by decide +kernel) (by decide +kernel)
set_option maxRecDepth 20000 in
theorem gX3_accept_X3_fail : GoodIn wsX3_accept (wsV RX3 70 RX3 yX3_fail wsX3_fail) := goodIn_app (goodIn_of _ (by decide +kernel)) ggX3_accept_X3_fail
set_option maxRecDepth 20000 in
theorem ggX3_accept_X3_isOffered : GoodIn wsX3_accept wsX3_isOffered := goodIn_r _ [23, 4, 3, 62, 63, 64, 65, 66, 67, 68, 69, 70, 71, 72, 73, 74, 75, 76, 77, 78, 79, 80] (by decide +kernel) (by decide +kernel)
set_option maxRecDepth 20000 in
theorem gX3_accept_X3_isOffered : GoodIn wsX3_accept (wsV RX3 133 RX3 yX3_isOffered wsX3_isOffered) := goodIn_app (goodIn_of _ (by decide +kernel)) ggX3_accept_X3_isOffered
set_option maxRecDepth 20000 in
theorem ggX3_accept_X3_get : GoodIn wsX3_accept wsX3_get := goodIn_r _ [27, 28, 62, 63, 64, 65, 66, 67, 68, 69, 70, 71, 72, 73, 74, 75, 76, 77, 78, 79, 80] (by decide +kernel) (by decide +kernel)
set_option maxRecDepth 20000 in
theorem gX3_accept_X3_get : GoodIn wsX3_accept (wsV RX3 108 RX3 yX3_get wsX3_get) := goodIn_app (goodIn_of _ (by decide +kernel)) ggX3_accept_X3_get
set_option maxRecDepth 20000 in
theorem ggX3_accept_X3_way : GoodIn wsX3_accept wsX3_way := goodIn_r _ [32, 33, 62, 63, 64, 65, 66, 67, 68, 69, 70, 71, 72, 73, 74, 75, 76, 77, 78, 79, 80] (by decide +kernel) (by decide +kernel)
set_option maxRecDepth 20000 in
theorem gX3_accept_X3_way : GoodIn wsX3_accept (wsV RX3 74 RX3 yX3_way wsX3_way) := goodIn_app (goodIn_of _ (by decide +kernel)) ggX3_accept_X3_way
set_option maxRecDepth 20000 in
theorem ggX3_accept_X3_set : GoodIn wsX3_accept wsX3_set := goodIn_r _ [37, 28, 62, 63, 64, 65, 66, 67, 68, 69, 70, 71, 72, 73, 74, 75, 76, 77, 78, 79, 80] (by decide +kernel) (by decide +kernel)
set_option maxRecDepth 20000 in
theorem gX3_accept_X3_set : GoodIn wsX3_accept (wsV RX3 98 RX3 yX3_set wsX3_set) := goodIn_app (goodIn_of _ (by decide +kernel)) ggX3_accept_X3_set
set_option maxRecDepth 20000 in
theorem ggX3_accept_X3_offerAll : GoodIn wsX3_accept wsX3_offerAll := goodIn_r _ [41, 42, 6, 3, 5, 43, 44, 45, 10, 46, 28, 24, 25, 26, 27, 47, 48, 49, 50, 12, 51, 52, 53, 54, 4, 55, 56, 57, 58, 59, 60, 2, 61, 29, 30, 31, 32, 33, 34, 35, 36, 37, 62, 63, 64, 65, 66, 67, 68, 69, 70, 71, 72, 73, 74, 75, 76, 77, 78, 79, 80] (by decide +kernel) (by decide +kernel)
set_option maxRecDepth 20000 in
theorem gX3_accept_X3_offerAll : GoodIn wsX3_accept (wsV RX3 95 RX3 yX3_offerAll wsX3_offerAll) := goodIn_app (goodIn_of _ (by decide +kernel)) ggX3_accept_X3_offerAll
theorem dX3_accept_0 : decode cX3_accept 0 = .ok (.aload_n 0, 1) := by decide +kernel
theorem dX3_accept_1 : decode cX3_accept 1 = .ok (.iconst 0, 1) := by decide +kernel
theorem dX3_accept_2 : decode cX3_accept 2 = .ok (.putfield 53, 3) := by decide +kernel
theorem dX3_accept_5 : decode cX3_accept 5 = .ok (.aload_n 0, 1) := by decide +kernel
theorem dX3_accept_6 : decode cX3_accept 6 = .ok (.iload_n 1, 1) := by decide +kernel
theorem dX3_accept_7 : decode cX3_accept 7 = .ok (.invokevirtual 85, 3) := by decide +kernel
theorem dX3_accept_10 : decode cX3_accept 10 = .ok (.ifCond .ne 9, 3) := by decide +kernel
theorem dX3_accept_13 : decode cX3_accept 13 = .ok (.aload_n 0, 1) := by decide +kernel
theorem dX3_accept_14 : decode cX3_accept 14 = .ok (.iconst 1, 1) := by decide +kernel
theorem dX3_accept_15 : decode cX3_accept 15 = .ok (.invokevirtual 70, 3) := by decide +kernel
theorem dX3_accept_18 : decode cX3_accept 18 = .ok (.ireturn, 1) := by decide +kernel
theorem dX3_accept_19 : decode cX3_accept 19 = .ok (.aload_n 0, 1) := by decide +kernel
theorem dX3_accept_20 : decode cX3_accept 20 = .ok (.iload_n 1, 1) := by decide +kernel
theorem dX3_accept_21 : decode cX3_accept 21 = .ok (.invokevirtual 133, 3) := by decide +kernel
theorem dX3_accept_24 : decode cX3_accept 24 = .ok (.ifCond .ne 9, 3) := by decide +kernel
theorem dX3_accept_27 : decode cX3_accept 27 = .ok (.aload_n 0, 1) := by decide +kernel
theorem dX3_accept_28 : decode cX3_accept 28 = .ok (.iconst 2, 1) := by decide +kernel
theorem dX3_accept_29 : decode cX3_accept 29 = .ok (.invokevirtual 70, 3) := by decide +kernel
theorem dX3_accept_32 : decode cX3_accept 32 = .ok (.ireturn, 1) := by decide +kernel
theorem dX3_accept_33 : decode cX3_accept 33 = .ok (.aload_n 0, 1) := by decide +kernel
theorem dX3_accept_34 : decode cX3_accept 34 = .ok (.aload_n 0, 1) := by decide +kernel
theorem dX3_accept_35 : decode cX3_accept 35 = .ok (.getfield 23, 3) := by decide +kernel
theorem dX3_accept_38 : decode cX3_accept 38 = .ok (.iload_n 1, 1) := by decide +kernel
theorem dX3_accept_39 : decode cX3_accept 39 = .ok (.iaload, 1) := by decide +kernel
theorem dX3_accept_40 : decode cX3_accept 40 = .ok (.aload_n 0, 1) := by decide +kernel
theorem dX3_accept_41 : decode cX3_accept 41 = .ok (.aload_n 0, 1) := by decide +kernel
theorem dX3_accept_42 : decode cX3_accept 42 = .ok (.getfield 29, 3) := by decide +kernel
theorem dX3_accept_45 : decode cX3_accept 45 = .ok (.iload_n 1, 1) := by decide +kernel
theorem dX3_accept_46 : decode cX3_accept 46 = .ok (.iaload, 1) := by decide +kernel
theorem dX3_accept_47 : decode cX3_accept 47 = .ok (.iconst 0, 1) := by decide +kernel
theorem dX3_accept_48 : decode cX3_accept 48 = .ok (.invokevirtual 108, 3) := by decide +kernel
theorem dX3_accept_51 : decode cX3_accept 51 = .ok (.invokevirtual 74, 3) := by decide +kernel
theorem dX3_accept_54 : decode cX3_accept 54 = .ok (.istore_n 2, 1) := by decide +kernel
theorem dX3_accept_55 : decode cX3_accept 55 = .ok (.aload_n 0, 1) := by decide +kernel
theorem dX3_accept_56 : decode cX3_accept 56 = .ok (.getfield 26, 3) := by decide +kernel
theorem dX3_accept_59 : decode cX3_accept 59 = .ok (.iload_n 1, 1) := by decide +kernel
theorem dX3_accept_60 : decode cX3_accept 60 = .ok (.iconst 2, 1) := by decide +kernel
theorem dX3_accept_61 : decode cX3_accept 61 = .ok (.iastore, 1) := by decide +kernel
theorem dX3_accept_62 : decode cX3_accept 62 = .ok (.aload_n 0, 1) := by decide +kernel
theorem dX3_accept_63 : decode cX3_accept 63 = .ok (.getfield 32, 3) := by decide +kernel
theorem dX3_accept_66 : decode cX3_accept 66 = .ok (.iload_n 1, 1) := by decide +kernel
theorem dX3_accept_67 : decode cX3_accept 67 = .ok (.aload_n 0, 1) := by decide +kernel
theorem dX3_accept_68 : decode cX3_accept 68 = .ok (.getfield 121, 3) := by decide +kernel
theorem dX3_accept_71 : decode cX3_accept 71 = .ok (.iload_n 2, 1) := by decide +kernel
theorem dX3_accept_72 : decode cX3_accept 72 = .ok (.iadd, 1) := by decide +kernel
theorem dX3_accept_73 : decode cX3_accept 73 = .ok (.iastore, 1) := by decide +kernel
theorem dX3_accept_74 : decode cX3_accept 74 = .ok (.aload_n 0, 1) := by decide +kernel
theorem dX3_accept_75 : decode cX3_accept 75 = .ok (.aload_n 0, 1) := by decide +kernel
theorem dX3_accept_76 : decode cX3_accept 76 = .ok (.getfield 29, 3) := by decide +kernel
theorem dX3_accept_79 : decode cX3_accept 79 = .ok (.iload_n 1, 1) := by decide +kernel
theorem dX3_accept_80 : decode cX3_accept 80 = .ok (.iaload, 1) := by decide +kernel
theorem dX3_accept_81 : decode cX3_accept 81 = .ok (.iconst 4, 1) := by decide +kernel
theorem dX3_accept_82 : decode cX3_accept 82 = .ok (.iconst 2, 1) := by decide +kernel
theorem dX3_accept_83 : decode cX3_accept 83 = .ok (.invokevirtual 98, 3) := by decide +kernel
theorem dX3_accept_86 : decode cX3_accept 86 = .ok (.aload_n 0, 1) := by decide +kernel
theorem dX3_accept_87 : decode cX3_accept 87 = .ok (.invokevirtual 95, 3) := by decide +kernel
theorem dX3_accept_90 : decode cX3_accept 90 = .ok (.iload_n 2, 1) := by decide +kernel
theorem dX3_accept_91 : decode cX3_accept 91 = .ok (.ireturn, 1) := by decide +kernel
set_option maxRecDepth 20000 in
theorem ggX3_refuse_X3_isCab : GoodIn wsX3_refuse wsX3_isCab := goodIn_r _ [7, 8, 9, 10, 6, 11, 71, 72, 73, 74, 75, 76, 77, 78, 79, 80, 81, 82, 83, 84, 85, 86, 87, 88, 89] (by decide +kernel) (by decide +kernel)
set_option maxRecDepth 20000 in
theorem gX3_refuse_X3_isCab : GoodIn wsX3_refuse (wsV RX3 85 RX3 yX3_isCab wsX3_isCab) := goodIn_app (goodIn_of _ (by decide +kernel)) ggX3_refuse_X3_isCab
set_option maxRecDepth 20000 in
theorem ggX3_refuse_X3_fail : GoodIn wsX3_refuse wsX3_fail := goodIn_r _ [15, 1, 71, 72, 73, 74, 75, 76, 77, 78, 79, 80, 81, 82, 83, 84, 85, 86, 87, 88, 89] (by decide +kernel) (by decide +kernel)
set_option maxRecDepth 20000 in
theorem gX3_refuse_X3_fail : GoodIn wsX3_refuse (wsV RX3 70 RX3 yX3_fail wsX3_fail) := goodIn_app (goodIn_of _ (by decide +kernel)) ggX3_refuse_X3_fail
set_option maxRecDepth 20000 in
theorem ggX3_refuse_X3_isOffered : GoodIn wsX3_refuse wsX3_isOffered := goodIn_r _ [19, 20, 2, 71, 72, 73, 74, 75, 76, 77, 78, 79, 80, 81, 82, 83, 84, 85, 86, 87, 88, 89] (by decide +kernel) (by decide +kernel)
set_option maxRecDepth 20000 in
theorem gX3_refuse_X3_isOffered : GoodIn wsX3_refuse (wsV RX3 133 RX3 yX3_isOffered wsX3_isOffered) := goodIn_app (goodIn_of _ (by decide +kernel)) ggX3_refuse_X3_isOffered
set_option maxRecDepth 20000 in
theorem ggX3_refuse_X3_refused : GoodIn wsX3_refuse wsX3_refused := goodIn_r _ [24, 2, 25, 26, 27, 28, 6, 29, 30, 71, 72, 73, 74, 75, 76, 77, 78, 79, 80, 81, 82, 83, 84, 85, 86, 87, 88, 89] (by decide +kernel) (by decide +kernel)
set_option maxRecDepth 20000 in
theorem gX3_refuse_X3_refused : GoodIn wsX3_refuse (wsV RX3 102 RX3 yX3_refused wsX3_refused) := goodIn_app (goodIn_of _ (by decide +kernel)) ggX3_refuse_X3_refused
set_option maxRecDepth 20000 in
theorem ggX3_refuse_X3_queueUp : GoodIn wsX3_refuse wsX3_queueUp := goodIn_r _ [34, 35, 36, 71, 72, 73, 74, 75, 76, 77, 78, 79, 80, 81, 82, 83, 84, 85, 86, 87, 88, 89] (by decide +kernel) (by decide +kernel)
set_option maxRecDepth 20000 in
theorem gX3_refuse_X3_queueUp : GoodIn wsX3_refuse (wsV RX3 81 RX3 yX3_queueUp wsX3_queueUp) := goodIn_app (goodIn_of _ (by decide +kernel)) ggX3_refuse_X3_queueUp
set_option maxRecDepth 20000 in
theorem ggX3_refuse_X3_offerAll : GoodIn wsX3_refuse wsX3_offerAll := goodIn_r _ [40, 41, 42, 2, 43, 44, 45, 46, 6, 47, 30, 48, 49, 50, 51, 52, 53, 54, 55, 8, 56, 57, 58, 59, 20, 60, 25, 61, 62, 63, 64, 65, 36, 66, 67, 68, 69, 70, 26, 27, 28, 29, 71, 72, 73, 74, 75, 76, 77, 78, 79, 80, 81, 82, 83, 84, 85, 86, 87, 88, 89] (by decide +kernel) (by decide +kernel)
set_option maxRecDepth 20000 in
theorem gX3_refuse_X3_offerAll : GoodIn wsX3_refuse (wsV RX3 95 RX3 yX3_offerAll wsX3_offerAll) := goodIn_app (goodIn_of _ (by decide +kernel)) ggX3_refuse_X3_offerAll
theorem dX3_refuse_0 : decode cX3_refuse 0 = .ok (.aload_n 0, 1) := by decide +kernel
theorem dX3_refuse_1 : decode cX3_refuse 1 = .ok (.iconst 0, 1) := by decide +kernel
theorem dX3_refuse_2 : decode cX3_refuse 2 = .ok (.putfield 53, 3) := by decide +kernel
theorem dX3_refuse_5 : decode cX3_refuse 5 = .ok (.aload_n 0, 1) := by decide +kernel
theorem dX3_refuse_6 : decode cX3_refuse 6 = .ok (.iload_n 1, 1) := by decide +kernel
theorem dX3_refuse_7 : decode cX3_refuse 7 = .ok (.invokevirtual 85, 3) := by decide +kernel
theorem dX3_refuse_10 : decode cX3_refuse 10 = .ok (.ifCond .ne 9, 3) := by decide +kernel
theorem dX3_refuse_13 : decode cX3_refuse 13 = .ok (.aload_n 0, 1) := by decide +kernel
theorem dX3_refuse_14 : decode cX3_refuse 14 = .ok (.iconst 1, 1) := by decide +kernel
theorem dX3_refuse_15 : decode cX3_refuse 15 = .ok (.invokevirtual 70, 3) := by decide +kernel
theorem dX3_refuse_18 : decode cX3_refuse 18 = .ok (.ireturn, 1) := by decide +kernel
theorem dX3_refuse_19 : decode cX3_refuse 19 = .ok (.aload_n 0, 1) := by decide +kernel
theorem dX3_refuse_20 : decode cX3_refuse 20 = .ok (.iload_n 1, 1) := by decide +kernel
theorem dX3_refuse_21 : decode cX3_refuse 21 = .ok (.invokevirtual 133, 3) := by decide +kernel
theorem dX3_refuse_24 : decode cX3_refuse 24 = .ok (.ifCond .ne 9, 3) := by decide +kernel
theorem dX3_refuse_27 : decode cX3_refuse 27 = .ok (.aload_n 0, 1) := by decide +kernel
theorem dX3_refuse_28 : decode cX3_refuse 28 = .ok (.iconst 2, 1) := by decide +kernel
theorem dX3_refuse_29 : decode cX3_refuse 29 = .ok (.invokevirtual 70, 3) := by decide +kernel
theorem dX3_refuse_32 : decode cX3_refuse 32 = .ok (.ireturn, 1) := by decide +kernel
theorem dX3_refuse_33 : decode cX3_refuse 33 = .ok (.aload_n 0, 1) := by decide +kernel
theorem dX3_refuse_34 : decode cX3_refuse 34 = .ok (.getfield 29, 3) := by decide +kernel
theorem dX3_refuse_37 : decode cX3_refuse 37 = .ok (.iload_n 1, 1) := by decide +kernel
theorem dX3_refuse_38 : decode cX3_refuse 38 = .ok (.iaload, 1) := by decide +kernel
theorem dX3_refuse_39 : decode cX3_refuse 39 = .ok (.istore_n 2, 1) := by decide +kernel
theorem dX3_refuse_40 : decode cX3_refuse 40 = .ok (.aload_n 0, 1) := by decide +kernel
theorem dX3_refuse_41 : decode cX3_refuse 41 = .ok (.iload_n 1, 1) := by decide +kernel
theorem dX3_refuse_42 : decode cX3_refuse 42 = .ok (.invokevirtual 102, 3) := by decide +kernel
theorem dX3_refuse_45 : decode cX3_refuse 45 = .ok (.aload_n 0, 1) := by decide +kernel
theorem dX3_refuse_46 : decode cX3_refuse 46 = .ok (.iload_n 1, 1) := by decide +kernel
theorem dX3_refuse_47 : decode cX3_refuse 47 = .ok (.invokevirtual 81, 3) := by decide +kernel
theorem dX3_refuse_50 : decode cX3_refuse 50 = .ok (.aload_n 0, 1) := by decide +kernel
theorem dX3_refuse_51 : decode cX3_refuse 51 = .ok (.invokevirtual 95, 3) := by decide +kernel
theorem dX3_refuse_54 : decode cX3_refuse 54 = .ok (.iload_n 2, 1) := by decide +kernel
theorem dX3_refuse_55 : decode cX3_refuse 55 = .ok (.ireturn, 1) := by decide +kernel
set_option maxRecDepth 20000 in
theorem ggX3_cancel_X3_isOrder : GoodIn wsX3_cancel wsX3_isOrder := goodIn_r _ [8, 9, 10, 11, 7, 12, 67, 68, 69, 70, 71, 72, 73, 74, 75, 76, 77, 78, 79, 80, 81, 82, 83, 84, 85] (by decide +kernel) (by decide +kernel)
set_option maxRecDepth 20000 in
theorem gX3_cancel_X3_isOrder : GoodIn wsX3_cancel (wsV RX3 136 RX3 yX3_isOrder wsX3_isOrder) := goodIn_app (goodIn_of _ (by decide +kernel)) ggX3_cancel_X3_isOrder
set_option maxRecDepth 20000 in
theorem ggX3_cancel_X3_fail : GoodIn wsX3_cancel wsX3_fail := goodIn_r _ [16, 1, 67, 68, 69, 70, 71, 72, 73, 74, 75, 76, 77, 78, 79, 80, 81, 82, 83, 84, 85] (by decide +kernel) (by decide +kernel)
set_option maxRecDepth 20000 in
theorem gX3_cancel_X3_fail : GoodIn wsX3_cancel (wsV RX3 70 RX3 yX3_fail wsX3_fail) := goodIn_app (goodIn_of _ (by decide +kernel)) ggX3_cancel_X3_fail
set_option maxRecDepth 20000 in
theorem ggX3_cancel_X3_state : GoodIn wsX3_cancel wsX3_state := goodIn_r _ [20, 21, 67, 68, 69, 70, 71, 72, 73, 74, 75, 76, 77, 78, 79, 80, 81, 82, 83, 84, 85] (by decide +kernel) (by decide +kernel)
set_option maxRecDepth 20000 in
theorem gX3_cancel_X3_state : GoodIn wsX3_cancel (wsV RX3 118 RX3 yX3_state wsX3_state) := goodIn_app (goodIn_of _ (by decide +kernel)) ggX3_cancel_X3_state
set_option maxRecDepth 20000 in
theorem ggX3_cancel_X3_get : GoodIn wsX3_cancel wsX3_get := goodIn_r _ [25, 21, 67, 68, 69, 70, 71, 72, 73, 74, 75, 76, 77, 78, 79, 80, 81, 82, 83, 84, 85] (by decide +kernel) (by decide +kernel)
set_option maxRecDepth 20000 in
theorem gX3_cancel_X3_get : GoodIn wsX3_cancel (wsV RX3 108 RX3 yX3_get wsX3_get) := goodIn_app (goodIn_of _ (by decide +kernel)) ggX3_cancel_X3_get
set_option maxRecDepth 20000 in
theorem ggX3_cancel_X3_free : GoodIn wsX3_cancel wsX3_free := goodIn_r _ [29, 30, 3, 2, 31, 32, 33, 7, 34, 35, 36, 67, 68, 69, 70, 71, 72, 73, 74, 75, 76, 77, 78, 79, 80, 81, 82, 83, 84, 85] (by decide +kernel) (by decide +kernel)
set_option maxRecDepth 20000 in
theorem gX3_cancel_X3_free : GoodIn wsX3_cancel (wsV RX3 88 RX3 yX3_free wsX3_free) := goodIn_app (goodIn_of _ (by decide +kernel)) ggX3_cancel_X3_free
set_option maxRecDepth 20000 in
theorem ggX3_cancel_X3_set : GoodIn wsX3_cancel wsX3_set := goodIn_r _ [40, 21, 67, 68, 69, 70, 71, 72, 73, 74, 75, 76, 77, 78, 79, 80, 81, 82, 83, 84, 85] (by decide +kernel) (by decide +kernel)
set_option maxRecDepth 20000 in
theorem gX3_cancel_X3_set : GoodIn wsX3_cancel (wsV RX3 98 RX3 yX3_set wsX3_set) := goodIn_app (goodIn_of _ (by decide +kernel)) ggX3_cancel_X3_set
set_option maxRecDepth 20000 in
theorem ggX3_cancel_X3_offerAll : GoodIn wsX3_cancel wsX3_offerAll := goodIn_r _ [44, 9, 45, 2, 46, 17, 18, 19, 7, 20, 21, 22, 23, 24, 25, 47, 48, 49, 50, 51, 52, 53, 54, 55, 30, 56, 57, 58, 59, 60, 61, 3, 36, 62, 63, 64, 65, 66, 37, 38, 39, 40, 67, 68, 69, 70, 71, 72, 73, 74, 75, 76, 77, 78, 79, 80, 81, 82, 83, 84, 85] (by decide +kernel) (by decide +kernel)
set_option maxRecDepth 20000 in
theorem gX3_cancel_X3_offerAll : GoodIn wsX3_cancel (wsV RX3 95 RX3 yX3_offerAll wsX3_offerAll) := goodIn_app (goodIn_of _ (by decide +kernel)) ggX3_cancel_X3_offerAll
theorem dX3_cancel_0 : decode cX3_cancel 0 = .ok (.aload_n 0, 1) := by decide +kernel
theorem dX3_cancel_1 : decode cX3_cancel 1 = .ok (.iconst 0, 1) := by decide +kernel
theorem dX3_cancel_2 : decode cX3_cancel 2 = .ok (.putfield 53, 3) := by decide +kernel
theorem dX3_cancel_5 : decode cX3_cancel 5 = .ok (.aload_n 0, 1) := by decide +kernel
theorem dX3_cancel_6 : decode cX3_cancel 6 = .ok (.iload_n 1, 1) := by decide +kernel
theorem dX3_cancel_7 : decode cX3_cancel 7 = .ok (.invokevirtual 136, 3) := by decide +kernel
theorem dX3_cancel_10 : decode cX3_cancel 10 = .ok (.ifCond .ne 9, 3) := by decide +kernel
theorem dX3_cancel_13 : decode cX3_cancel 13 = .ok (.aload_n 0, 1) := by decide +kernel
theorem dX3_cancel_14 : decode cX3_cancel 14 = .ok (.iconst 1, 1) := by decide +kernel
theorem dX3_cancel_15 : decode cX3_cancel 15 = .ok (.invokevirtual 70, 3) := by decide +kernel
theorem dX3_cancel_18 : decode cX3_cancel 18 = .ok (.ireturn, 1) := by decide +kernel
theorem dX3_cancel_19 : decode cX3_cancel 19 = .ok (.aload_n 0, 1) := by decide +kernel
theorem dX3_cancel_20 : decode cX3_cancel 20 = .ok (.iload_n 1, 1) := by decide +kernel
theorem dX3_cancel_21 : decode cX3_cancel 21 = .ok (.invokevirtual 118, 3) := by decide +kernel
theorem dX3_cancel_24 : decode cX3_cancel 24 = .ok (.istore_n 2, 1) := by decide +kernel
theorem dX3_cancel_25 : decode cX3_cancel 25 = .ok (.iload_n 2, 1) := by decide +kernel
theorem dX3_cancel_26 : decode cX3_cancel 26 = .ok (.iconst 2, 1) := by decide +kernel
theorem dX3_cancel_27 : decode cX3_cancel 27 = .ok (.if_icmp .le 9, 3) := by decide +kernel
theorem dX3_cancel_30 : decode cX3_cancel 30 = .ok (.aload_n 0, 1) := by decide +kernel
theorem dX3_cancel_31 : decode cX3_cancel 31 = .ok (.iconst 2, 1) := by decide +kernel
theorem dX3_cancel_32 : decode cX3_cancel 32 = .ok (.invokevirtual 70, 3) := by decide +kernel
theorem dX3_cancel_35 : decode cX3_cancel 35 = .ok (.ireturn, 1) := by decide +kernel
theorem dX3_cancel_36 : decode cX3_cancel 36 = .ok (.aload_n 0, 1) := by decide +kernel
theorem dX3_cancel_37 : decode cX3_cancel 37 = .ok (.iload_n 1, 1) := by decide +kernel
theorem dX3_cancel_38 : decode cX3_cancel 38 = .ok (.iconst 5, 1) := by decide +kernel
theorem dX3_cancel_39 : decode cX3_cancel 39 = .ok (.invokevirtual 108, 3) := by decide +kernel
theorem dX3_cancel_42 : decode cX3_cancel 42 = .ok (.istore_n 3, 1) := by decide +kernel
theorem dX3_cancel_43 : decode cX3_cancel 43 = .ok (.iload_n 2, 1) := by decide +kernel
theorem dX3_cancel_44 : decode cX3_cancel 44 = .ok (.iconst 1, 1) := by decide +kernel
theorem dX3_cancel_45 : decode cX3_cancel 45 = .ok (.if_icmp .ne 10, 3) := by decide +kernel
theorem dX3_cancel_48 : decode cX3_cancel 48 = .ok (.aload_n 0, 1) := by decide +kernel
theorem dX3_cancel_49 : decode cX3_cancel 49 = .ok (.getfield 29, 3) := by decide +kernel
theorem dX3_cancel_52 : decode cX3_cancel 52 = .ok (.iload_n 3, 1) := by decide +kernel
theorem dX3_cancel_53 : decode cX3_cancel 53 = .ok (.iconst (-1), 1) := by decide +kernel
theorem dX3_cancel_54 : decode cX3_cancel 54 = .ok (.iastore, 1) := by decide +kernel
theorem dX3_cancel_55 : decode cX3_cancel 55 = .ok (.iload_n 2, 1) := by decide +kernel
theorem dX3_cancel_56 : decode cX3_cancel 56 = .ok (.iconst 2, 1) := by decide +kernel
theorem dX3_cancel_57 : decode cX3_cancel 57 = .ok (.if_icmp .ne 14, 3) := by decide +kernel
theorem dX3_cancel_60 : decode cX3_cancel 60 = .ok (.aload_n 0, 1) := by decide +kernel
theorem dX3_cancel_61 : decode cX3_cancel 61 = .ok (.iload_n 3, 1) := by decide +kernel
theorem dX3_cancel_62 : decode cX3_cancel 62 = .ok (.aload_n 0, 1) := by decide +kernel
theorem dX3_cancel_63 : decode cX3_cancel 63 = .ok (.getfield 23, 3) := by decide +kernel
theorem dX3_cancel_66 : decode cX3_cancel 66 = .ok (.iload_n 3, 1) := by decide +kernel
theorem dX3_cancel_67 : decode cX3_cancel 67 = .ok (.iaload, 1) := by decide +kernel
theorem dX3_cancel_68 : decode cX3_cancel 68 = .ok (.invokevirtual 88, 3) := by decide +kernel
theorem dX3_cancel_71 : decode cX3_cancel 71 = .ok (.aload_n 0, 1) := by decide +kernel
theorem dX3_cancel_72 : decode cX3_cancel 72 = .ok (.iload_n 1, 1) := by decide +kernel
theorem dX3_cancel_73 : decode cX3_cancel 73 = .ok (.iconst 4, 1) := by decide +kernel
theorem dX3_cancel_74 : decode cX3_cancel 74 = .ok (.iconst 5, 1) := by decide +kernel
theorem dX3_cancel_75 : decode cX3_cancel 75 = .ok (.invokevirtual 98, 3) := by decide +kernel
theorem dX3_cancel_78 : decode cX3_cancel 78 = .ok (.aload_n 0, 1) := by decide +kernel
theorem dX3_cancel_79 : decode cX3_cancel 79 = .ok (.iload_n 1, 1) := by decide +kernel
theorem dX3_cancel_80 : decode cX3_cancel 80 = .ok (.iconst 5, 1) := by decide +kernel
theorem dX3_cancel_81 : decode cX3_cancel 81 = .ok (.iconst (-1), 1) := by decide +kernel
theorem dX3_cancel_82 : decode cX3_cancel 82 = .ok (.invokevirtual 98, 3) := by decide +kernel
theorem dX3_cancel_85 : decode cX3_cancel 85 = .ok (.aload_n 0, 1) := by decide +kernel
theorem dX3_cancel_86 : decode cX3_cancel 86 = .ok (.invokevirtual 95, 3) := by decide +kernel
theorem dX3_cancel_89 : decode cX3_cancel 89 = .ok (.iload_n 2, 1) := by decide +kernel
theorem dX3_cancel_90 : decode cX3_cancel 90 = .ok (.ireturn, 1) := by decide +kernel
set_option maxRecDepth 20000 in
theorem ggX3_orderTold_J6_bitCount_0f7a4 : GoodIn wsX3_orderTold wsJ6_bitCount_0f7a4 := goodIn_r _ [5, 6, 7, 8] (by decide +kernel) (by decide +kernel)
set_option maxRecDepth 20000 in
theorem gX3_orderTold_J6_bitCount_0f7a4 : GoodIn wsX3_orderTold (va_wsS RX3 139 yJ6_bitCount_0f7a4 wsJ6_bitCount_0f7a4) := goodIn_app (goodIn_of _ (by decide +kernel)) ggX3_orderTold_J6_bitCount_0f7a4
set_option maxRecDepth 20000 in
theorem ggX3_orderTold_X3_get : GoodIn wsX3_orderTold wsX3_get := goodIn_r _ [13, 14, 15, 16, 17, 18, 19, 20, 21, 22, 23, 24, 25, 26, 27, 28, 29, 30, 31, 32, 33] (by decide +kernel) (by decide +kernel)
set_option maxRecDepth 20000 in
theorem gX3_orderTold_X3_get : GoodIn wsX3_orderTold (wsV RX3 108 RX3 yX3_get wsX3_get) := goodIn_app (goodIn_of _ (by decide +kernel)) ggX3_orderTold_X3_get
theorem dX3_orderTold_0 : decode cX3_orderTold 0 = .ok (.iload_n 2, 1) := by decide +kernel
theorem dX3_orderTold_1 : decode cX3_orderTold 1 = .ok (.iconst 4, 1) := by decide +kernel
theorem dX3_orderTold_2 : decode cX3_orderTold 2 = .ok (.if_icmp .ne 15, 3) := by decide +kernel
theorem dX3_orderTold_5 : decode cX3_orderTold 5 = .ok (.aload_n 0, 1) := by decide +kernel
theorem dX3_orderTold_6 : decode cX3_orderTold 6 = .ok (.getfield 47, 3) := by decide +kernel
theorem dX3_orderTold_9 : decode cX3_orderTold 9 = .ok (.iload_n 1, 1) := by decide +kernel
theorem dX3_orderTold_10 : decode cX3_orderTold 10 = .ok (.iaload, 1) := by decide +kernel
theorem dX3_orderTold_11 : decode cX3_orderTold 11 = .ok (.invokestatic 139, 3) := by decide +kernel
theorem dX3_orderTold_14 : decode cX3_orderTold 14 = .ok (.goto 11, 3) := by decide +kernel
theorem dX3_orderTold_17 : decode cX3_orderTold 17 = .ok (.aload_n 0, 1) := by decide +kernel
theorem dX3_orderTold_18 : decode cX3_orderTold 18 = .ok (.iload_n 1, 1) := by decide +kernel
theorem dX3_orderTold_19 : decode cX3_orderTold 19 = .ok (.iconst 4, 1) := by decide +kernel
theorem dX3_orderTold_20 : decode cX3_orderTold 20 = .ok (.iload_n 2, 1) := by decide +kernel
theorem dX3_orderTold_21 : decode cX3_orderTold 21 = .ok (.iadd, 1) := by decide +kernel
theorem dX3_orderTold_22 : decode cX3_orderTold 22 = .ok (.invokevirtual 108, 3) := by decide +kernel
theorem dX3_orderTold_25 : decode cX3_orderTold 25 = .ok (.ireturn, 1) := by decide +kernel
set_option maxRecDepth 20000 in
theorem ggX3_told_X3_isOrder : GoodIn wsX3_told wsX3_isOrder := goodIn_r _ [6, 7, 8, 9, 5, 10, 32, 33, 34, 35, 36, 37, 38, 39, 40, 41, 42, 43, 44, 45, 46, 47, 48, 49, 50] (by decide +kernel) (by decide +kernel)
set_option maxRecDepth 20000 in
theorem gX3_told_X3_isOrder : GoodIn wsX3_told (wsV RX3 136 RX3 yX3_isOrder wsX3_isOrder) := goodIn_app (goodIn_of _ (by decide +kernel)) ggX3_told_X3_isOrder
set_option maxRecDepth 20000 in
theorem ggX3_told_X3_isIn : GoodIn wsX3_told wsX3_isIn := goodIn_r _ [10] (by decide +kernel) (by decide +kernel)
set_option maxRecDepth 20000 in
theorem gX3_told_X3_isIn : GoodIn wsX3_told (va_wsS RX3 56 yX3_isIn wsX3_isIn) := goodIn_app (goodIn_of _ (by decide +kernel)) ggX3_told_X3_isIn
set_option maxRecDepth 20000 in
theorem ggX3_told_X3_orderTold : GoodIn wsX3_told wsX3_orderTold := goodIn_r _ [14, 15, 16, 17, 18, 19, 20, 21, 22, 23, 24, 25, 5, 26, 27, 32, 33, 34, 35, 36, 37, 38, 39, 40, 41, 42, 43, 44, 45, 46, 47, 48, 49, 50] (by decide +kernel) (by decide +kernel)
set_option maxRecDepth 20000 in
theorem gX3_told_X3_orderTold : GoodIn wsX3_told (wsV RX3 144 RX3 yX3_orderTold wsX3_orderTold) := goodIn_app (goodIn_of _ (by decide +kernel)) ggX3_told_X3_orderTold
set_option maxRecDepth 20000 in
theorem ggX3_told_X3_fail : GoodIn wsX3_told wsX3_fail := goodIn_r _ [31, 1, 32, 33, 34, 35, 36, 37, 38, 39, 40, 41, 42, 43, 44, 45, 46, 47, 48, 49, 50] (by decide +kernel) (by decide +kernel)
set_option maxRecDepth 20000 in
theorem gX3_told_X3_fail : GoodIn wsX3_told (wsV RX3 70 RX3 yX3_fail wsX3_fail) := goodIn_app (goodIn_of _ (by decide +kernel)) ggX3_told_X3_fail
theorem dX3_told_0 : decode cX3_told 0 = .ok (.aload_n 0, 1) := by decide +kernel
theorem dX3_told_1 : decode cX3_told 1 = .ok (.iconst 0, 1) := by decide +kernel
theorem dX3_told_2 : decode cX3_told 2 = .ok (.putfield 53, 3) := by decide +kernel
theorem dX3_told_5 : decode cX3_told 5 = .ok (.aload_n 0, 1) := by decide +kernel
theorem dX3_told_6 : decode cX3_told 6 = .ok (.iload_n 1, 1) := by decide +kernel
theorem dX3_told_7 : decode cX3_told 7 = .ok (.invokevirtual 136, 3) := by decide +kernel
theorem dX3_told_10 : decode cX3_told 10 = .ok (.ifCond .eq 21, 3) := by decide +kernel
theorem dX3_told_13 : decode cX3_told 13 = .ok (.iload_n 2, 1) := by decide +kernel
theorem dX3_told_14 : decode cX3_told 14 = .ok (.iconst 0, 1) := by decide +kernel
theorem dX3_told_15 : decode cX3_told 15 = .ok (.iconst 4, 1) := by decide +kernel
theorem dX3_told_16 : decode cX3_told 16 = .ok (.invokestatic 56, 3) := by decide +kernel
theorem dX3_told_19 : decode cX3_told 19 = .ok (.ifCond .eq 12, 3) := by decide +kernel
theorem dX3_told_22 : decode cX3_told 22 = .ok (.aload_n 0, 1) := by decide +kernel
theorem dX3_told_23 : decode cX3_told 23 = .ok (.iload_n 1, 1) := by decide +kernel
theorem dX3_told_24 : decode cX3_told 24 = .ok (.iload_n 2, 1) := by decide +kernel
theorem dX3_told_25 : decode cX3_told 25 = .ok (.invokevirtual 144, 3) := by decide +kernel
theorem dX3_told_28 : decode cX3_told 28 = .ok (.goto 8, 3) := by decide +kernel
theorem dX3_told_31 : decode cX3_told 31 = .ok (.aload_n 0, 1) := by decide +kernel
theorem dX3_told_32 : decode cX3_told 32 = .ok (.iconst 1, 1) := by decide +kernel
theorem dX3_told_33 : decode cX3_told 33 = .ok (.invokevirtual 70, 3) := by decide +kernel
theorem dX3_told_36 : decode cX3_told 36 = .ok (.ireturn, 1) := by decide +kernel
theorem dX3_fareOf_0 : decode cX3_fareOf 0 = .ok (.iload_n 2, 1) := by decide +kernel
theorem dX3_fareOf_1 : decode cX3_fareOf 1 = .ok (.iconst 4, 1) := by decide +kernel
theorem dX3_fareOf_2 : decode cX3_fareOf 2 = .ok (.if_icmp .ge 14, 3) := by decide +kernel
theorem dX3_fareOf_5 : decode cX3_fareOf 5 = .ok (.aload_n 0, 1) := by decide +kernel
theorem dX3_fareOf_6 : decode cX3_fareOf 6 = .ok (.getfield 50, 3) := by decide +kernel
theorem dX3_fareOf_9 : decode cX3_fareOf 9 = .ok (.iconst 4, 1) := by decide +kernel
theorem dX3_fareOf_10 : decode cX3_fareOf 10 = .ok (.iload_n 1, 1) := by decide +kernel
theorem dX3_fareOf_11 : decode cX3_fareOf 11 = .ok (.imul, 1) := by decide +kernel
theorem dX3_fareOf_12 : decode cX3_fareOf 12 = .ok (.iload_n 2, 1) := by decide +kernel
theorem dX3_fareOf_13 : decode cX3_fareOf 13 = .ok (.iadd, 1) := by decide +kernel
theorem dX3_fareOf_14 : decode cX3_fareOf 14 = .ok (.iaload, 1) := by decide +kernel
theorem dX3_fareOf_15 : decode cX3_fareOf 15 = .ok (.ireturn, 1) := by decide +kernel
theorem dX3_fareOf_16 : decode cX3_fareOf 16 = .ok (.aload_n 0, 1) := by decide +kernel
theorem dX3_fareOf_17 : decode cX3_fareOf 17 = .ok (.getfield 50, 3) := by decide +kernel
theorem dX3_fareOf_20 : decode cX3_fareOf 20 = .ok (.iconst 4, 1) := by decide +kernel
theorem dX3_fareOf_21 : decode cX3_fareOf 21 = .ok (.iload_n 1, 1) := by decide +kernel
theorem dX3_fareOf_22 : decode cX3_fareOf 22 = .ok (.imul, 1) := by decide +kernel
theorem dX3_fareOf_23 : decode cX3_fareOf 23 = .ok (.iaload, 1) := by decide +kernel
theorem dX3_fareOf_24 : decode cX3_fareOf 24 = .ok (.aload_n 0, 1) := by decide +kernel
theorem dX3_fareOf_25 : decode cX3_fareOf 25 = .ok (.getfield 50, 3) := by decide +kernel
theorem dX3_fareOf_28 : decode cX3_fareOf 28 = .ok (.iconst 4, 1) := by decide +kernel
theorem dX3_fareOf_29 : decode cX3_fareOf 29 = .ok (.iload_n 1, 1) := by decide +kernel
theorem dX3_fareOf_30 : decode cX3_fareOf 30 = .ok (.imul, 1) := by decide +kernel
theorem dX3_fareOf_31 : decode cX3_fareOf 31 = .ok (.iconst 1, 1) := by decide +kernel
theorem dX3_fareOf_32 : decode cX3_fareOf 32 = .ok (.iadd, 1) := by decide +kernel
theorem dX3_fareOf_33 : decode cX3_fareOf 33 = .ok (.iaload, 1) := by decide +kernel
theorem dX3_fareOf_34 : decode cX3_fareOf 34 = .ok (.iadd, 1) := by decide +kernel
theorem dX3_fareOf_35 : decode cX3_fareOf 35 = .ok (.aload_n 0, 1) := by decide +kernel
theorem dX3_fareOf_36 : decode cX3_fareOf 36 = .ok (.getfield 50, 3) := by decide +kernel
theorem dX3_fareOf_39 : decode cX3_fareOf 39 = .ok (.iconst 4, 1) := by decide +kernel
theorem dX3_fareOf_40 : decode cX3_fareOf 40 = .ok (.iload_n 1, 1) := by decide +kernel
theorem dX3_fareOf_41 : decode cX3_fareOf 41 = .ok (.imul, 1) := by decide +kernel
theorem dX3_fareOf_42 : decode cX3_fareOf 42 = .ok (.iconst 2, 1) := by decide +kernel
theorem dX3_fareOf_43 : decode cX3_fareOf 43 = .ok (.iadd, 1) := by decide +kernel
theorem dX3_fareOf_44 : decode cX3_fareOf 44 = .ok (.iaload, 1) := by decide +kernel
theorem dX3_fareOf_45 : decode cX3_fareOf 45 = .ok (.iadd, 1) := by decide +kernel
theorem dX3_fareOf_46 : decode cX3_fareOf 46 = .ok (.aload_n 0, 1) := by decide +kernel
theorem dX3_fareOf_47 : decode cX3_fareOf 47 = .ok (.getfield 50, 3) := by decide +kernel
theorem dX3_fareOf_50 : decode cX3_fareOf 50 = .ok (.iconst 4, 1) := by decide +kernel
theorem dX3_fareOf_51 : decode cX3_fareOf 51 = .ok (.iload_n 1, 1) := by decide +kernel
theorem dX3_fareOf_52 : decode cX3_fareOf 52 = .ok (.imul, 1) := by decide +kernel
theorem dX3_fareOf_53 : decode cX3_fareOf 53 = .ok (.iconst 3, 1) := by decide +kernel
theorem dX3_fareOf_54 : decode cX3_fareOf 54 = .ok (.iadd, 1) := by decide +kernel
theorem dX3_fareOf_55 : decode cX3_fareOf 55 = .ok (.iaload, 1) := by decide +kernel
theorem dX3_fareOf_56 : decode cX3_fareOf 56 = .ok (.iadd, 1) := by decide +kernel
theorem dX3_fareOf_57 : decode cX3_fareOf 57 = .ok (.ireturn, 1) := by decide +kernel
set_option maxRecDepth 20000 in
theorem ggX3_fare_X3_isOrder : GoodIn wsX3_fare wsX3_isOrder := goodIn_r _ [6, 7, 8, 9, 5, 10, 20, 21, 22, 23, 24, 25, 26, 27, 28, 29, 30, 31, 32, 33, 34, 35, 36, 37, 38] (by decide +kernel) (by decide +kernel)
set_option maxRecDepth 20000 in
theorem gX3_fare_X3_isOrder : GoodIn wsX3_fare (wsV RX3 136 RX3 yX3_isOrder wsX3_isOrder) := goodIn_app (goodIn_of _ (by decide +kernel)) ggX3_fare_X3_isOrder
set_option maxRecDepth 20000 in
theorem ggX3_fare_X3_isIn : GoodIn wsX3_fare wsX3_isIn := goodIn_r _ [10] (by decide +kernel) (by decide +kernel)
set_option maxRecDepth 20000 in
theorem gX3_fare_X3_isIn : GoodIn wsX3_fare (va_wsS RX3 56 yX3_isIn wsX3_isIn) := goodIn_app (goodIn_of _ (by decide +kernel)) ggX3_fare_X3_isIn
set_option maxRecDepth 20000 in
theorem ggX3_fare_X3_fareOf : GoodIn wsX3_fare wsX3_fareOf := goodIn_r _ [14, 15, 20, 21, 22, 23, 24, 25, 26, 27, 28, 29, 30, 31, 32, 33, 34, 35, 36, 37, 38] (by decide +kernel) (by decide +kernel)
set_option maxRecDepth 20000 in
theorem gX3_fare_X3_fareOf : GoodIn wsX3_fare (wsV RX3 147 RX3 yX3_fareOf wsX3_fareOf) := goodIn_app (goodIn_of _ (by decide +kernel)) ggX3_fare_X3_fareOf
set_option maxRecDepth 20000 in
theorem ggX3_fare_X3_fail : GoodIn wsX3_fare wsX3_fail := goodIn_r _ [19, 1, 20, 21, 22, 23, 24, 25, 26, 27, 28, 29, 30, 31, 32, 33, 34, 35, 36, 37, 38] (by decide +kernel) (by decide +kernel)
set_option maxRecDepth 20000 in
theorem gX3_fare_X3_fail : GoodIn wsX3_fare (wsV RX3 70 RX3 yX3_fail wsX3_fail) := goodIn_app (goodIn_of _ (by decide +kernel)) ggX3_fare_X3_fail
theorem dX3_fare_0 : decode cX3_fare 0 = .ok (.aload_n 0, 1) := by decide +kernel
theorem dX3_fare_1 : decode cX3_fare 1 = .ok (.iconst 0, 1) := by decide +kernel
theorem dX3_fare_2 : decode cX3_fare 2 = .ok (.putfield 53, 3) := by decide +kernel
theorem dX3_fare_5 : decode cX3_fare 5 = .ok (.aload_n 0, 1) := by decide +kernel
theorem dX3_fare_6 : decode cX3_fare 6 = .ok (.iload_n 1, 1) := by decide +kernel
theorem dX3_fare_7 : decode cX3_fare 7 = .ok (.invokevirtual 136, 3) := by decide +kernel
theorem dX3_fare_10 : decode cX3_fare 10 = .ok (.ifCond .eq 21, 3) := by decide +kernel
theorem dX3_fare_13 : decode cX3_fare 13 = .ok (.iload_n 2, 1) := by decide +kernel
theorem dX3_fare_14 : decode cX3_fare 14 = .ok (.iconst 0, 1) := by decide +kernel
theorem dX3_fare_15 : decode cX3_fare 15 = .ok (.iconst 4, 1) := by decide +kernel
theorem dX3_fare_16 : decode cX3_fare 16 = .ok (.invokestatic 56, 3) := by decide +kernel
theorem dX3_fare_19 : decode cX3_fare 19 = .ok (.ifCond .eq 12, 3) := by decide +kernel
theorem dX3_fare_22 : decode cX3_fare 22 = .ok (.aload_n 0, 1) := by decide +kernel
theorem dX3_fare_23 : decode cX3_fare 23 = .ok (.iload_n 1, 1) := by decide +kernel
theorem dX3_fare_24 : decode cX3_fare 24 = .ok (.iload_n 2, 1) := by decide +kernel
theorem dX3_fare_25 : decode cX3_fare 25 = .ok (.invokevirtual 147, 3) := by decide +kernel
theorem dX3_fare_28 : decode cX3_fare 28 = .ok (.goto 8, 3) := by decide +kernel
theorem dX3_fare_31 : decode cX3_fare 31 = .ok (.aload_n 0, 1) := by decide +kernel
theorem dX3_fare_32 : decode cX3_fare 32 = .ok (.iconst 1, 1) := by decide +kernel
theorem dX3_fare_33 : decode cX3_fare 33 = .ok (.invokevirtual 70, 3) := by decide +kernel
theorem dX3_fare_36 : decode cX3_fare 36 = .ok (.ireturn, 1) := by decide +kernel
set_option maxRecDepth 20000 in
theorem ggX3_ride_X3_get : GoodIn wsX3_ride wsX3_get := goodIn_r _ [17, 18, 28, 29, 30, 31, 32, 33, 34, 35, 36, 37, 38, 39, 40, 41, 42, 43, 44, 45, 46] (by decide +kernel) (by decide +kernel)
set_option maxRecDepth 20000 in
theorem gX3_ride_X3_get : GoodIn wsX3_ride (wsV RX3 108 RX3 yX3_get wsX3_get) := goodIn_app (goodIn_of _ (by decide +kernel)) ggX3_ride_X3_get
set_option maxRecDepth 20000 in
theorem ggX3_ride_X3_way : GoodIn wsX3_ride wsX3_way := goodIn_r _ [22, 23, 28, 29, 30, 31, 32, 33, 34, 35, 36, 37, 38, 39, 40, 41, 42, 43, 44, 45, 46] (by decide +kernel) (by decide +kernel)
set_option maxRecDepth 20000 in
theorem gX3_ride_X3_way : GoodIn wsX3_ride (wsV RX3 74 RX3 yX3_way wsX3_way) := goodIn_app (goodIn_of _ (by decide +kernel)) ggX3_ride_X3_way
set_option maxRecDepth 20000 in
theorem ggX3_ride_X3_set : GoodIn wsX3_ride wsX3_set := goodIn_r _ [27, 18, 28, 29, 30, 31, 32, 33, 34, 35, 36, 37, 38, 39, 40, 41, 42, 43, 44, 45, 46] (by decide +kernel) (by decide +kernel)
set_option maxRecDepth 20000 in
theorem gX3_ride_X3_set : GoodIn wsX3_ride (wsV RX3 98 RX3 yX3_set wsX3_set) := goodIn_app (goodIn_of _ (by decide +kernel)) ggX3_ride_X3_set
theorem dX3_ride_0 : decode cX3_ride 0 = .ok (.aload_n 0, 1) := by decide +kernel
theorem dX3_ride_1 : decode cX3_ride 1 = .ok (.getfield 29, 3) := by decide +kernel
theorem dX3_ride_4 : decode cX3_ride 4 = .ok (.iload_n 1, 1) := by decide +kernel
theorem dX3_ride_5 : decode cX3_ride 5 = .ok (.iaload, 1) := by decide +kernel
theorem dX3_ride_6 : decode cX3_ride 6 = .ok (.istore_n 2, 1) := by decide +kernel
theorem dX3_ride_7 : decode cX3_ride 7 = .ok (.aload_n 0, 1) := by decide +kernel
theorem dX3_ride_8 : decode cX3_ride 8 = .ok (.aload_n 0, 1) := by decide +kernel
theorem dX3_ride_9 : decode cX3_ride 9 = .ok (.iload_n 2, 1) := by decide +kernel
theorem dX3_ride_10 : decode cX3_ride 10 = .ok (.iconst 0, 1) := by decide +kernel
theorem dX3_ride_11 : decode cX3_ride 11 = .ok (.invokevirtual 108, 3) := by decide +kernel
theorem dX3_ride_14 : decode cX3_ride 14 = .ok (.aload_n 0, 1) := by decide +kernel
theorem dX3_ride_15 : decode cX3_ride 15 = .ok (.iload_n 2, 1) := by decide +kernel
theorem dX3_ride_16 : decode cX3_ride 16 = .ok (.iconst 1, 1) := by decide +kernel
theorem dX3_ride_17 : decode cX3_ride 17 = .ok (.invokevirtual 108, 3) := by decide +kernel
theorem dX3_ride_20 : decode cX3_ride 20 = .ok (.invokevirtual 74, 3) := by decide +kernel
theorem dX3_ride_23 : decode cX3_ride 23 = .ok (.istore_n 3, 1) := by decide +kernel
theorem dX3_ride_24 : decode cX3_ride 24 = .ok (.aload_n 0, 1) := by decide +kernel
theorem dX3_ride_25 : decode cX3_ride 25 = .ok (.getfield 26, 3) := by decide +kernel
theorem dX3_ride_28 : decode cX3_ride 28 = .ok (.iload_n 1, 1) := by decide +kernel
theorem dX3_ride_29 : decode cX3_ride 29 = .ok (.iconst 3, 1) := by decide +kernel
theorem dX3_ride_30 : decode cX3_ride 30 = .ok (.iastore, 1) := by decide +kernel
theorem dX3_ride_31 : decode cX3_ride 31 = .ok (.aload_n 0, 1) := by decide +kernel
theorem dX3_ride_32 : decode cX3_ride 32 = .ok (.getfield 23, 3) := by decide +kernel
theorem dX3_ride_35 : decode cX3_ride 35 = .ok (.iload_n 1, 1) := by decide +kernel
theorem dX3_ride_36 : decode cX3_ride 36 = .ok (.aload_n 0, 1) := by decide +kernel
theorem dX3_ride_37 : decode cX3_ride 37 = .ok (.iload_n 2, 1) := by decide +kernel
theorem dX3_ride_38 : decode cX3_ride 38 = .ok (.iconst 0, 1) := by decide +kernel
theorem dX3_ride_39 : decode cX3_ride 39 = .ok (.invokevirtual 108, 3) := by decide +kernel
theorem dX3_ride_42 : decode cX3_ride 42 = .ok (.iastore, 1) := by decide +kernel
theorem dX3_ride_43 : decode cX3_ride 43 = .ok (.aload_n 0, 1) := by decide +kernel
theorem dX3_ride_44 : decode cX3_ride 44 = .ok (.getfield 32, 3) := by decide +kernel
theorem dX3_ride_47 : decode cX3_ride 47 = .ok (.iload_n 1, 1) := by decide +kernel
theorem dX3_ride_48 : decode cX3_ride 48 = .ok (.aload_n 0, 1) := by decide +kernel
theorem dX3_ride_49 : decode cX3_ride 49 = .ok (.getfield 121, 3) := by decide +kernel
theorem dX3_ride_52 : decode cX3_ride 52 = .ok (.iload_n 3, 1) := by decide +kernel
theorem dX3_ride_53 : decode cX3_ride 53 = .ok (.iadd, 1) := by decide +kernel
theorem dX3_ride_54 : decode cX3_ride 54 = .ok (.iastore, 1) := by decide +kernel
theorem dX3_ride_55 : decode cX3_ride 55 = .ok (.aload_n 0, 1) := by decide +kernel
theorem dX3_ride_56 : decode cX3_ride 56 = .ok (.iload_n 2, 1) := by decide +kernel
theorem dX3_ride_57 : decode cX3_ride 57 = .ok (.iconst 4, 1) := by decide +kernel
theorem dX3_ride_58 : decode cX3_ride 58 = .ok (.iconst 3, 1) := by decide +kernel
theorem dX3_ride_59 : decode cX3_ride 59 = .ok (.invokevirtual 98, 3) := by decide +kernel
theorem dX3_ride_62 : decode cX3_ride 62 = .ok (.aload_n 0, 1) := by decide +kernel
theorem dX3_ride_63 : decode cX3_ride 63 = .ok (.iload_n 2, 1) := by decide +kernel
theorem dX3_ride_64 : decode cX3_ride 64 = .ok (.bipush 6, 2) := by decide +kernel
theorem dX3_ride_66 : decode cX3_ride 66 = .ok (.aload_n 0, 1) := by decide +kernel
theorem dX3_ride_67 : decode cX3_ride 67 = .ok (.getfield 121, 3) := by decide +kernel
theorem dX3_ride_70 : decode cX3_ride 70 = .ok (.invokevirtual 98, 3) := by decide +kernel
theorem dX3_ride_73 : decode cX3_ride 73 = .ok (.aload_n 0, 1) := by decide +kernel
theorem dX3_ride_74 : decode cX3_ride 74 = .ok (.getfield 50, 3) := by decide +kernel
theorem dX3_ride_77 : decode cX3_ride 77 = .ok (.iconst 4, 1) := by decide +kernel
theorem dX3_ride_78 : decode cX3_ride 78 = .ok (.iload_n 2, 1) := by decide +kernel
theorem dX3_ride_79 : decode cX3_ride 79 = .ok (.imul, 1) := by decide +kernel
theorem dX3_ride_80 : decode cX3_ride 80 = .ok (.aload_n 0, 1) := by decide +kernel
theorem dX3_ride_81 : decode cX3_ride 81 = .ok (.getfield 13, 3) := by decide +kernel
theorem dX3_ride_84 : decode cX3_ride 84 = .ok (.iastore, 1) := by decide +kernel
theorem dX3_ride_85 : decode cX3_ride 85 = .ok (.aload_n 0, 1) := by decide +kernel
theorem dX3_ride_86 : decode cX3_ride 86 = .ok (.getfield 50, 3) := by decide +kernel
theorem dX3_ride_89 : decode cX3_ride 89 = .ok (.iconst 4, 1) := by decide +kernel
theorem dX3_ride_90 : decode cX3_ride 90 = .ok (.iload_n 2, 1) := by decide +kernel
theorem dX3_ride_91 : decode cX3_ride 91 = .ok (.imul, 1) := by decide +kernel
theorem dX3_ride_92 : decode cX3_ride 92 = .ok (.iconst 1, 1) := by decide +kernel
theorem dX3_ride_93 : decode cX3_ride 93 = .ok (.iadd, 1) := by decide +kernel
theorem dX3_ride_94 : decode cX3_ride 94 = .ok (.aload_n 0, 1) := by decide +kernel
theorem dX3_ride_95 : decode cX3_ride 95 = .ok (.getfield 17, 3) := by decide +kernel
theorem dX3_ride_98 : decode cX3_ride 98 = .ok (.iload_n 3, 1) := by decide +kernel
theorem dX3_ride_99 : decode cX3_ride 99 = .ok (.imul, 1) := by decide +kernel
theorem dX3_ride_100 : decode cX3_ride 100 = .ok (.iastore, 1) := by decide +kernel
theorem dX3_ride_101 : decode cX3_ride 101 = .ok (.aload_n 0, 1) := by decide +kernel
theorem dX3_ride_102 : decode cX3_ride 102 = .ok (.getfield 50, 3) := by decide +kernel
theorem dX3_ride_105 : decode cX3_ride 105 = .ok (.iconst 4, 1) := by decide +kernel
theorem dX3_ride_106 : decode cX3_ride 106 = .ok (.iload_n 2, 1) := by decide +kernel
theorem dX3_ride_107 : decode cX3_ride 107 = .ok (.imul, 1) := by decide +kernel
theorem dX3_ride_108 : decode cX3_ride 108 = .ok (.iconst 2, 1) := by decide +kernel
theorem dX3_ride_109 : decode cX3_ride 109 = .ok (.iadd, 1) := by decide +kernel
theorem dX3_ride_110 : decode cX3_ride 110 = .ok (.iconst 5, 1) := by decide +kernel
theorem dX3_ride_111 : decode cX3_ride 111 = .ok (.aload_n 0, 1) := by decide +kernel
theorem dX3_ride_112 : decode cX3_ride 112 = .ok (.getfield 121, 3) := by decide +kernel
theorem dX3_ride_115 : decode cX3_ride 115 = .ok (.aload_n 0, 1) := by decide +kernel
theorem dX3_ride_116 : decode cX3_ride 116 = .ok (.iload_n 2, 1) := by decide +kernel
theorem dX3_ride_117 : decode cX3_ride 117 = .ok (.iconst 3, 1) := by decide +kernel
theorem dX3_ride_118 : decode cX3_ride 118 = .ok (.invokevirtual 108, 3) := by decide +kernel
theorem dX3_ride_121 : decode cX3_ride 121 = .ok (.isub, 1) := by decide +kernel
theorem dX3_ride_122 : decode cX3_ride 122 = .ok (.invokestatic 150, 3) := by decide +kernel
theorem dX3_ride_125 : decode cX3_ride 125 = .ok (.ineg, 1) := by decide +kernel
theorem dX3_ride_126 : decode cX3_ride 126 = .ok (.iastore, 1) := by decide +kernel
theorem dX3_ride_127 : decode cX3_ride 127 = .ok (.aload_n 0, 1) := by decide +kernel
theorem dX3_ride_128 : decode cX3_ride 128 = .ok (.getfield 50, 3) := by decide +kernel
theorem dX3_ride_131 : decode cX3_ride 131 = .ok (.iconst 4, 1) := by decide +kernel
theorem dX3_ride_132 : decode cX3_ride 132 = .ok (.iload_n 2, 1) := by decide +kernel
theorem dX3_ride_133 : decode cX3_ride 133 = .ok (.imul, 1) := by decide +kernel
theorem dX3_ride_134 : decode cX3_ride 134 = .ok (.iconst 3, 1) := by decide +kernel
theorem dX3_ride_135 : decode cX3_ride 135 = .ok (.iadd, 1) := by decide +kernel
theorem dX3_ride_136 : decode cX3_ride 136 = .ok (.aload_n 0, 1) := by decide +kernel
theorem dX3_ride_137 : decode cX3_ride 137 = .ok (.getfield 121, 3) := by decide +kernel
theorem dX3_ride_140 : decode cX3_ride 140 = .ok (.sipush 1440, 3) := by decide +kernel
theorem dX3_ride_143 : decode cX3_ride 143 = .ok (.irem, 1) := by decide +kernel
theorem dX3_ride_144 : decode cX3_ride 144 = .ok (.sipush 360, 3) := by decide +kernel
theorem dX3_ride_147 : decode cX3_ride 147 = .ok (.if_icmp .ge 19, 3) := by decide +kernel
theorem dX3_ride_150 : decode cX3_ride 150 = .ok (.aload_n 0, 1) := by decide +kernel
theorem dX3_ride_151 : decode cX3_ride 151 = .ok (.getfield 13, 3) := by decide +kernel
theorem dX3_ride_154 : decode cX3_ride 154 = .ok (.aload_n 0, 1) := by decide +kernel
theorem dX3_ride_155 : decode cX3_ride 155 = .ok (.getfield 17, 3) := by decide +kernel
theorem dX3_ride_158 : decode cX3_ride 158 = .ok (.iload_n 3, 1) := by decide +kernel
theorem dX3_ride_159 : decode cX3_ride 159 = .ok (.imul, 1) := by decide +kernel
theorem dX3_ride_160 : decode cX3_ride 160 = .ok (.iadd, 1) := by decide +kernel
theorem dX3_ride_161 : decode cX3_ride 161 = .ok (.iconst 2, 1) := by decide +kernel
theorem dX3_ride_162 : decode cX3_ride 162 = .ok (.idiv, 1) := by decide +kernel
theorem dX3_ride_163 : decode cX3_ride 163 = .ok (.goto 4, 3) := by decide +kernel
theorem dX3_ride_166 : decode cX3_ride 166 = .ok (.iconst 0, 1) := by decide +kernel
theorem dX3_ride_167 : decode cX3_ride 167 = .ok (.iastore, 1) := by decide +kernel
theorem dX3_ride_168 : decode cX3_ride 168 = .ok (.return_, 1) := by decide +kernel
set_option maxRecDepth 20000 in
theorem ggX3_done_X3_set : GoodIn wsX3_done wsX3_set := goodIn_r _ [9, 10, 32, 33, 34, 35, 36, 37, 38, 39, 40, 41, 42, 43, 44, 45, 46, 47, 48, 49, 50] (by decide +kernel) (by decide +kernel)
set_option maxRecDepth 20000 in
theorem gX3_done_X3_set : GoodIn wsX3_done (wsV RX3 98 RX3 yX3_set wsX3_set) := goodIn_app (goodIn_of _ (by decide +kernel)) ggX3_done_X3_set
set_option maxRecDepth 20000 in
theorem ggX3_done_X3_fareOf : GoodIn wsX3_done wsX3_fareOf := goodIn_r _ [14, 15, 32, 33, 34, 35, 36, 37, 38, 39, 40, 41, 42, 43, 44, 45, 46, 47, 48, 49, 50] (by decide +kernel) (by decide +kernel)
set_option maxRecDepth 20000 in
theorem gX3_done_X3_fareOf : GoodIn wsX3_done (wsV RX3 147 RX3 yX3_fareOf wsX3_fareOf) := goodIn_app (goodIn_of _ (by decide +kernel)) ggX3_done_X3_fareOf
set_option maxRecDepth 20000 in
theorem ggX3_done_X3_get : GoodIn wsX3_done wsX3_get := goodIn_r _ [19, 10, 32, 33, 34, 35, 36, 37, 38, 39, 40, 41, 42, 43, 44, 45, 46, 47, 48, 49, 50] (by decide +kernel) (by decide +kernel)
set_option maxRecDepth 20000 in
theorem gX3_done_X3_get : GoodIn wsX3_done (wsV RX3 108 RX3 yX3_get wsX3_get) := goodIn_app (goodIn_of _ (by decide +kernel)) ggX3_done_X3_get
set_option maxRecDepth 20000 in
theorem ggX3_done_X3_free : GoodIn wsX3_done wsX3_free := goodIn_r _ [23, 24, 25, 1, 26, 27, 28, 8, 29, 30, 31, 32, 33, 34, 35, 36, 37, 38, 39, 40, 41, 42, 43, 44, 45, 46, 47, 48, 49, 50] (by decide +kernel) (by decide +kernel)
set_option maxRecDepth 20000 in
theorem gX3_done_X3_free : GoodIn wsX3_done (wsV RX3 88 RX3 yX3_free wsX3_free) := goodIn_app (goodIn_of _ (by decide +kernel)) ggX3_done_X3_free
theorem dX3_done_0 : decode cX3_done 0 = .ok (.aload_n 0, 1) := by decide +kernel
theorem dX3_done_1 : decode cX3_done 1 = .ok (.getfield 29, 3) := by decide +kernel
theorem dX3_done_4 : decode cX3_done 4 = .ok (.iload_n 1, 1) := by decide +kernel
theorem dX3_done_5 : decode cX3_done 5 = .ok (.iaload, 1) := by decide +kernel
theorem dX3_done_6 : decode cX3_done 6 = .ok (.istore_n 2, 1) := by decide +kernel
theorem dX3_done_7 : decode cX3_done 7 = .ok (.aload_n 0, 1) := by decide +kernel
theorem dX3_done_8 : decode cX3_done 8 = .ok (.iload_n 2, 1) := by decide +kernel
theorem dX3_done_9 : decode cX3_done 9 = .ok (.iconst 4, 1) := by decide +kernel
theorem dX3_done_10 : decode cX3_done 10 = .ok (.iconst 4, 1) := by decide +kernel
theorem dX3_done_11 : decode cX3_done 11 = .ok (.invokevirtual 98, 3) := by decide +kernel
theorem dX3_done_14 : decode cX3_done 14 = .ok (.aload_n 0, 1) := by decide +kernel
theorem dX3_done_15 : decode cX3_done 15 = .ok (.iload_n 2, 1) := by decide +kernel
theorem dX3_done_16 : decode cX3_done 16 = .ok (.bipush 7, 2) := by decide +kernel
theorem dX3_done_18 : decode cX3_done 18 = .ok (.aload_n 0, 1) := by decide +kernel
theorem dX3_done_19 : decode cX3_done 19 = .ok (.getfield 121, 3) := by decide +kernel
theorem dX3_done_22 : decode cX3_done 22 = .ok (.invokevirtual 98, 3) := by decide +kernel
theorem dX3_done_25 : decode cX3_done 25 = .ok (.aload_n 0, 1) := by decide +kernel
theorem dX3_done_26 : decode cX3_done 26 = .ok (.iload_n 2, 1) := by decide +kernel
theorem dX3_done_27 : decode cX3_done 27 = .ok (.iconst 4, 1) := by decide +kernel
theorem dX3_done_28 : decode cX3_done 28 = .ok (.invokevirtual 147, 3) := by decide +kernel
theorem dX3_done_31 : decode cX3_done 31 = .ok (.bipush 80, 2) := by decide +kernel
theorem dX3_done_33 : decode cX3_done 33 = .ok (.imul, 1) := by decide +kernel
theorem dX3_done_34 : decode cX3_done 34 = .ok (.bipush 100, 2) := by decide +kernel
theorem dX3_done_36 : decode cX3_done 36 = .ok (.idiv, 1) := by decide +kernel
theorem dX3_done_37 : decode cX3_done 37 = .ok (.istore_n 3, 1) := by decide +kernel
theorem dX3_done_38 : decode cX3_done 38 = .ok (.aload_n 0, 1) := by decide +kernel
theorem dX3_done_39 : decode cX3_done 39 = .ok (.getfield 38, 3) := by decide +kernel
theorem dX3_done_42 : decode cX3_done 42 = .ok (.iload_n 1, 1) := by decide +kernel
theorem dX3_done_43 : decode cX3_done 43 = .ok (.dup2, 1) := by decide +kernel
theorem dX3_done_44 : decode cX3_done 44 = .ok (.iaload, 1) := by decide +kernel
theorem dX3_done_45 : decode cX3_done 45 = .ok (.iload_n 3, 1) := by decide +kernel
theorem dX3_done_46 : decode cX3_done 46 = .ok (.iadd, 1) := by decide +kernel
theorem dX3_done_47 : decode cX3_done 47 = .ok (.iastore, 1) := by decide +kernel
theorem dX3_done_48 : decode cX3_done 48 = .ok (.aload_n 0, 1) := by decide +kernel
theorem dX3_done_49 : decode cX3_done 49 = .ok (.getfield 41, 3) := by decide +kernel
theorem dX3_done_52 : decode cX3_done 52 = .ok (.iload_n 1, 1) := by decide +kernel
theorem dX3_done_53 : decode cX3_done 53 = .ok (.dup2, 1) := by decide +kernel
theorem dX3_done_54 : decode cX3_done 54 = .ok (.iaload, 1) := by decide +kernel
theorem dX3_done_55 : decode cX3_done 55 = .ok (.aload_n 0, 1) := by decide +kernel
theorem dX3_done_56 : decode cX3_done 56 = .ok (.iload_n 2, 1) := by decide +kernel
theorem dX3_done_57 : decode cX3_done 57 = .ok (.iconst 4, 1) := by decide +kernel
theorem dX3_done_58 : decode cX3_done 58 = .ok (.invokevirtual 147, 3) := by decide +kernel
theorem dX3_done_61 : decode cX3_done 61 = .ok (.iload_n 3, 1) := by decide +kernel
theorem dX3_done_62 : decode cX3_done 62 = .ok (.isub, 1) := by decide +kernel
theorem dX3_done_63 : decode cX3_done 63 = .ok (.iadd, 1) := by decide +kernel
theorem dX3_done_64 : decode cX3_done 64 = .ok (.iastore, 1) := by decide +kernel
theorem dX3_done_65 : decode cX3_done 65 = .ok (.aload_n 0, 1) := by decide +kernel
theorem dX3_done_66 : decode cX3_done 66 = .ok (.iload_n 1, 1) := by decide +kernel
theorem dX3_done_67 : decode cX3_done 67 = .ok (.aload_n 0, 1) := by decide +kernel
theorem dX3_done_68 : decode cX3_done 68 = .ok (.iload_n 2, 1) := by decide +kernel
theorem dX3_done_69 : decode cX3_done 69 = .ok (.iconst 1, 1) := by decide +kernel
theorem dX3_done_70 : decode cX3_done 70 = .ok (.invokevirtual 108, 3) := by decide +kernel
theorem dX3_done_73 : decode cX3_done 73 = .ok (.invokevirtual 88, 3) := by decide +kernel
theorem dX3_done_76 : decode cX3_done 76 = .ok (.return_, 1) := by decide +kernel
set_option maxRecDepth 20000 in
theorem ggX3_minute_X3_isOffered : GoodIn wsX3_minute wsX3_isOffered := goodIn_r _ [10, 4, 5, 84, 85, 86, 87, 88, 89, 90, 91, 92, 93, 94, 95, 96, 97, 98, 99, 100, 101, 102] (by decide +kernel) (by decide +kernel)
set_option maxRecDepth 20000 in
theorem gX3_minute_X3_isOffered : GoodIn wsX3_minute (wsV RX3 133 RX3 yX3_isOffered wsX3_isOffered) := goodIn_app (goodIn_of _ (by decide +kernel)) ggX3_minute_X3_isOffered
set_option maxRecDepth 20000 in
theorem ggX3_minute_X3_refused : GoodIn wsX3_minute wsX3_refused := goodIn_r _ [14, 5, 15, 16, 17, 18, 9, 19, 20, 84, 85, 86, 87, 88, 89, 90, 91, 92, 93, 94, 95, 96, 97, 98, 99, 100, 101, 102] (by decide +kernel) (by decide +kernel)
set_option maxRecDepth 20000 in
theorem gX3_minute_X3_refused : GoodIn wsX3_minute (wsV RX3 102 RX3 yX3_refused wsX3_refused) := goodIn_app (goodIn_of _ (by decide +kernel)) ggX3_minute_X3_refused
set_option maxRecDepth 20000 in
theorem ggX3_minute_X3_queueUp : GoodIn wsX3_minute wsX3_queueUp := goodIn_r _ [24, 25, 26, 84, 85, 86, 87, 88, 89, 90, 91, 92, 93, 94, 95, 96, 97, 98, 99, 100, 101, 102] (by decide +kernel) (by decide +kernel)
set_option maxRecDepth 20000 in
theorem gX3_minute_X3_queueUp : GoodIn wsX3_minute (wsV RX3 81 RX3 yX3_queueUp wsX3_queueUp) := goodIn_app (goodIn_of _ (by decide +kernel)) ggX3_minute_X3_queueUp
set_option maxRecDepth 20000 in
theorem ggX3_minute_X3_get : GoodIn wsX3_minute wsX3_get := goodIn_r _ [30, 20, 84, 85, 86, 87, 88, 89, 90, 91, 92, 93, 94, 95, 96, 97, 98, 99, 100, 101, 102] (by decide +kernel) (by decide +kernel)
set_option maxRecDepth 20000 in
theorem gX3_minute_X3_get : GoodIn wsX3_minute (wsV RX3 108 RX3 yX3_get wsX3_get) := goodIn_app (goodIn_of _ (by decide +kernel)) ggX3_minute_X3_get
set_option maxRecDepth 20000 in
theorem ggX3_minute_X3_ride : GoodIn wsX3_minute wsX3_ride := goodIn_r _ [34, 5, 4, 35, 3, 1, 36, 37, 38, 39, 40, 41, 42, 27, 28, 29, 9, 30, 20, 43, 44, 45, 46, 47, 16, 17, 18, 19, 84, 85, 86, 87, 88, 89, 90, 91, 92, 93, 94, 95, 96, 97, 98, 99, 100, 101, 102] (by decide +kernel) (by decide +kernel)
set_option maxRecDepth 20000 in
theorem gX3_minute_X3_ride : GoodIn wsX3_minute (wsV RX3 155 RX3 yX3_ride wsX3_ride) := goodIn_app (goodIn_of _ (by decide +kernel)) ggX3_minute_X3_ride
set_option maxRecDepth 20000 in
theorem ggX3_minute_X3_done : GoodIn wsX3_minute wsX3_done := goodIn_r _ [51, 5, 1, 52, 53, 16, 17, 18, 9, 19, 20, 54, 55, 56, 57, 36, 27, 28, 29, 30, 58, 59, 60, 61, 4, 35, 21, 22, 23, 24, 25, 26, 84, 85, 86, 87, 88, 89, 90, 91, 92, 93, 94, 95, 96, 97, 98, 99, 100, 101, 102] (by decide +kernel) (by decide +kernel)
set_option maxRecDepth 20000 in
theorem gX3_minute_X3_done : GoodIn wsX3_minute (wsV RX3 158 RX3 yX3_done wsX3_done) := goodIn_app (goodIn_of _ (by decide +kernel)) ggX3_minute_X3_done
set_option maxRecDepth 20000 in
theorem ggX3_minute_X3_offerAll : GoodIn wsX3_minute wsX3_offerAll := goodIn_r _ [65, 66, 1, 5, 3, 67, 68, 69, 9, 70, 20, 27, 28, 29, 30, 71, 72, 73, 74, 2, 75, 76, 77, 78, 4, 79, 15, 80, 81, 82, 83, 35, 26, 43, 44, 45, 46, 47, 16, 17, 18, 19, 84, 85, 86, 87, 88, 89, 90, 91, 92, 93, 94, 95, 96, 97, 98, 99, 100, 101, 102] (by decide +kernel) (by decide +kernel)
set_option maxRecDepth 20000 in
theorem gX3_minute_X3_offerAll : GoodIn wsX3_minute (wsV RX3 95 RX3 yX3_offerAll wsX3_offerAll) := goodIn_app (goodIn_of _ (by decide +kernel)) ggX3_minute_X3_offerAll
theorem dX3_minute_0 : decode cX3_minute 0 = .ok (.aload_n 0, 1) := by decide +kernel
theorem dX3_minute_1 : decode cX3_minute 1 = .ok (.dup, 1) := by decide +kernel
theorem dX3_minute_2 : decode cX3_minute 2 = .ok (.getfield 121, 3) := by decide +kernel
theorem dX3_minute_5 : decode cX3_minute 5 = .ok (.iconst 1, 1) := by decide +kernel
theorem dX3_minute_6 : decode cX3_minute 6 = .ok (.iadd, 1) := by decide +kernel
theorem dX3_minute_7 : decode cX3_minute 7 = .ok (.putfield 121, 3) := by decide +kernel
theorem dX3_minute_10 : decode cX3_minute 10 = .ok (.iconst 0, 1) := by decide +kernel
theorem dX3_minute_11 : decode cX3_minute 11 = .ok (.istore_n 1, 1) := by decide +kernel
theorem dX3_minute_12 : decode cX3_minute 12 = .ok (.iload_n 1, 1) := by decide +kernel
theorem dX3_minute_13 : decode cX3_minute 13 = .ok (.aload_n 0, 1) := by decide +kernel
theorem dX3_minute_14 : decode cX3_minute 14 = .ok (.getfield 60, 3) := by decide +kernel
theorem dX3_minute_17 : decode cX3_minute 17 = .ok (.if_icmp .ge 45, 3) := by decide +kernel
theorem dX3_minute_20 : decode cX3_minute 20 = .ok (.aload_n 0, 1) := by decide +kernel
theorem dX3_minute_21 : decode cX3_minute 21 = .ok (.iload_n 1, 1) := by decide +kernel
theorem dX3_minute_22 : decode cX3_minute 22 = .ok (.invokevirtual 133, 3) := by decide +kernel
theorem dX3_minute_25 : decode cX3_minute 25 = .ok (.ifCond .eq 31, 3) := by decide +kernel
theorem dX3_minute_28 : decode cX3_minute 28 = .ok (.aload_n 0, 1) := by decide +kernel
theorem dX3_minute_29 : decode cX3_minute 29 = .ok (.getfield 121, 3) := by decide +kernel
theorem dX3_minute_32 : decode cX3_minute 32 = .ok (.aload_n 0, 1) := by decide +kernel
theorem dX3_minute_33 : decode cX3_minute 33 = .ok (.getfield 32, 3) := by decide +kernel
theorem dX3_minute_36 : decode cX3_minute 36 = .ok (.iload_n 1, 1) := by decide +kernel
theorem dX3_minute_37 : decode cX3_minute 37 = .ok (.iaload, 1) := by decide +kernel
theorem dX3_minute_38 : decode cX3_minute 38 = .ok (.isub, 1) := by decide +kernel
theorem dX3_minute_39 : decode cX3_minute 39 = .ok (.iconst 2, 1) := by decide +kernel
theorem dX3_minute_40 : decode cX3_minute 40 = .ok (.if_icmp .ge 6, 3) := by decide +kernel
theorem dX3_minute_43 : decode cX3_minute 43 = .ok (.goto 13, 3) := by decide +kernel
theorem dX3_minute_46 : decode cX3_minute 46 = .ok (.aload_n 0, 1) := by decide +kernel
theorem dX3_minute_47 : decode cX3_minute 47 = .ok (.iload_n 1, 1) := by decide +kernel
theorem dX3_minute_48 : decode cX3_minute 48 = .ok (.invokevirtual 102, 3) := by decide +kernel
theorem dX3_minute_51 : decode cX3_minute 51 = .ok (.aload_n 0, 1) := by decide +kernel
theorem dX3_minute_52 : decode cX3_minute 52 = .ok (.iload_n 1, 1) := by decide +kernel
theorem dX3_minute_53 : decode cX3_minute 53 = .ok (.invokevirtual 81, 3) := by decide +kernel
theorem dX3_minute_56 : decode cX3_minute 56 = .ok (.iinc 1 1, 3) := by decide +kernel
theorem dX3_minute_59 : decode cX3_minute 59 = .ok (.goto (-47), 3) := by decide +kernel
theorem dX3_minute_62 : decode cX3_minute 62 = .ok (.iconst 0, 1) := by decide +kernel
theorem dX3_minute_63 : decode cX3_minute 63 = .ok (.istore_n 1, 1) := by decide +kernel
theorem dX3_minute_64 : decode cX3_minute 64 = .ok (.iconst 0, 1) := by decide +kernel
theorem dX3_minute_65 : decode cX3_minute 65 = .ok (.istore_n 2, 1) := by decide +kernel
theorem dX3_minute_66 : decode cX3_minute 66 = .ok (.iload_n 2, 1) := by decide +kernel
theorem dX3_minute_67 : decode cX3_minute 67 = .ok (.aload_n 0, 1) := by decide +kernel
theorem dX3_minute_68 : decode cX3_minute 68 = .ok (.getfield 60, 3) := by decide +kernel
theorem dX3_minute_71 : decode cX3_minute 71 = .ok (.if_icmp .ge 89, 3) := by decide +kernel
theorem dX3_minute_74 : decode cX3_minute 74 = .ok (.aload_n 0, 1) := by decide +kernel
theorem dX3_minute_75 : decode cX3_minute 75 = .ok (.getfield 26, 3) := by decide +kernel
theorem dX3_minute_78 : decode cX3_minute 78 = .ok (.iload_n 2, 1) := by decide +kernel
theorem dX3_minute_79 : decode cX3_minute 79 = .ok (.iaload, 1) := by decide +kernel
theorem dX3_minute_80 : decode cX3_minute 80 = .ok (.iconst 2, 1) := by decide +kernel
theorem dX3_minute_81 : decode cX3_minute 81 = .ok (.if_icmp .ne 42, 3) := by decide +kernel
theorem dX3_minute_84 : decode cX3_minute 84 = .ok (.aload_n 0, 1) := by decide +kernel
theorem dX3_minute_85 : decode cX3_minute 85 = .ok (.getfield 121, 3) := by decide +kernel
theorem dX3_minute_88 : decode cX3_minute 88 = .ok (.aload_n 0, 1) := by decide +kernel
theorem dX3_minute_89 : decode cX3_minute 89 = .ok (.getfield 32, 3) := by decide +kernel
theorem dX3_minute_92 : decode cX3_minute 92 = .ok (.iload_n 2, 1) := by decide +kernel
theorem dX3_minute_93 : decode cX3_minute 93 = .ok (.iaload, 1) := by decide +kernel
theorem dX3_minute_94 : decode cX3_minute 94 = .ok (.if_icmp .lt 29, 3) := by decide +kernel
theorem dX3_minute_97 : decode cX3_minute 97 = .ok (.aload_n 0, 1) := by decide +kernel
theorem dX3_minute_98 : decode cX3_minute 98 = .ok (.getfield 121, 3) := by decide +kernel
theorem dX3_minute_101 : decode cX3_minute 101 = .ok (.aload_n 0, 1) := by decide +kernel
theorem dX3_minute_102 : decode cX3_minute 102 = .ok (.aload_n 0, 1) := by decide +kernel
theorem dX3_minute_103 : decode cX3_minute 103 = .ok (.getfield 29, 3) := by decide +kernel
theorem dX3_minute_106 : decode cX3_minute 106 = .ok (.iload_n 2, 1) := by decide +kernel
theorem dX3_minute_107 : decode cX3_minute 107 = .ok (.iaload, 1) := by decide +kernel
theorem dX3_minute_108 : decode cX3_minute 108 = .ok (.iconst 3, 1) := by decide +kernel
theorem dX3_minute_109 : decode cX3_minute 109 = .ok (.invokevirtual 108, 3) := by decide +kernel
theorem dX3_minute_112 : decode cX3_minute 112 = .ok (.if_icmp .lt 11, 3) := by decide +kernel
theorem dX3_minute_115 : decode cX3_minute 115 = .ok (.aload_n 0, 1) := by decide +kernel
theorem dX3_minute_116 : decode cX3_minute 116 = .ok (.iload_n 2, 1) := by decide +kernel
theorem dX3_minute_117 : decode cX3_minute 117 = .ok (.invokevirtual 155, 3) := by decide +kernel
theorem dX3_minute_120 : decode cX3_minute 120 = .ok (.goto 34, 3) := by decide +kernel
theorem dX3_minute_123 : decode cX3_minute 123 = .ok (.aload_n 0, 1) := by decide +kernel
theorem dX3_minute_124 : decode cX3_minute 124 = .ok (.getfield 26, 3) := by decide +kernel
theorem dX3_minute_127 : decode cX3_minute 127 = .ok (.iload_n 2, 1) := by decide +kernel
theorem dX3_minute_128 : decode cX3_minute 128 = .ok (.iaload, 1) := by decide +kernel
theorem dX3_minute_129 : decode cX3_minute 129 = .ok (.iconst 3, 1) := by decide +kernel
theorem dX3_minute_130 : decode cX3_minute 130 = .ok (.if_icmp .ne 24, 3) := by decide +kernel
theorem dX3_minute_133 : decode cX3_minute 133 = .ok (.aload_n 0, 1) := by decide +kernel
theorem dX3_minute_134 : decode cX3_minute 134 = .ok (.getfield 121, 3) := by decide +kernel
theorem dX3_minute_137 : decode cX3_minute 137 = .ok (.aload_n 0, 1) := by decide +kernel
theorem dX3_minute_138 : decode cX3_minute 138 = .ok (.getfield 32, 3) := by decide +kernel
theorem dX3_minute_141 : decode cX3_minute 141 = .ok (.iload_n 2, 1) := by decide +kernel
theorem dX3_minute_142 : decode cX3_minute 142 = .ok (.iaload, 1) := by decide +kernel
theorem dX3_minute_143 : decode cX3_minute 143 = .ok (.if_icmp .lt 11, 3) := by decide +kernel
theorem dX3_minute_146 : decode cX3_minute 146 = .ok (.aload_n 0, 1) := by decide +kernel
theorem dX3_minute_147 : decode cX3_minute 147 = .ok (.iload_n 2, 1) := by decide +kernel
theorem dX3_minute_148 : decode cX3_minute 148 = .ok (.invokevirtual 158, 3) := by decide +kernel
theorem dX3_minute_151 : decode cX3_minute 151 = .ok (.iinc 1 1, 3) := by decide +kernel
theorem dX3_minute_154 : decode cX3_minute 154 = .ok (.iinc 2 1, 3) := by decide +kernel
theorem dX3_minute_157 : decode cX3_minute 157 = .ok (.goto (-91), 3) := by decide +kernel
theorem dX3_minute_160 : decode cX3_minute 160 = .ok (.aload_n 0, 1) := by decide +kernel
theorem dX3_minute_161 : decode cX3_minute 161 = .ok (.invokevirtual 95, 3) := by decide +kernel
theorem dX3_minute_164 : decode cX3_minute 164 = .ok (.iload_n 1, 1) := by decide +kernel
theorem dX3_minute_165 : decode cX3_minute 165 = .ok (.ireturn, 1) := by decide +kernel
set_option maxRecDepth 20000 in
theorem ggX3_tick_X3_isIn : GoodIn wsX3_tick wsX3_isIn := goodIn_r _ [6] (by decide +kernel) (by decide +kernel)
set_option maxRecDepth 20000 in
theorem gX3_tick_X3_isIn : GoodIn wsX3_tick (va_wsS RX3 56 yX3_isIn wsX3_isIn) := goodIn_app (goodIn_of _ (by decide +kernel)) ggX3_tick_X3_isIn
set_option maxRecDepth 20000 in
theorem ggX3_tick_X3_fail : GoodIn wsX3_tick wsX3_fail := goodIn_r _ [10, 1, 96, 97, 98, 99, 100, 101, 102, 103, 104, 105, 106, 107, 108, 109, 110, 111, 112, 113, 114] (by decide +kernel) (by decide +kernel)
set_option maxRecDepth 20000 in
theorem gX3_tick_X3_fail : GoodIn wsX3_tick (wsV RX3 70 RX3 yX3_fail wsX3_fail) := goodIn_app (goodIn_of _ (by decide +kernel)) ggX3_tick_X3_fail
set_option maxRecDepth 20000 in
theorem ggX3_tick_X3_minute : GoodIn wsX3_tick wsX3_minute := goodIn_r _ [14, 2, 15, 16, 17, 18, 19, 20, 21, 5, 22, 23, 24, 25, 26, 27, 28, 29, 30, 31, 32, 33, 34, 35, 36, 37, 38, 39, 40, 41, 42, 43, 44, 45, 46, 47, 48, 49, 50, 51, 52, 53, 54, 55, 56, 57, 58, 59, 60, 61, 62, 63, 64, 65, 66, 67, 68, 69, 70, 71, 72, 73, 74, 75, 76, 77, 78, 79, 80, 81, 82, 83, 84, 85, 86, 87, 88, 89, 90, 91, 92, 93, 94, 95, 96, 97, 98, 99, 100, 101, 102, 103, 104, 105, 106, 107, 108, 109, 110, 111, 112, 113, 114] (by decide +kernel) (by decide +kernel)
set_option maxRecDepth 20000 in
theorem gX3_tick_X3_minute : GoodIn wsX3_tick (wsV RX3 161 RX3 yX3_minute wsX3_minute) := goodIn_app (goodIn_of _ (by decide +kernel)) ggX3_tick_X3_minute
theorem dX3_tick_0 : decode cX3_tick 0 = .ok (.aload_n 0, 1) := by decide +kernel
theorem dX3_tick_1 : decode cX3_tick 1 = .ok (.iconst 0, 1) := by decide +kernel
theorem dX3_tick_2 : decode cX3_tick 2 = .ok (.putfield 53, 3) := by decide +kernel
theorem dX3_tick_5 : decode cX3_tick 5 = .ok (.iload_n 1, 1) := by decide +kernel
theorem dX3_tick_6 : decode cX3_tick 6 = .ok (.iconst 1, 1) := by decide +kernel
theorem dX3_tick_7 : decode cX3_tick 7 = .ok (.sipush 300, 3) := by decide +kernel
theorem dX3_tick_10 : decode cX3_tick 10 = .ok (.invokestatic 56, 3) := by decide +kernel
theorem dX3_tick_13 : decode cX3_tick 13 = .ok (.ifCond .eq 15, 3) := by decide +kernel
theorem dX3_tick_16 : decode cX3_tick 16 = .ok (.aload_n 0, 1) := by decide +kernel
theorem dX3_tick_17 : decode cX3_tick 17 = .ok (.getfield 121, 3) := by decide +kernel
theorem dX3_tick_20 : decode cX3_tick 20 = .ok (.iload_n 1, 1) := by decide +kernel
theorem dX3_tick_21 : decode cX3_tick 21 = .ok (.iadd, 1) := by decide +kernel
theorem dX3_tick_22 : decode cX3_tick 22 = .ok (.sipush 9999, 3) := by decide +kernel
theorem dX3_tick_25 : decode cX3_tick 25 = .ok (.if_icmp .le 9, 3) := by decide +kernel
theorem dX3_tick_28 : decode cX3_tick 28 = .ok (.aload_n 0, 1) := by decide +kernel
theorem dX3_tick_29 : decode cX3_tick 29 = .ok (.iconst 1, 1) := by decide +kernel
theorem dX3_tick_30 : decode cX3_tick 30 = .ok (.invokevirtual 70, 3) := by decide +kernel
theorem dX3_tick_33 : decode cX3_tick 33 = .ok (.ireturn, 1) := by decide +kernel
theorem dX3_tick_34 : decode cX3_tick 34 = .ok (.iconst 0, 1) := by decide +kernel
theorem dX3_tick_35 : decode cX3_tick 35 = .ok (.istore_n 2, 1) := by decide +kernel
theorem dX3_tick_36 : decode cX3_tick 36 = .ok (.iconst 0, 1) := by decide +kernel
theorem dX3_tick_37 : decode cX3_tick 37 = .ok (.istore_n 3, 1) := by decide +kernel
theorem dX3_tick_38 : decode cX3_tick 38 = .ok (.iload_n 3, 1) := by decide +kernel
theorem dX3_tick_39 : decode cX3_tick 39 = .ok (.iload_n 1, 1) := by decide +kernel
theorem dX3_tick_40 : decode cX3_tick 40 = .ok (.if_icmp .ge 16, 3) := by decide +kernel
theorem dX3_tick_43 : decode cX3_tick 43 = .ok (.iload_n 2, 1) := by decide +kernel
theorem dX3_tick_44 : decode cX3_tick 44 = .ok (.aload_n 0, 1) := by decide +kernel
theorem dX3_tick_45 : decode cX3_tick 45 = .ok (.invokevirtual 161, 3) := by decide +kernel
theorem dX3_tick_48 : decode cX3_tick 48 = .ok (.iadd, 1) := by decide +kernel
theorem dX3_tick_49 : decode cX3_tick 49 = .ok (.istore_n 2, 1) := by decide +kernel
theorem dX3_tick_50 : decode cX3_tick 50 = .ok (.iinc 3 1, 3) := by decide +kernel
theorem dX3_tick_53 : decode cX3_tick 53 = .ok (.goto (-15), 3) := by decide +kernel
theorem dX3_tick_56 : decode cX3_tick 56 = .ok (.iload_n 2, 1) := by decide +kernel
theorem dX3_tick_57 : decode cX3_tick 57 = .ok (.ireturn, 1) := by decide +kernel
theorem dX3_now_0 : decode cX3_now 0 = .ok (.aload_n 0, 1) := by decide +kernel
theorem dX3_now_1 : decode cX3_now 1 = .ok (.iconst 0, 1) := by decide +kernel
theorem dX3_now_2 : decode cX3_now 2 = .ok (.putfield 53, 3) := by decide +kernel
theorem dX3_now_5 : decode cX3_now 5 = .ok (.aload_n 0, 1) := by decide +kernel
theorem dX3_now_6 : decode cX3_now 6 = .ok (.getfield 121, 3) := by decide +kernel
theorem dX3_now_9 : decode cX3_now 9 = .ok (.ireturn, 1) := by decide +kernel
set_option maxRecDepth 20000 in
theorem ggX3_queued_X3_placeOf : GoodIn wsX3_queued wsX3_placeOf := goodIn_r _ [7, 8, 1, 2, 9, 10, 11, 12, 13, 14, 15, 16, 17, 18, 19, 20, 21, 22, 23, 24, 25, 26, 27, 28] (by decide +kernel) (by decide +kernel)
set_option maxRecDepth 20000 in
theorem gX3_queued_X3_placeOf : GoodIn wsX3_queued (wsV RX3 92 RX3 yX3_placeOf wsX3_placeOf) := goodIn_app (goodIn_of _ (by decide +kernel)) ggX3_queued_X3_placeOf
theorem dX3_queued_0 : decode cX3_queued 0 = .ok (.iconst 0, 1) := by decide +kernel
theorem dX3_queued_1 : decode cX3_queued 1 = .ok (.istore_n 3, 1) := by decide +kernel
theorem dX3_queued_2 : decode cX3_queued 2 = .ok (.iload_n 3, 1) := by decide +kernel
theorem dX3_queued_3 : decode cX3_queued 3 = .ok (.aload_n 0, 1) := by decide +kernel
theorem dX3_queued_4 : decode cX3_queued 4 = .ok (.getfield 60, 3) := by decide +kernel
theorem dX3_queued_7 : decode cX3_queued 7 = .ok (.if_icmp .ge 30, 3) := by decide +kernel
theorem dX3_queued_10 : decode cX3_queued 10 = .ok (.aload_n 0, 1) := by decide +kernel
theorem dX3_queued_11 : decode cX3_queued 11 = .ok (.getfield 23, 3) := by decide +kernel
theorem dX3_queued_14 : decode cX3_queued 14 = .ok (.iload_n 3, 1) := by decide +kernel
theorem dX3_queued_15 : decode cX3_queued 15 = .ok (.iaload, 1) := by decide +kernel
theorem dX3_queued_16 : decode cX3_queued 16 = .ok (.iload_n 1, 1) := by decide +kernel
theorem dX3_queued_17 : decode cX3_queued 17 = .ok (.if_icmp .ne 14, 3) := by decide +kernel
theorem dX3_queued_20 : decode cX3_queued 20 = .ok (.aload_n 0, 1) := by decide +kernel
theorem dX3_queued_21 : decode cX3_queued 21 = .ok (.iload_n 3, 1) := by decide +kernel
theorem dX3_queued_22 : decode cX3_queued 22 = .ok (.invokevirtual 92, 3) := by decide +kernel
theorem dX3_queued_25 : decode cX3_queued 25 = .ok (.iload_n 2, 1) := by decide +kernel
theorem dX3_queued_26 : decode cX3_queued 26 = .ok (.if_icmp .ne 5, 3) := by decide +kernel
theorem dX3_queued_29 : decode cX3_queued 29 = .ok (.iload_n 3, 1) := by decide +kernel
theorem dX3_queued_30 : decode cX3_queued 30 = .ok (.ireturn, 1) := by decide +kernel
theorem dX3_queued_31 : decode cX3_queued 31 = .ok (.iinc 3 1, 3) := by decide +kernel
theorem dX3_queued_34 : decode cX3_queued 34 = .ok (.goto (-32), 3) := by decide +kernel
theorem dX3_queued_37 : decode cX3_queued 37 = .ok (.iconst (-1), 1) := by decide +kernel
theorem dX3_queued_38 : decode cX3_queued 38 = .ok (.ireturn, 1) := by decide +kernel
set_option maxRecDepth 20000 in
theorem ggX3_queue_X3_isZone : GoodIn wsX3_queue wsX3_isZone := goodIn_r _ [5, 6, 7, 4, 8] (by decide +kernel) (by decide +kernel)
set_option maxRecDepth 20000 in
theorem gX3_queue_X3_isZone : GoodIn wsX3_queue (va_wsS RX3 66 yX3_isZone wsX3_isZone) := goodIn_app (goodIn_of _ (by decide +kernel)) ggX3_queue_X3_isZone
set_option maxRecDepth 20000 in
theorem ggX3_queue_X3_queued : GoodIn wsX3_queue wsX3_queued := goodIn_r _ [12, 13, 14, 15, 16, 17, 4, 18, 19, 20, 25, 26, 27, 28, 29, 30, 31, 32, 33, 34, 35, 36, 37, 38, 39, 40, 41, 42, 43] (by decide +kernel) (by decide +kernel)
set_option maxRecDepth 20000 in
theorem gX3_queue_X3_queued : GoodIn wsX3_queue (wsV RX3 165 RX3 yX3_queued wsX3_queued) := goodIn_app (goodIn_of _ (by decide +kernel)) ggX3_queue_X3_queued
set_option maxRecDepth 20000 in
theorem ggX3_queue_X3_fail : GoodIn wsX3_queue wsX3_fail := goodIn_r _ [24, 1, 25, 26, 27, 28, 29, 30, 31, 32, 33, 34, 35, 36, 37, 38, 39, 40, 41, 42, 43] (by decide +kernel) (by decide +kernel)
set_option maxRecDepth 20000 in
theorem gX3_queue_X3_fail : GoodIn wsX3_queue (wsV RX3 70 RX3 yX3_fail wsX3_fail) := goodIn_app (goodIn_of _ (by decide +kernel)) ggX3_queue_X3_fail
theorem dX3_queue_0 : decode cX3_queue 0 = .ok (.aload_n 0, 1) := by decide +kernel
theorem dX3_queue_1 : decode cX3_queue 1 = .ok (.iconst 0, 1) := by decide +kernel
theorem dX3_queue_2 : decode cX3_queue 2 = .ok (.putfield 53, 3) := by decide +kernel
theorem dX3_queue_5 : decode cX3_queue 5 = .ok (.iload_n 1, 1) := by decide +kernel
theorem dX3_queue_6 : decode cX3_queue 6 = .ok (.invokestatic 66, 3) := by decide +kernel
theorem dX3_queue_9 : decode cX3_queue 9 = .ok (.ifCond .eq 16, 3) := by decide +kernel
theorem dX3_queue_12 : decode cX3_queue 12 = .ok (.iload_n 2, 1) := by decide +kernel
theorem dX3_queue_13 : decode cX3_queue 13 = .ok (.ifCond .lt 12, 3) := by decide +kernel
theorem dX3_queue_16 : decode cX3_queue 16 = .ok (.aload_n 0, 1) := by decide +kernel
theorem dX3_queue_17 : decode cX3_queue 17 = .ok (.iload_n 1, 1) := by decide +kernel
theorem dX3_queue_18 : decode cX3_queue 18 = .ok (.iload_n 2, 1) := by decide +kernel
theorem dX3_queue_19 : decode cX3_queue 19 = .ok (.invokevirtual 165, 3) := by decide +kernel
theorem dX3_queue_22 : decode cX3_queue 22 = .ok (.goto 8, 3) := by decide +kernel
theorem dX3_queue_25 : decode cX3_queue 25 = .ok (.aload_n 0, 1) := by decide +kernel
theorem dX3_queue_26 : decode cX3_queue 26 = .ok (.iconst 1, 1) := by decide +kernel
theorem dX3_queue_27 : decode cX3_queue 27 = .ok (.invokevirtual 70, 3) := by decide +kernel
theorem dX3_queue_30 : decode cX3_queue 30 = .ok (.ireturn, 1) := by decide +kernel
set_option maxRecDepth 20000 in
theorem ggX3_count_X3_isIn : GoodIn wsX3_count wsX3_isIn := goodIn_r _ [7] (by decide +kernel) (by decide +kernel)
set_option maxRecDepth 20000 in
theorem gX3_count_X3_isIn : GoodIn wsX3_count (va_wsS RX3 56 yX3_isIn wsX3_isIn) := goodIn_app (goodIn_of _ (by decide +kernel)) ggX3_count_X3_isIn
set_option maxRecDepth 20000 in
theorem ggX3_count_X3_fail : GoodIn wsX3_count wsX3_fail := goodIn_r _ [11, 1, 17, 18, 19, 20, 21, 22, 23, 24, 25, 26, 27, 28, 29, 30, 31, 32, 33, 34, 35] (by decide +kernel) (by decide +kernel)
set_option maxRecDepth 20000 in
theorem gX3_count_X3_fail : GoodIn wsX3_count (wsV RX3 70 RX3 yX3_fail wsX3_fail) := goodIn_app (goodIn_of _ (by decide +kernel)) ggX3_count_X3_fail
set_option maxRecDepth 20000 in
theorem ggX3_count_X3_state : GoodIn wsX3_count wsX3_state := goodIn_r _ [15, 16, 17, 18, 19, 20, 21, 22, 23, 24, 25, 26, 27, 28, 29, 30, 31, 32, 33, 34, 35] (by decide +kernel) (by decide +kernel)
set_option maxRecDepth 20000 in
theorem gX3_count_X3_state : GoodIn wsX3_count (wsV RX3 118 RX3 yX3_state wsX3_state) := goodIn_app (goodIn_of _ (by decide +kernel)) ggX3_count_X3_state
theorem dX3_count_0 : decode cX3_count 0 = .ok (.aload_n 0, 1) := by decide +kernel
theorem dX3_count_1 : decode cX3_count 1 = .ok (.iconst 0, 1) := by decide +kernel
theorem dX3_count_2 : decode cX3_count 2 = .ok (.putfield 53, 3) := by decide +kernel
theorem dX3_count_5 : decode cX3_count 5 = .ok (.iload_n 1, 1) := by decide +kernel
theorem dX3_count_6 : decode cX3_count 6 = .ok (.iconst 0, 1) := by decide +kernel
theorem dX3_count_7 : decode cX3_count 7 = .ok (.bipush 7, 2) := by decide +kernel
theorem dX3_count_9 : decode cX3_count 9 = .ok (.invokestatic 56, 3) := by decide +kernel
theorem dX3_count_12 : decode cX3_count 12 = .ok (.ifCond .ne 9, 3) := by decide +kernel
theorem dX3_count_15 : decode cX3_count 15 = .ok (.aload_n 0, 1) := by decide +kernel
theorem dX3_count_16 : decode cX3_count 16 = .ok (.iconst 1, 1) := by decide +kernel
theorem dX3_count_17 : decode cX3_count 17 = .ok (.invokevirtual 70, 3) := by decide +kernel
theorem dX3_count_20 : decode cX3_count 20 = .ok (.ireturn, 1) := by decide +kernel
theorem dX3_count_21 : decode cX3_count 21 = .ok (.iload_n 1, 1) := by decide +kernel
theorem dX3_count_22 : decode cX3_count 22 = .ok (.iconst 2, 1) := by decide +kernel
theorem dX3_count_23 : decode cX3_count 23 = .ok (.if_icmp .ge 19, 3) := by decide +kernel
theorem dX3_count_26 : decode cX3_count 26 = .ok (.iload_n 1, 1) := by decide +kernel
theorem dX3_count_27 : decode cX3_count 27 = .ok (.ifCond .ne 10, 3) := by decide +kernel
theorem dX3_count_30 : decode cX3_count 30 = .ok (.aload_n 0, 1) := by decide +kernel
theorem dX3_count_31 : decode cX3_count 31 = .ok (.getfield 60, 3) := by decide +kernel
theorem dX3_count_34 : decode cX3_count 34 = .ok (.goto 7, 3) := by decide +kernel
theorem dX3_count_37 : decode cX3_count 37 = .ok (.aload_n 0, 1) := by decide +kernel
theorem dX3_count_38 : decode cX3_count 38 = .ok (.getfield 63, 3) := by decide +kernel
theorem dX3_count_41 : decode cX3_count 41 = .ok (.ireturn, 1) := by decide +kernel
theorem dX3_count_42 : decode cX3_count 42 = .ok (.iconst 0, 1) := by decide +kernel
theorem dX3_count_43 : decode cX3_count 43 = .ok (.istore_n 2, 1) := by decide +kernel
theorem dX3_count_44 : decode cX3_count 44 = .ok (.iconst 0, 1) := by decide +kernel
theorem dX3_count_45 : decode cX3_count 45 = .ok (.istore_n 3, 1) := by decide +kernel
theorem dX3_count_46 : decode cX3_count 46 = .ok (.iload_n 3, 1) := by decide +kernel
theorem dX3_count_47 : decode cX3_count 47 = .ok (.aload_n 0, 1) := by decide +kernel
theorem dX3_count_48 : decode cX3_count 48 = .ok (.getfield 63, 3) := by decide +kernel
theorem dX3_count_51 : decode cX3_count 51 = .ok (.if_icmp .ge 28, 3) := by decide +kernel
theorem dX3_count_54 : decode cX3_count 54 = .ok (.iload_n 2, 1) := by decide +kernel
theorem dX3_count_55 : decode cX3_count 55 = .ok (.aload_n 0, 1) := by decide +kernel
theorem dX3_count_56 : decode cX3_count 56 = .ok (.iload_n 3, 1) := by decide +kernel
theorem dX3_count_57 : decode cX3_count 57 = .ok (.invokevirtual 118, 3) := by decide +kernel
theorem dX3_count_60 : decode cX3_count 60 = .ok (.iload_n 1, 1) := by decide +kernel
theorem dX3_count_61 : decode cX3_count 61 = .ok (.iconst 2, 1) := by decide +kernel
theorem dX3_count_62 : decode cX3_count 62 = .ok (.isub, 1) := by decide +kernel
theorem dX3_count_63 : decode cX3_count 63 = .ok (.if_icmp .ne 7, 3) := by decide +kernel
theorem dX3_count_66 : decode cX3_count 66 = .ok (.iconst 1, 1) := by decide +kernel
theorem dX3_count_67 : decode cX3_count 67 = .ok (.goto 4, 3) := by decide +kernel
theorem dX3_count_70 : decode cX3_count 70 = .ok (.iconst 0, 1) := by decide +kernel
theorem dX3_count_71 : decode cX3_count 71 = .ok (.iadd, 1) := by decide +kernel
theorem dX3_count_72 : decode cX3_count 72 = .ok (.istore_n 2, 1) := by decide +kernel
theorem dX3_count_73 : decode cX3_count 73 = .ok (.iinc 3 1, 3) := by decide +kernel
theorem dX3_count_76 : decode cX3_count 76 = .ok (.goto (-30), 3) := by decide +kernel
theorem dX3_count_79 : decode cX3_count 79 = .ok (.iload_n 2, 1) := by decide +kernel
theorem dX3_count_80 : decode cX3_count 80 = .ok (.ireturn, 1) := by decide +kernel
set_option maxRecDepth 20000 in
theorem ggX3_money_X3_isCab : GoodIn wsX3_money wsX3_isCab := goodIn_r _ [8, 9, 10, 11, 7, 12, 17, 18, 19, 20, 21, 22, 23, 24, 25, 26, 27, 28, 29, 30, 31, 32, 33, 34, 35] (by decide +kernel) (by decide +kernel)
set_option maxRecDepth 20000 in
theorem gX3_money_X3_isCab : GoodIn wsX3_money (wsV RX3 85 RX3 yX3_isCab wsX3_isCab) := goodIn_app (goodIn_of _ (by decide +kernel)) ggX3_money_X3_isCab
set_option maxRecDepth 20000 in
theorem ggX3_money_X3_fail : GoodIn wsX3_money wsX3_fail := goodIn_r _ [16, 1, 17, 18, 19, 20, 21, 22, 23, 24, 25, 26, 27, 28, 29, 30, 31, 32, 33, 34, 35] (by decide +kernel) (by decide +kernel)
set_option maxRecDepth 20000 in
theorem gX3_money_X3_fail : GoodIn wsX3_money (wsV RX3 70 RX3 yX3_fail wsX3_fail) := goodIn_app (goodIn_of _ (by decide +kernel)) ggX3_money_X3_fail
theorem dX3_money_0 : decode cX3_money 0 = .ok (.aload_n 0, 1) := by decide +kernel
theorem dX3_money_1 : decode cX3_money 1 = .ok (.iconst 0, 1) := by decide +kernel
theorem dX3_money_2 : decode cX3_money 2 = .ok (.putfield 53, 3) := by decide +kernel
theorem dX3_money_5 : decode cX3_money 5 = .ok (.aload_n 0, 1) := by decide +kernel
theorem dX3_money_6 : decode cX3_money 6 = .ok (.iload_n 1, 1) := by decide +kernel
theorem dX3_money_7 : decode cX3_money 7 = .ok (.invokevirtual 85, 3) := by decide +kernel
theorem dX3_money_10 : decode cX3_money 10 = .ok (.ifCond .ne 9, 3) := by decide +kernel
theorem dX3_money_13 : decode cX3_money 13 = .ok (.aload_n 0, 1) := by decide +kernel
theorem dX3_money_14 : decode cX3_money 14 = .ok (.iconst 1, 1) := by decide +kernel
theorem dX3_money_15 : decode cX3_money 15 = .ok (.invokevirtual 70, 3) := by decide +kernel
theorem dX3_money_18 : decode cX3_money 18 = .ok (.ireturn, 1) := by decide +kernel
theorem dX3_money_19 : decode cX3_money 19 = .ok (.iload_n 2, 1) := by decide +kernel
theorem dX3_money_20 : decode cX3_money 20 = .ok (.ifCond .eq 12, 3) := by decide +kernel
theorem dX3_money_23 : decode cX3_money 23 = .ok (.aload_n 0, 1) := by decide +kernel
theorem dX3_money_24 : decode cX3_money 24 = .ok (.getfield 41, 3) := by decide +kernel
theorem dX3_money_27 : decode cX3_money 27 = .ok (.iload_n 1, 1) := by decide +kernel
theorem dX3_money_28 : decode cX3_money 28 = .ok (.iaload, 1) := by decide +kernel
theorem dX3_money_29 : decode cX3_money 29 = .ok (.goto 9, 3) := by decide +kernel
theorem dX3_money_32 : decode cX3_money 32 = .ok (.aload_n 0, 1) := by decide +kernel
theorem dX3_money_33 : decode cX3_money 33 = .ok (.getfield 38, 3) := by decide +kernel
theorem dX3_money_36 : decode cX3_money 36 = .ok (.iload_n 1, 1) := by decide +kernel
theorem dX3_money_37 : decode cX3_money 37 = .ok (.iaload, 1) := by decide +kernel
theorem dX3_money_38 : decode cX3_money 38 = .ok (.ireturn, 1) := by decide +kernel
set_option maxRecDepth 20000 in
theorem ggX3_settle_X3_isCab : GoodIn wsX3_settle wsX3_isCab := goodIn_r _ [7, 8, 9, 10, 6, 11, 16, 17, 18, 19, 20, 21, 22, 23, 24, 25, 26, 27, 28, 29, 30, 31, 32, 33, 34] (by decide +kernel) (by decide +kernel)
set_option maxRecDepth 20000 in
theorem gX3_settle_X3_isCab : GoodIn wsX3_settle (wsV RX3 85 RX3 yX3_isCab wsX3_isCab) := goodIn_app (goodIn_of _ (by decide +kernel)) ggX3_settle_X3_isCab
set_option maxRecDepth 20000 in
theorem ggX3_settle_X3_fail : GoodIn wsX3_settle wsX3_fail := goodIn_r _ [15, 1, 16, 17, 18, 19, 20, 21, 22, 23, 24, 25, 26, 27, 28, 29, 30, 31, 32, 33, 34] (by decide +kernel) (by decide +kernel)
set_option maxRecDepth 20000 in
theorem gX3_settle_X3_fail : GoodIn wsX3_settle (wsV RX3 70 RX3 yX3_fail wsX3_fail) := goodIn_app (goodIn_of _ (by decide +kernel)) ggX3_settle_X3_fail
theorem dX3_settle_0 : decode cX3_settle 0 = .ok (.aload_n 0, 1) := by decide +kernel
theorem dX3_settle_1 : decode cX3_settle 1 = .ok (.iconst 0, 1) := by decide +kernel
theorem dX3_settle_2 : decode cX3_settle 2 = .ok (.putfield 53, 3) := by decide +kernel
theorem dX3_settle_5 : decode cX3_settle 5 = .ok (.aload_n 0, 1) := by decide +kernel
theorem dX3_settle_6 : decode cX3_settle 6 = .ok (.iload_n 1, 1) := by decide +kernel
theorem dX3_settle_7 : decode cX3_settle 7 = .ok (.invokevirtual 85, 3) := by decide +kernel
theorem dX3_settle_10 : decode cX3_settle 10 = .ok (.ifCond .ne 9, 3) := by decide +kernel
theorem dX3_settle_13 : decode cX3_settle 13 = .ok (.aload_n 0, 1) := by decide +kernel
theorem dX3_settle_14 : decode cX3_settle 14 = .ok (.iconst 1, 1) := by decide +kernel
theorem dX3_settle_15 : decode cX3_settle 15 = .ok (.invokevirtual 70, 3) := by decide +kernel
theorem dX3_settle_18 : decode cX3_settle 18 = .ok (.ireturn, 1) := by decide +kernel
theorem dX3_settle_19 : decode cX3_settle 19 = .ok (.aload_n 0, 1) := by decide +kernel
theorem dX3_settle_20 : decode cX3_settle 20 = .ok (.getfield 41, 3) := by decide +kernel
theorem dX3_settle_23 : decode cX3_settle 23 = .ok (.iload_n 1, 1) := by decide +kernel
theorem dX3_settle_24 : decode cX3_settle 24 = .ok (.iaload, 1) := by decide +kernel
theorem dX3_settle_25 : decode cX3_settle 25 = .ok (.istore_n 2, 1) := by decide +kernel
theorem dX3_settle_26 : decode cX3_settle 26 = .ok (.aload_n 0, 1) := by decide +kernel
theorem dX3_settle_27 : decode cX3_settle 27 = .ok (.getfield 41, 3) := by decide +kernel
theorem dX3_settle_30 : decode cX3_settle 30 = .ok (.iload_n 1, 1) := by decide +kernel
theorem dX3_settle_31 : decode cX3_settle 31 = .ok (.iconst 0, 1) := by decide +kernel
theorem dX3_settle_32 : decode cX3_settle 32 = .ok (.iastore, 1) := by decide +kernel
theorem dX3_settle_33 : decode cX3_settle 33 = .ok (.iload_n 2, 1) := by decide +kernel
theorem dX3_settle_34 : decode cX3_settle 34 = .ok (.ireturn, 1) := by decide +kernel
set_option maxRecDepth 20000 in
theorem ggX3_lateness_X3_get : GoodIn wsX3_lateness wsX3_get := goodIn_r _ [7, 8, 9, 10, 11, 12, 13, 14, 15, 16, 17, 18, 19, 20, 21, 22, 23, 24, 25, 26, 27] (by decide +kernel) (by decide +kernel)
set_option maxRecDepth 20000 in
theorem gX3_lateness_X3_get : GoodIn wsX3_lateness (wsV RX3 108 RX3 yX3_get wsX3_get) := goodIn_app (goodIn_of _ (by decide +kernel)) ggX3_lateness_X3_get
theorem dX3_lateness_0 : decode cX3_lateness 0 = .ok (.aload_n 0, 1) := by decide +kernel
theorem dX3_lateness_1 : decode cX3_lateness 1 = .ok (.iconst 0, 1) := by decide +kernel
theorem dX3_lateness_2 : decode cX3_lateness 2 = .ok (.putfield 53, 3) := by decide +kernel
theorem dX3_lateness_5 : decode cX3_lateness 5 = .ok (.iconst 0, 1) := by decide +kernel
theorem dX3_lateness_6 : decode cX3_lateness 6 = .ok (.istore_n 1, 1) := by decide +kernel
theorem dX3_lateness_7 : decode cX3_lateness 7 = .ok (.iconst 0, 1) := by decide +kernel
theorem dX3_lateness_8 : decode cX3_lateness 8 = .ok (.istore_n 2, 1) := by decide +kernel
theorem dX3_lateness_9 : decode cX3_lateness 9 = .ok (.iconst 0, 1) := by decide +kernel
theorem dX3_lateness_10 : decode cX3_lateness 10 = .ok (.istore_n 3, 1) := by decide +kernel
theorem dX3_lateness_11 : decode cX3_lateness 11 = .ok (.iload_n 3, 1) := by decide +kernel
theorem dX3_lateness_12 : decode cX3_lateness 12 = .ok (.aload_n 0, 1) := by decide +kernel
theorem dX3_lateness_13 : decode cX3_lateness 13 = .ok (.getfield 63, 3) := by decide +kernel
theorem dX3_lateness_16 : decode cX3_lateness 16 = .ok (.if_icmp .ge 43, 3) := by decide +kernel
theorem dX3_lateness_19 : decode cX3_lateness 19 = .ok (.aload_n 0, 1) := by decide +kernel
theorem dX3_lateness_20 : decode cX3_lateness 20 = .ok (.iload_n 3, 1) := by decide +kernel
theorem dX3_lateness_21 : decode cX3_lateness 21 = .ok (.bipush 6, 2) := by decide +kernel
theorem dX3_lateness_23 : decode cX3_lateness 23 = .ok (.invokevirtual 108, 3) := by decide +kernel
theorem dX3_lateness_26 : decode cX3_lateness 26 = .ok (.iconst (-1), 1) := by decide +kernel
theorem dX3_lateness_27 : decode cX3_lateness 27 = .ok (.if_icmp .ne 6, 3) := by decide +kernel
theorem dX3_lateness_30 : decode cX3_lateness 30 = .ok (.goto 23, 3) := by decide +kernel
theorem dX3_lateness_33 : decode cX3_lateness 33 = .ok (.iinc 1 1, 3) := by decide +kernel
theorem dX3_lateness_36 : decode cX3_lateness 36 = .ok (.iload_n 2, 1) := by decide +kernel
theorem dX3_lateness_37 : decode cX3_lateness 37 = .ok (.aload_n 0, 1) := by decide +kernel
theorem dX3_lateness_38 : decode cX3_lateness 38 = .ok (.iload_n 3, 1) := by decide +kernel
theorem dX3_lateness_39 : decode cX3_lateness 39 = .ok (.bipush 6, 2) := by decide +kernel
theorem dX3_lateness_41 : decode cX3_lateness 41 = .ok (.invokevirtual 108, 3) := by decide +kernel
theorem dX3_lateness_44 : decode cX3_lateness 44 = .ok (.aload_n 0, 1) := by decide +kernel
theorem dX3_lateness_45 : decode cX3_lateness 45 = .ok (.iload_n 3, 1) := by decide +kernel
theorem dX3_lateness_46 : decode cX3_lateness 46 = .ok (.iconst 3, 1) := by decide +kernel
theorem dX3_lateness_47 : decode cX3_lateness 47 = .ok (.invokevirtual 108, 3) := by decide +kernel
theorem dX3_lateness_50 : decode cX3_lateness 50 = .ok (.isub, 1) := by decide +kernel
theorem dX3_lateness_51 : decode cX3_lateness 51 = .ok (.iadd, 1) := by decide +kernel
theorem dX3_lateness_52 : decode cX3_lateness 52 = .ok (.istore_n 2, 1) := by decide +kernel
theorem dX3_lateness_53 : decode cX3_lateness 53 = .ok (.iinc 3 1, 3) := by decide +kernel
theorem dX3_lateness_56 : decode cX3_lateness 56 = .ok (.goto (-45), 3) := by decide +kernel
theorem dX3_lateness_59 : decode cX3_lateness 59 = .ok (.iload_n 1, 1) := by decide +kernel
theorem dX3_lateness_60 : decode cX3_lateness 60 = .ok (.ifCond .ne 7, 3) := by decide +kernel
theorem dX3_lateness_63 : decode cX3_lateness 63 = .ok (.dconst 0, 1) := by decide +kernel
theorem dX3_lateness_64 : decode cX3_lateness 64 = .ok (.goto 8, 3) := by decide +kernel
theorem dX3_lateness_67 : decode cX3_lateness 67 = .ok (.iload_n 2, 1) := by decide +kernel
theorem dX3_lateness_68 : decode cX3_lateness 68 = .ok (.i2d, 1) := by decide +kernel
theorem dX3_lateness_69 : decode cX3_lateness 69 = .ok (.iload_n 1, 1) := by decide +kernel
theorem dX3_lateness_70 : decode cX3_lateness 70 = .ok (.i2d, 1) := by decide +kernel
theorem dX3_lateness_71 : decode cX3_lateness 71 = .ok (.ddiv, 1) := by decide +kernel
theorem dX3_lateness_72 : decode cX3_lateness 72 = .ok (.dreturn, 1) := by decide +kernel
set_option maxRecDepth 20000 in
theorem ggX3_nearest_X3_isZone : GoodIn wsX3_nearest wsX3_isZone := goodIn_r _ [10, 11, 12, 9, 13] (by decide +kernel) (by decide +kernel)
set_option maxRecDepth 20000 in
theorem gX3_nearest_X3_isZone : GoodIn wsX3_nearest (va_wsS RX3 66 yX3_isZone wsX3_isZone) := goodIn_app (goodIn_of _ (by decide +kernel)) ggX3_nearest_X3_isZone
set_option maxRecDepth 20000 in
theorem ggX3_nearest_X3_fail : GoodIn wsX3_nearest wsX3_fail := goodIn_r _ [17, 1, 23, 24, 25, 26, 27, 28, 29, 30, 31, 32, 33, 34, 35, 36, 37, 38, 39, 40, 41] (by decide +kernel) (by decide +kernel)
set_option maxRecDepth 20000 in
theorem gX3_nearest_X3_fail : GoodIn wsX3_nearest (wsV RX3 70 RX3 yX3_fail wsX3_fail) := goodIn_app (goodIn_of _ (by decide +kernel)) ggX3_nearest_X3_fail
set_option maxRecDepth 20000 in
theorem ggX3_nearest_X3_isIn : GoodIn wsX3_nearest wsX3_isIn := goodIn_r _ [13] (by decide +kernel) (by decide +kernel)
set_option maxRecDepth 20000 in
theorem gX3_nearest_X3_isIn : GoodIn wsX3_nearest (va_wsS RX3 56 yX3_isIn wsX3_isIn) := goodIn_app (goodIn_of _ (by decide +kernel)) ggX3_nearest_X3_isIn
set_option maxRecDepth 20000 in
theorem ggX3_nearest_X3_way : GoodIn wsX3_nearest wsX3_way := goodIn_r _ [21, 22, 23, 24, 25, 26, 27, 28, 29, 30, 31, 32, 33, 34, 35, 36, 37, 38, 39, 40, 41] (by decide +kernel) (by decide +kernel)
set_option maxRecDepth 20000 in
theorem gX3_nearest_X3_way : GoodIn wsX3_nearest (wsV RX3 74 RX3 yX3_way wsX3_way) := goodIn_app (goodIn_of _ (by decide +kernel)) ggX3_nearest_X3_way
theorem dX3_nearest_0 : decode cX3_nearest 0 = .ok (.aload_n 0, 1) := by decide +kernel
theorem dX3_nearest_1 : decode cX3_nearest 1 = .ok (.iconst 0, 1) := by decide +kernel
theorem dX3_nearest_2 : decode cX3_nearest 2 = .ok (.putfield 53, 3) := by decide +kernel
theorem dX3_nearest_5 : decode cX3_nearest 5 = .ok (.iload_n 1, 1) := by decide +kernel
theorem dX3_nearest_6 : decode cX3_nearest 6 = .ok (.invokestatic 66, 3) := by decide +kernel
theorem dX3_nearest_9 : decode cX3_nearest 9 = .ok (.ifCond .ne 9, 3) := by decide +kernel
theorem dX3_nearest_12 : decode cX3_nearest 12 = .ok (.aload_n 0, 1) := by decide +kernel
theorem dX3_nearest_13 : decode cX3_nearest 13 = .ok (.iconst 1, 1) := by decide +kernel
theorem dX3_nearest_14 : decode cX3_nearest 14 = .ok (.invokevirtual 70, 3) := by decide +kernel
theorem dX3_nearest_17 : decode cX3_nearest 17 = .ok (.ireturn, 1) := by decide +kernel
theorem dX3_nearest_18 : decode cX3_nearest 18 = .ok (.iload_n 2, 1) := by decide +kernel
theorem dX3_nearest_19 : decode cX3_nearest 19 = .ok (.iconst 1, 1) := by decide +kernel
theorem dX3_nearest_20 : decode cX3_nearest 20 = .ok (.bipush 8, 2) := by decide +kernel
theorem dX3_nearest_22 : decode cX3_nearest 22 = .ok (.invokestatic 56, 3) := by decide +kernel
theorem dX3_nearest_25 : decode cX3_nearest 25 = .ok (.ifCond .ne 9, 3) := by decide +kernel
theorem dX3_nearest_28 : decode cX3_nearest 28 = .ok (.aload_n 0, 1) := by decide +kernel
theorem dX3_nearest_29 : decode cX3_nearest 29 = .ok (.iconst 2, 1) := by decide +kernel
theorem dX3_nearest_30 : decode cX3_nearest 30 = .ok (.invokevirtual 70, 3) := by decide +kernel
theorem dX3_nearest_33 : decode cX3_nearest 33 = .ok (.ireturn, 1) := by decide +kernel
theorem dX3_nearest_34 : decode cX3_nearest 34 = .ok (.iconst (-1), 1) := by decide +kernel
theorem dX3_nearest_35 : decode cX3_nearest 35 = .ok (.istore_n 3, 1) := by decide +kernel
theorem dX3_nearest_36 : decode cX3_nearest 36 = .ok (.iconst 0, 1) := by decide +kernel
theorem dX3_nearest_37 : decode cX3_nearest 37 = .ok (.istore 4, 2) := by decide +kernel
theorem dX3_nearest_39 : decode cX3_nearest 39 = .ok (.iload 4, 2) := by decide +kernel
theorem dX3_nearest_41 : decode cX3_nearest 41 = .ok (.aload_n 0, 1) := by decide +kernel
theorem dX3_nearest_42 : decode cX3_nearest 42 = .ok (.getfield 60, 3) := by decide +kernel
theorem dX3_nearest_45 : decode cX3_nearest 45 = .ok (.if_icmp .ge 76, 3) := by decide +kernel
theorem dX3_nearest_48 : decode cX3_nearest 48 = .ok (.aload_n 0, 1) := by decide +kernel
theorem dX3_nearest_49 : decode cX3_nearest 49 = .ok (.getfield 26, 3) := by decide +kernel
theorem dX3_nearest_52 : decode cX3_nearest 52 = .ok (.iload 4, 2) := by decide +kernel
theorem dX3_nearest_54 : decode cX3_nearest 54 = .ok (.iaload, 1) := by decide +kernel
theorem dX3_nearest_55 : decode cX3_nearest 55 = .ok (.iconst 1, 1) := by decide +kernel
theorem dX3_nearest_56 : decode cX3_nearest 56 = .ok (.if_icmp .ne 59, 3) := by decide +kernel
theorem dX3_nearest_59 : decode cX3_nearest 59 = .ok (.aload_n 0, 1) := by decide +kernel
theorem dX3_nearest_60 : decode cX3_nearest 60 = .ok (.getfield 29, 3) := by decide +kernel
theorem dX3_nearest_63 : decode cX3_nearest 63 = .ok (.iload 4, 2) := by decide +kernel
theorem dX3_nearest_65 : decode cX3_nearest 65 = .ok (.iaload, 1) := by decide +kernel
theorem dX3_nearest_66 : decode cX3_nearest 66 = .ok (.iconst (-1), 1) := by decide +kernel
theorem dX3_nearest_67 : decode cX3_nearest 67 = .ok (.if_icmp .ne 48, 3) := by decide +kernel
theorem dX3_nearest_70 : decode cX3_nearest 70 = .ok (.aload_n 0, 1) := by decide +kernel
theorem dX3_nearest_71 : decode cX3_nearest 71 = .ok (.getfield 20, 3) := by decide +kernel
theorem dX3_nearest_74 : decode cX3_nearest 74 = .ok (.iload 4, 2) := by decide +kernel
theorem dX3_nearest_76 : decode cX3_nearest 76 = .ok (.iaload, 1) := by decide +kernel
theorem dX3_nearest_77 : decode cX3_nearest 77 = .ok (.iload_n 2, 1) := by decide +kernel
theorem dX3_nearest_78 : decode cX3_nearest 78 = .ok (.if_icmp .lt 37, 3) := by decide +kernel
theorem dX3_nearest_81 : decode cX3_nearest 81 = .ok (.iload_n 3, 1) := by decide +kernel
theorem dX3_nearest_82 : decode cX3_nearest 82 = .ok (.iconst (-1), 1) := by decide +kernel
theorem dX3_nearest_83 : decode cX3_nearest 83 = .ok (.if_icmp .eq 19, 3) := by decide +kernel
theorem dX3_nearest_86 : decode cX3_nearest 86 = .ok (.aload_n 0, 1) := by decide +kernel
theorem dX3_nearest_87 : decode cX3_nearest 87 = .ok (.aload_n 0, 1) := by decide +kernel
theorem dX3_nearest_88 : decode cX3_nearest 88 = .ok (.getfield 23, 3) := by decide +kernel
theorem dX3_nearest_91 : decode cX3_nearest 91 = .ok (.iload 4, 2) := by decide +kernel
theorem dX3_nearest_93 : decode cX3_nearest 93 = .ok (.iaload, 1) := by decide +kernel
theorem dX3_nearest_94 : decode cX3_nearest 94 = .ok (.iload_n 1, 1) := by decide +kernel
theorem dX3_nearest_95 : decode cX3_nearest 95 = .ok (.invokevirtual 74, 3) := by decide +kernel
theorem dX3_nearest_98 : decode cX3_nearest 98 = .ok (.iload_n 3, 1) := by decide +kernel
theorem dX3_nearest_99 : decode cX3_nearest 99 = .ok (.if_icmp .ge 16, 3) := by decide +kernel
theorem dX3_nearest_102 : decode cX3_nearest 102 = .ok (.aload_n 0, 1) := by decide +kernel
theorem dX3_nearest_103 : decode cX3_nearest 103 = .ok (.aload_n 0, 1) := by decide +kernel
theorem dX3_nearest_104 : decode cX3_nearest 104 = .ok (.getfield 23, 3) := by decide +kernel
theorem dX3_nearest_107 : decode cX3_nearest 107 = .ok (.iload 4, 2) := by decide +kernel
theorem dX3_nearest_109 : decode cX3_nearest 109 = .ok (.iaload, 1) := by decide +kernel
theorem dX3_nearest_110 : decode cX3_nearest 110 = .ok (.iload_n 1, 1) := by decide +kernel
theorem dX3_nearest_111 : decode cX3_nearest 111 = .ok (.invokevirtual 74, 3) := by decide +kernel
theorem dX3_nearest_114 : decode cX3_nearest 114 = .ok (.istore_n 3, 1) := by decide +kernel
theorem dX3_nearest_115 : decode cX3_nearest 115 = .ok (.iinc 4 1, 3) := by decide +kernel
theorem dX3_nearest_118 : decode cX3_nearest 118 = .ok (.goto (-79), 3) := by decide +kernel
theorem dX3_nearest_121 : decode cX3_nearest 121 = .ok (.iload_n 3, 1) := by decide +kernel
theorem dX3_nearest_122 : decode cX3_nearest 122 = .ok (.ireturn, 1) := by decide +kernel
set_option maxRecDepth 20000 in
theorem ggX3_digest_X3_cabTold : GoodIn wsX3_digest wsX3_cabTold := goodIn_r _ [13, 14, 15, 16, 17, 18, 19, 20, 12, 21, 5, 22, 49, 50, 51, 52, 53, 54, 55, 56, 57, 58, 59, 60, 61, 62, 63, 64, 65, 66, 67] (by decide +kernel) (by decide +kernel)
set_option maxRecDepth 20000 in
theorem gX3_digest_X3_cabTold : GoodIn wsX3_digest (wsV RX3 105 RX3 yX3_cabTold wsX3_cabTold) := goodIn_app (goodIn_of _ (by decide +kernel)) ggX3_digest_X3_cabTold
set_option maxRecDepth 20000 in
theorem ggX3_digest_X3_orderTold : GoodIn wsX3_digest wsX3_orderTold := goodIn_r _ [26, 27, 28, 29, 30, 31, 32, 33, 34, 35, 36, 37, 12, 38, 39, 49, 50, 51, 52, 53, 54, 55, 56, 57, 58, 59, 60, 61, 62, 63, 64, 65, 66, 67] (by decide +kernel) (by decide +kernel)
set_option maxRecDepth 20000 in
theorem gX3_digest_X3_orderTold : GoodIn wsX3_digest (wsV RX3 144 RX3 yX3_orderTold wsX3_orderTold) := goodIn_app (goodIn_of _ (by decide +kernel)) ggX3_digest_X3_orderTold
set_option maxRecDepth 20000 in
theorem ggX3_digest_X3_fareOf : GoodIn wsX3_digest wsX3_fareOf := goodIn_r _ [43, 44, 49, 50, 51, 52, 53, 54, 55, 56, 57, 58, 59, 60, 61, 62, 63, 64, 65, 66, 67] (by decide +kernel) (by decide +kernel)
set_option maxRecDepth 20000 in
theorem gX3_digest_X3_fareOf : GoodIn wsX3_digest (wsV RX3 147 RX3 yX3_fareOf wsX3_fareOf) := goodIn_app (goodIn_of _ (by decide +kernel)) ggX3_digest_X3_fareOf
set_option maxRecDepth 20000 in
theorem ggX3_digest_X3_queued : GoodIn wsX3_digest wsX3_queued := goodIn_r _ [48, 5, 15, 18, 19, 20, 12, 21, 14, 22, 49, 50, 51, 52, 53, 54, 55, 56, 57, 58, 59, 60, 61, 62, 63, 64, 65, 66, 67] (by decide +kernel) (by decide +kernel)
set_option maxRecDepth 20000 in
theorem gX3_digest_X3_queued : GoodIn wsX3_digest (wsV RX3 165 RX3 yX3_queued wsX3_queued) := goodIn_app (goodIn_of _ (by decide +kernel)) ggX3_digest_X3_queued
theorem dX3_digest_0 : decode cX3_digest 0 = .ok (.aload_n 0, 1) := by decide +kernel
theorem dX3_digest_1 : decode cX3_digest 1 = .ok (.iconst 0, 1) := by decide +kernel
theorem dX3_digest_2 : decode cX3_digest 2 = .ok (.putfield 53, 3) := by decide +kernel
theorem dX3_digest_5 : decode cX3_digest 5 = .ok (.ldc2_w 168, 3) := by decide +kernel
theorem dX3_digest_8 : decode cX3_digest 8 = .ok (.aload_n 0, 1) := by decide +kernel
theorem dX3_digest_9 : decode cX3_digest 9 = .ok (.getfield 121, 3) := by decide +kernel
theorem dX3_digest_12 : decode cX3_digest 12 = .ok (.i2l, 1) := by decide +kernel
theorem dX3_digest_13 : decode cX3_digest 13 = .ok (.ladd, 1) := by decide +kernel
theorem dX3_digest_14 : decode cX3_digest 14 = .ok (.ldc2_w 170, 3) := by decide +kernel
theorem dX3_digest_17 : decode cX3_digest 17 = .ok (.lmul, 1) := by decide +kernel
theorem dX3_digest_18 : decode cX3_digest 18 = .ok (.aload_n 0, 1) := by decide +kernel
theorem dX3_digest_19 : decode cX3_digest 19 = .ok (.getfield 60, 3) := by decide +kernel
theorem dX3_digest_22 : decode cX3_digest 22 = .ok (.i2l, 1) := by decide +kernel
theorem dX3_digest_23 : decode cX3_digest 23 = .ok (.ladd, 1) := by decide +kernel
theorem dX3_digest_24 : decode cX3_digest 24 = .ok (.lstore_n 1, 1) := by decide +kernel
theorem dX3_digest_25 : decode cX3_digest 25 = .ok (.iconst 0, 1) := by decide +kernel
theorem dX3_digest_26 : decode cX3_digest 26 = .ok (.istore_n 3, 1) := by decide +kernel
theorem dX3_digest_27 : decode cX3_digest 27 = .ok (.iload_n 3, 1) := by decide +kernel
theorem dX3_digest_28 : decode cX3_digest 28 = .ok (.aload_n 0, 1) := by decide +kernel
theorem dX3_digest_29 : decode cX3_digest 29 = .ok (.getfield 60, 3) := by decide +kernel
theorem dX3_digest_32 : decode cX3_digest 32 = .ok (.if_icmp .ge 65, 3) := by decide +kernel
theorem dX3_digest_35 : decode cX3_digest 35 = .ok (.iconst 0, 1) := by decide +kernel
theorem dX3_digest_36 : decode cX3_digest 36 = .ok (.istore 4, 2) := by decide +kernel
theorem dX3_digest_38 : decode cX3_digest 38 = .ok (.iload 4, 2) := by decide +kernel
theorem dX3_digest_40 : decode cX3_digest 40 = .ok (.iconst 5, 1) := by decide +kernel
theorem dX3_digest_41 : decode cX3_digest 41 = .ok (.if_icmp .ge 24, 3) := by decide +kernel
theorem dX3_digest_44 : decode cX3_digest 44 = .ok (.lload_n 1, 1) := by decide +kernel
theorem dX3_digest_45 : decode cX3_digest 45 = .ok (.ldc2_w 170, 3) := by decide +kernel
theorem dX3_digest_48 : decode cX3_digest 48 = .ok (.lmul, 1) := by decide +kernel
theorem dX3_digest_49 : decode cX3_digest 49 = .ok (.aload_n 0, 1) := by decide +kernel
theorem dX3_digest_50 : decode cX3_digest 50 = .ok (.iload_n 3, 1) := by decide +kernel
theorem dX3_digest_51 : decode cX3_digest 51 = .ok (.iload 4, 2) := by decide +kernel
theorem dX3_digest_53 : decode cX3_digest 53 = .ok (.invokevirtual 105, 3) := by decide +kernel
theorem dX3_digest_56 : decode cX3_digest 56 = .ok (.i2l, 1) := by decide +kernel
theorem dX3_digest_57 : decode cX3_digest 57 = .ok (.ladd, 1) := by decide +kernel
theorem dX3_digest_58 : decode cX3_digest 58 = .ok (.lstore_n 1, 1) := by decide +kernel
theorem dX3_digest_59 : decode cX3_digest 59 = .ok (.iinc 4 1, 3) := by decide +kernel
theorem dX3_digest_62 : decode cX3_digest 62 = .ok (.goto (-24), 3) := by decide +kernel
theorem dX3_digest_65 : decode cX3_digest 65 = .ok (.lload_n 1, 1) := by decide +kernel
theorem dX3_digest_66 : decode cX3_digest 66 = .ok (.ldc2_w 170, 3) := by decide +kernel
theorem dX3_digest_69 : decode cX3_digest 69 = .ok (.lmul, 1) := by decide +kernel
theorem dX3_digest_70 : decode cX3_digest 70 = .ok (.aload_n 0, 1) := by decide +kernel
theorem dX3_digest_71 : decode cX3_digest 71 = .ok (.getfield 38, 3) := by decide +kernel
theorem dX3_digest_74 : decode cX3_digest 74 = .ok (.iload_n 3, 1) := by decide +kernel
theorem dX3_digest_75 : decode cX3_digest 75 = .ok (.iaload, 1) := by decide +kernel
theorem dX3_digest_76 : decode cX3_digest 76 = .ok (.i2l, 1) := by decide +kernel
theorem dX3_digest_77 : decode cX3_digest 77 = .ok (.ladd, 1) := by decide +kernel
theorem dX3_digest_78 : decode cX3_digest 78 = .ok (.ldc2_w 170, 3) := by decide +kernel
theorem dX3_digest_81 : decode cX3_digest 81 = .ok (.lmul, 1) := by decide +kernel
theorem dX3_digest_82 : decode cX3_digest 82 = .ok (.aload_n 0, 1) := by decide +kernel
theorem dX3_digest_83 : decode cX3_digest 83 = .ok (.getfield 41, 3) := by decide +kernel
theorem dX3_digest_86 : decode cX3_digest 86 = .ok (.iload_n 3, 1) := by decide +kernel
theorem dX3_digest_87 : decode cX3_digest 87 = .ok (.iaload, 1) := by decide +kernel
theorem dX3_digest_88 : decode cX3_digest 88 = .ok (.i2l, 1) := by decide +kernel
theorem dX3_digest_89 : decode cX3_digest 89 = .ok (.ladd, 1) := by decide +kernel
theorem dX3_digest_90 : decode cX3_digest 90 = .ok (.lstore_n 1, 1) := by decide +kernel
theorem dX3_digest_91 : decode cX3_digest 91 = .ok (.iinc 3 1, 3) := by decide +kernel
theorem dX3_digest_94 : decode cX3_digest 94 = .ok (.goto (-67), 3) := by decide +kernel
theorem dX3_digest_97 : decode cX3_digest 97 = .ok (.lload_n 1, 1) := by decide +kernel
theorem dX3_digest_98 : decode cX3_digest 98 = .ok (.ldc2_w 170, 3) := by decide +kernel
theorem dX3_digest_101 : decode cX3_digest 101 = .ok (.lmul, 1) := by decide +kernel
theorem dX3_digest_102 : decode cX3_digest 102 = .ok (.aload_n 0, 1) := by decide +kernel
theorem dX3_digest_103 : decode cX3_digest 103 = .ok (.getfield 63, 3) := by decide +kernel
theorem dX3_digest_106 : decode cX3_digest 106 = .ok (.i2l, 1) := by decide +kernel
theorem dX3_digest_107 : decode cX3_digest 107 = .ok (.ladd, 1) := by decide +kernel
theorem dX3_digest_108 : decode cX3_digest 108 = .ok (.lstore_n 1, 1) := by decide +kernel
theorem dX3_digest_109 : decode cX3_digest 109 = .ok (.iconst 0, 1) := by decide +kernel
theorem dX3_digest_110 : decode cX3_digest 110 = .ok (.istore_n 3, 1) := by decide +kernel
theorem dX3_digest_111 : decode cX3_digest 111 = .ok (.iload_n 3, 1) := by decide +kernel
theorem dX3_digest_112 : decode cX3_digest 112 = .ok (.aload_n 0, 1) := by decide +kernel
theorem dX3_digest_113 : decode cX3_digest 113 = .ok (.getfield 63, 3) := by decide +kernel
theorem dX3_digest_116 : decode cX3_digest 116 = .ok (.if_icmp .ge 53, 3) := by decide +kernel
theorem dX3_digest_119 : decode cX3_digest 119 = .ok (.iconst 0, 1) := by decide +kernel
theorem dX3_digest_120 : decode cX3_digest 120 = .ok (.istore 4, 2) := by decide +kernel
theorem dX3_digest_122 : decode cX3_digest 122 = .ok (.iload 4, 2) := by decide +kernel
theorem dX3_digest_124 : decode cX3_digest 124 = .ok (.iconst 5, 1) := by decide +kernel
theorem dX3_digest_125 : decode cX3_digest 125 = .ok (.if_icmp .ge 24, 3) := by decide +kernel
theorem dX3_digest_128 : decode cX3_digest 128 = .ok (.lload_n 1, 1) := by decide +kernel
theorem dX3_digest_129 : decode cX3_digest 129 = .ok (.ldc2_w 170, 3) := by decide +kernel
theorem dX3_digest_132 : decode cX3_digest 132 = .ok (.lmul, 1) := by decide +kernel
theorem dX3_digest_133 : decode cX3_digest 133 = .ok (.aload_n 0, 1) := by decide +kernel
theorem dX3_digest_134 : decode cX3_digest 134 = .ok (.iload_n 3, 1) := by decide +kernel
theorem dX3_digest_135 : decode cX3_digest 135 = .ok (.iload 4, 2) := by decide +kernel
theorem dX3_digest_137 : decode cX3_digest 137 = .ok (.invokevirtual 144, 3) := by decide +kernel
theorem dX3_digest_140 : decode cX3_digest 140 = .ok (.i2l, 1) := by decide +kernel
theorem dX3_digest_141 : decode cX3_digest 141 = .ok (.ladd, 1) := by decide +kernel
theorem dX3_digest_142 : decode cX3_digest 142 = .ok (.lstore_n 1, 1) := by decide +kernel
theorem dX3_digest_143 : decode cX3_digest 143 = .ok (.iinc 4 1, 3) := by decide +kernel
theorem dX3_digest_146 : decode cX3_digest 146 = .ok (.goto (-24), 3) := by decide +kernel
theorem dX3_digest_149 : decode cX3_digest 149 = .ok (.lload_n 1, 1) := by decide +kernel
theorem dX3_digest_150 : decode cX3_digest 150 = .ok (.ldc2_w 170, 3) := by decide +kernel
theorem dX3_digest_153 : decode cX3_digest 153 = .ok (.lmul, 1) := by decide +kernel
theorem dX3_digest_154 : decode cX3_digest 154 = .ok (.aload_n 0, 1) := by decide +kernel
theorem dX3_digest_155 : decode cX3_digest 155 = .ok (.iload_n 3, 1) := by decide +kernel
theorem dX3_digest_156 : decode cX3_digest 156 = .ok (.iconst 4, 1) := by decide +kernel
theorem dX3_digest_157 : decode cX3_digest 157 = .ok (.invokevirtual 147, 3) := by decide +kernel
theorem dX3_digest_160 : decode cX3_digest 160 = .ok (.i2l, 1) := by decide +kernel
theorem dX3_digest_161 : decode cX3_digest 161 = .ok (.ladd, 1) := by decide +kernel
theorem dX3_digest_162 : decode cX3_digest 162 = .ok (.lstore_n 1, 1) := by decide +kernel
theorem dX3_digest_163 : decode cX3_digest 163 = .ok (.iinc 3 1, 3) := by decide +kernel
theorem dX3_digest_166 : decode cX3_digest 166 = .ok (.goto (-55), 3) := by decide +kernel
theorem dX3_digest_169 : decode cX3_digest 169 = .ok (.iconst 0, 1) := by decide +kernel
theorem dX3_digest_170 : decode cX3_digest 170 = .ok (.istore_n 3, 1) := by decide +kernel
theorem dX3_digest_171 : decode cX3_digest 171 = .ok (.iload_n 3, 1) := by decide +kernel
theorem dX3_digest_172 : decode cX3_digest 172 = .ok (.bipush 6, 2) := by decide +kernel
theorem dX3_digest_174 : decode cX3_digest 174 = .ok (.if_icmp .ge 44, 3) := by decide +kernel
theorem dX3_digest_177 : decode cX3_digest 177 = .ok (.iconst 0, 1) := by decide +kernel
theorem dX3_digest_178 : decode cX3_digest 178 = .ok (.istore 4, 2) := by decide +kernel
theorem dX3_digest_180 : decode cX3_digest 180 = .ok (.aload_n 0, 1) := by decide +kernel
theorem dX3_digest_181 : decode cX3_digest 181 = .ok (.iload_n 3, 1) := by decide +kernel
theorem dX3_digest_182 : decode cX3_digest 182 = .ok (.iload 4, 2) := by decide +kernel
theorem dX3_digest_184 : decode cX3_digest 184 = .ok (.invokevirtual 165, 3) := by decide +kernel
theorem dX3_digest_187 : decode cX3_digest 187 = .ok (.iconst (-1), 1) := by decide +kernel
theorem dX3_digest_188 : decode cX3_digest 188 = .ok (.if_icmp .eq 24, 3) := by decide +kernel
theorem dX3_digest_191 : decode cX3_digest 191 = .ok (.lload_n 1, 1) := by decide +kernel
theorem dX3_digest_192 : decode cX3_digest 192 = .ok (.ldc2_w 170, 3) := by decide +kernel
theorem dX3_digest_195 : decode cX3_digest 195 = .ok (.lmul, 1) := by decide +kernel
theorem dX3_digest_196 : decode cX3_digest 196 = .ok (.aload_n 0, 1) := by decide +kernel
theorem dX3_digest_197 : decode cX3_digest 197 = .ok (.iload_n 3, 1) := by decide +kernel
theorem dX3_digest_198 : decode cX3_digest 198 = .ok (.iload 4, 2) := by decide +kernel
theorem dX3_digest_200 : decode cX3_digest 200 = .ok (.invokevirtual 165, 3) := by decide +kernel
theorem dX3_digest_203 : decode cX3_digest 203 = .ok (.i2l, 1) := by decide +kernel
theorem dX3_digest_204 : decode cX3_digest 204 = .ok (.ladd, 1) := by decide +kernel
theorem dX3_digest_205 : decode cX3_digest 205 = .ok (.lstore_n 1, 1) := by decide +kernel
theorem dX3_digest_206 : decode cX3_digest 206 = .ok (.iinc 4 1, 3) := by decide +kernel
theorem dX3_digest_209 : decode cX3_digest 209 = .ok (.goto (-29), 3) := by decide +kernel
theorem dX3_digest_212 : decode cX3_digest 212 = .ok (.iinc 3 1, 3) := by decide +kernel
theorem dX3_digest_215 : decode cX3_digest 215 = .ok (.goto (-44), 3) := by decide +kernel
theorem dX3_digest_218 : decode cX3_digest 218 = .ok (.lload_n 1, 1) := by decide +kernel
theorem dX3_digest_219 : decode cX3_digest 219 = .ok (.lreturn, 1) := by decide +kernel
theorem dJ6_bitCount_0f7a4_0 : decode cJ6_bitCount_0f7a4 0 = .ok (.iload_n 0, 1) := by decide +kernel
theorem dJ6_bitCount_0f7a4_1 : decode cJ6_bitCount_0f7a4 1 = .ok (.iload_n 0, 1) := by decide +kernel
theorem dJ6_bitCount_0f7a4_2 : decode cJ6_bitCount_0f7a4 2 = .ok (.iconst 1, 1) := by decide +kernel
theorem dJ6_bitCount_0f7a4_3 : decode cJ6_bitCount_0f7a4 3 = .ok (.iushr, 1) := by decide +kernel
theorem dJ6_bitCount_0f7a4_4 : decode cJ6_bitCount_0f7a4 4 = .ok (.ldc_w 265, 3) := by decide +kernel
theorem dJ6_bitCount_0f7a4_7 : decode cJ6_bitCount_0f7a4 7 = .ok (.iand, 1) := by decide +kernel
theorem dJ6_bitCount_0f7a4_8 : decode cJ6_bitCount_0f7a4 8 = .ok (.isub, 1) := by decide +kernel
theorem dJ6_bitCount_0f7a4_9 : decode cJ6_bitCount_0f7a4 9 = .ok (.istore_n 0, 1) := by decide +kernel
theorem dJ6_bitCount_0f7a4_10 : decode cJ6_bitCount_0f7a4 10 = .ok (.iload_n 0, 1) := by decide +kernel
theorem dJ6_bitCount_0f7a4_11 : decode cJ6_bitCount_0f7a4 11 = .ok (.ldc_w 266, 3) := by decide +kernel
theorem dJ6_bitCount_0f7a4_14 : decode cJ6_bitCount_0f7a4 14 = .ok (.iand, 1) := by decide +kernel
theorem dJ6_bitCount_0f7a4_15 : decode cJ6_bitCount_0f7a4 15 = .ok (.iload_n 0, 1) := by decide +kernel
theorem dJ6_bitCount_0f7a4_16 : decode cJ6_bitCount_0f7a4 16 = .ok (.iconst 2, 1) := by decide +kernel
theorem dJ6_bitCount_0f7a4_17 : decode cJ6_bitCount_0f7a4 17 = .ok (.iushr, 1) := by decide +kernel
theorem dJ6_bitCount_0f7a4_18 : decode cJ6_bitCount_0f7a4 18 = .ok (.ldc_w 266, 3) := by decide +kernel
theorem dJ6_bitCount_0f7a4_21 : decode cJ6_bitCount_0f7a4 21 = .ok (.iand, 1) := by decide +kernel
theorem dJ6_bitCount_0f7a4_22 : decode cJ6_bitCount_0f7a4 22 = .ok (.iadd, 1) := by decide +kernel
theorem dJ6_bitCount_0f7a4_23 : decode cJ6_bitCount_0f7a4 23 = .ok (.istore_n 0, 1) := by decide +kernel
theorem dJ6_bitCount_0f7a4_24 : decode cJ6_bitCount_0f7a4 24 = .ok (.iload_n 0, 1) := by decide +kernel
theorem dJ6_bitCount_0f7a4_25 : decode cJ6_bitCount_0f7a4 25 = .ok (.iload_n 0, 1) := by decide +kernel
theorem dJ6_bitCount_0f7a4_26 : decode cJ6_bitCount_0f7a4 26 = .ok (.iconst 4, 1) := by decide +kernel
theorem dJ6_bitCount_0f7a4_27 : decode cJ6_bitCount_0f7a4 27 = .ok (.iushr, 1) := by decide +kernel
theorem dJ6_bitCount_0f7a4_28 : decode cJ6_bitCount_0f7a4 28 = .ok (.iadd, 1) := by decide +kernel
theorem dJ6_bitCount_0f7a4_29 : decode cJ6_bitCount_0f7a4 29 = .ok (.ldc_w 267, 3) := by decide +kernel
theorem dJ6_bitCount_0f7a4_32 : decode cJ6_bitCount_0f7a4 32 = .ok (.iand, 1) := by decide +kernel
theorem dJ6_bitCount_0f7a4_33 : decode cJ6_bitCount_0f7a4 33 = .ok (.istore_n 0, 1) := by decide +kernel
theorem dJ6_bitCount_0f7a4_34 : decode cJ6_bitCount_0f7a4 34 = .ok (.iload_n 0, 1) := by decide +kernel
theorem dJ6_bitCount_0f7a4_35 : decode cJ6_bitCount_0f7a4 35 = .ok (.iload_n 0, 1) := by decide +kernel
theorem dJ6_bitCount_0f7a4_36 : decode cJ6_bitCount_0f7a4 36 = .ok (.bipush 8, 2) := by decide +kernel
theorem dJ6_bitCount_0f7a4_38 : decode cJ6_bitCount_0f7a4 38 = .ok (.iushr, 1) := by decide +kernel
theorem dJ6_bitCount_0f7a4_39 : decode cJ6_bitCount_0f7a4 39 = .ok (.iadd, 1) := by decide +kernel
theorem dJ6_bitCount_0f7a4_40 : decode cJ6_bitCount_0f7a4 40 = .ok (.istore_n 0, 1) := by decide +kernel
theorem dJ6_bitCount_0f7a4_41 : decode cJ6_bitCount_0f7a4 41 = .ok (.iload_n 0, 1) := by decide +kernel
theorem dJ6_bitCount_0f7a4_42 : decode cJ6_bitCount_0f7a4 42 = .ok (.iload_n 0, 1) := by decide +kernel
theorem dJ6_bitCount_0f7a4_43 : decode cJ6_bitCount_0f7a4 43 = .ok (.bipush 16, 2) := by decide +kernel
theorem dJ6_bitCount_0f7a4_45 : decode cJ6_bitCount_0f7a4 45 = .ok (.iushr, 1) := by decide +kernel
theorem dJ6_bitCount_0f7a4_46 : decode cJ6_bitCount_0f7a4 46 = .ok (.iadd, 1) := by decide +kernel
theorem dJ6_bitCount_0f7a4_47 : decode cJ6_bitCount_0f7a4 47 = .ok (.istore_n 0, 1) := by decide +kernel
theorem dJ6_bitCount_0f7a4_48 : decode cJ6_bitCount_0f7a4 48 = .ok (.iload_n 0, 1) := by decide +kernel
theorem dJ6_bitCount_0f7a4_49 : decode cJ6_bitCount_0f7a4 49 = .ok (.bipush 63, 2) := by decide +kernel
theorem dJ6_bitCount_0f7a4_51 : decode cJ6_bitCount_0f7a4 51 = .ok (.iand, 1) := by decide +kernel
theorem dJ6_bitCount_0f7a4_52 : decode cJ6_bitCount_0f7a4 52 = .ok (.ireturn, 1) := by decide +kernel
theorem dJ9_max_7cf53_0 : decode cJ9_max_7cf53 0 = .ok (.iload_n 0, 1) := by decide +kernel
theorem dJ9_max_7cf53_1 : decode cJ9_max_7cf53 1 = .ok (.iload_n 1, 1) := by decide +kernel
theorem dJ9_max_7cf53_2 : decode cJ9_max_7cf53 2 = .ok (.if_icmp .lt 7, 3) := by decide +kernel
theorem dJ9_max_7cf53_5 : decode cJ9_max_7cf53 5 = .ok (.iload_n 0, 1) := by decide +kernel
theorem dJ9_max_7cf53_6 : decode cJ9_max_7cf53 6 = .ok (.goto 4, 3) := by decide +kernel
theorem dJ9_max_7cf53_9 : decode cJ9_max_7cf53 9 = .ok (.iload_n 1, 1) := by decide +kernel
theorem dJ9_max_7cf53_10 : decode cJ9_max_7cf53 10 = .ok (.ireturn, 1) := by decide +kernel
theorem dJ9_min_7cf53_0 : decode cJ9_min_7cf53 0 = .ok (.iload_n 0, 1) := by decide +kernel
theorem dJ9_min_7cf53_1 : decode cJ9_min_7cf53 1 = .ok (.iload_n 1, 1) := by decide +kernel
theorem dJ9_min_7cf53_2 : decode cJ9_min_7cf53 2 = .ok (.if_icmp .gt 7, 3) := by decide +kernel
theorem dJ9_min_7cf53_5 : decode cJ9_min_7cf53 5 = .ok (.iload_n 0, 1) := by decide +kernel
theorem dJ9_min_7cf53_6 : decode cJ9_min_7cf53 6 = .ok (.goto 4, 3) := by decide +kernel
theorem dJ9_min_7cf53_9 : decode cJ9_min_7cf53 9 = .ok (.iload_n 1, 1) := by decide +kernel
theorem dJ9_min_7cf53_10 : decode cJ9_min_7cf53 10 = .ok (.ireturn, 1) := by decide +kernel
theorem dJxa1e45_init_da8c8_0 : decode cJxa1e45_init_da8c8 0 = .ok (.aload_n 0, 1) := by decide +kernel
theorem dJxa1e45_init_da8c8_1 : decode cJxa1e45_init_da8c8 1 = .ok (.invokespecial 1, 3) := by decide +kernel
theorem dJxa1e45_init_da8c8_4 : decode cJxa1e45_init_da8c8 4 = .ok (.return_, 1) := by decide +kernel
set_option maxRecDepth 20000 in
theorem ggJxc12de_init_da8c8_Jxa1e45_init_da8c8 : GoodIn wsJxc12de_init_da8c8 wsJxa1e45_init_da8c8 := goodIn_r _ [5, 6, 7, 8] (by decide +kernel) (by decide +kernel)
set_option maxRecDepth 20000 in
theorem gJxc12de_init_da8c8_Jxa1e45_init_da8c8 : GoodIn wsJxc12de_init_da8c8 (wsJxa1e45_init_da8c8) := ggJxc12de_init_da8c8_Jxa1e45_init_da8c8
theorem dJxc12de_init_da8c8_0 : decode cJxc12de_init_da8c8 0 = .ok (.aload_n 0, 1) := by decide +kernel
theorem dJxc12de_init_da8c8_1 : decode cJxc12de_init_da8c8 1 = .ok (.invokespecial 1, 3) := by decide +kernel
theorem dJxc12de_init_da8c8_4 : decode cJxc12de_init_da8c8 4 = .ok (.aload_n 0, 1) := by decide +kernel
theorem dJxc12de_init_da8c8_5 : decode cJxc12de_init_da8c8 5 = .ok (.iconst 0, 1) := by decide +kernel
theorem dJxc12de_init_da8c8_6 : decode cJxc12de_init_da8c8 6 = .ok (.putfield 7, 3) := by decide +kernel
theorem dJxc12de_init_da8c8_9 : decode cJxc12de_init_da8c8 9 = .ok (.return_, 1) := by decide +kernel
set_option maxRecDepth 20000 in
theorem ggJx4a65c_init_da8c8_Jxc12de_init_da8c8 : GoodIn wsJx4a65c_init_da8c8 wsJxc12de_init_da8c8 := goodIn_r _ [6, 7, 8, 9, 10, 11, 12, 13, 14, 15, 16, 17] (by decide +kernel) (by decide +kernel)
set_option maxRecDepth 20000 in
theorem gJx4a65c_init_da8c8_Jxc12de_init_da8c8 : GoodIn wsJx4a65c_init_da8c8 (wsJxc12de_init_da8c8) := ggJx4a65c_init_da8c8_Jxc12de_init_da8c8
theorem dJx4a65c_init_da8c8_0 : decode cJx4a65c_init_da8c8 0 = .ok (.aload_n 0, 1) := by decide +kernel
theorem dJx4a65c_init_da8c8_1 : decode cJx4a65c_init_da8c8 1 = .ok (.invokespecial 1, 3) := by decide +kernel
theorem dJx4a65c_init_da8c8_4 : decode cJx4a65c_init_da8c8 4 = .ok (.aload_n 0, 1) := by decide +kernel
theorem dJx4a65c_init_da8c8_5 : decode cJx4a65c_init_da8c8 5 = .ok (.getstatic 39, 3) := by decide +kernel
theorem dJx4a65c_init_da8c8_8 : decode cJx4a65c_init_da8c8 8 = .ok (.putfield 9, 3) := by decide +kernel
theorem dJx4a65c_init_da8c8_11 : decode cJx4a65c_init_da8c8 11 = .ok (.return_, 1) := by decide +kernel
set_option maxRecDepth 20000 in
theorem ggJx4a65c_grow_92f84_J8_newLength_cabcc : GoodIn wsJx4a65c_grow_92f84 wsJ8_newLength_cabcc := goodIn_r _ [11, 12, 4, 5, 6, 13, 14, 15, 10, 16] (by decide +kernel) (by decide +kernel)
set_option maxRecDepth 20000 in
theorem gJx4a65c_grow_92f84_J8_newLength_cabcc : GoodIn wsJx4a65c_grow_92f84 (va_wsS RJx4a65c 73 yJ8_newLength_cabcc wsJ8_newLength_cabcc) := goodIn_app (goodIn_of _ (by decide +kernel)) ggJx4a65c_grow_92f84_J8_newLength_cabcc
set_option maxRecDepth 20000 in
theorem ggJx4a65c_grow_92f84_J7_copyOf_1904c : GoodIn wsJx4a65c_grow_92f84 wsJ7_copyOf_1904c := goodIn_r _ [20, 21, 22, 23, 24, 25, 26, 19, 27, 28, 29, 30, 31, 5, 32, 33, 34, 35, 36] (by decide +kernel) (by decide +kernel)
set_option maxRecDepth 20000 in
theorem gJx4a65c_grow_92f84_J7_copyOf_1904c : GoodIn wsJx4a65c_grow_92f84 (va_wsS RJx4a65c 66 yJ7_copyOf_1904c wsJ7_copyOf_1904c) := goodIn_app (goodIn_of _ (by decide +kernel)) ggJx4a65c_grow_92f84_J7_copyOf_1904c
theorem dJx4a65c_grow_92f84_0 : decode cJx4a65c_grow_92f84 0 = .ok (.aload_n 0, 1) := by decide +kernel
theorem dJx4a65c_grow_92f84_1 : decode cJx4a65c_grow_92f84 1 = .ok (.getfield 9, 3) := by decide +kernel
theorem dJx4a65c_grow_92f84_4 : decode cJx4a65c_grow_92f84 4 = .ok (.arraylength, 1) := by decide +kernel
theorem dJx4a65c_grow_92f84_5 : decode cJx4a65c_grow_92f84 5 = .ok (.istore_n 2, 1) := by decide +kernel
theorem dJx4a65c_grow_92f84_6 : decode cJx4a65c_grow_92f84 6 = .ok (.iload_n 2, 1) := by decide +kernel
theorem dJx4a65c_grow_92f84_7 : decode cJx4a65c_grow_92f84 7 = .ok (.ifCond .gt 13, 3) := by decide +kernel
theorem dJx4a65c_grow_92f84_10 : decode cJx4a65c_grow_92f84 10 = .ok (.aload_n 0, 1) := by decide +kernel
theorem dJx4a65c_grow_92f84_11 : decode cJx4a65c_grow_92f84 11 = .ok (.getfield 9, 3) := by decide +kernel
