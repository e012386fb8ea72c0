set_option maxRecDepth 20000 in
theorem ggX1_init_X9_init : GoodIn wsX1_init wsX9_init := goodIn_r _ [10, 11, 2, 3, 12, 13, 14, 15, 16, 17, 18, 19, 20, 21, 22, 23, 24] (by decide +kernel) (by decide +kernel)
set_option maxRecDepth 20000 in
theorem gX1_init_X9_init : GoodIn wsX1_init (wsX9_init) := ggX1_init_X9_init
theorem dX1_init_0 : decode cX1_init 0 = .ok (.aload_n 0, 1) := by decide +kernel
theorem dX1_init_1 : decode cX1_init 1 = .ok (.invokespecial 3, 3) := by decide +kernel
theorem dX1_init_4 : decode cX1_init 4 = .ok (.aload_n 0, 1) := by decide +kernel
theorem dX1_init_5 : decode cX1_init 5 = .ok (.new 9, 3) := by decide +kernel
theorem dX1_init_8 : decode cX1_init 8 = .ok (.dup, 1) := by decide +kernel
theorem dX1_init_9 : decode cX1_init 9 = .ok (.bipush 17, 2) := by decide +kernel
theorem dX1_init_11 : decode cX1_init 11 = .ok (.bipush 6, 2) := by decide +kernel
theorem dX1_init_13 : decode cX1_init 13 = .ok (.invokespecial 11, 3) := by decide +kernel
theorem dX1_init_16 : decode cX1_init 16 = .ok (.putfield 14, 3) := by decide +kernel
theorem dX1_init_19 : decode cX1_init 19 = .ok (.return_, 1) := by decide +kernel
set_option maxRecDepth 20000 in
theorem ggX1_collect_X2_isScreened : GoodIn wsX1_collect wsX2_isScreened := goodIn_r _ [9, 10, 11, 12, 13, 14, 15, 16, 17, 18, 19, 20, 21, 22, 23, 24, 25, 26, 27, 28, 29, 30, 31, 32, 33, 34, 35, 36, 37, 38, 105, 106, 107, 108, 109, 110, 111, 112, 101, 102, 103, 104] (by decide +kernel) (by decide +kernel)
set_option maxRecDepth 20000 in
theorem gX1_collect_X2_isScreened : GoodIn wsX1_collect (wsV RX1 24 RX2 yX2_isScreened wsX2_isScreened) := goodIn_app (goodIn_of _ (by decide +kernel)) ggX1_collect_X2_isScreened
set_option maxRecDepth 20000 in
theorem ggX1_collect_X2_wayTo : GoodIn wsX1_collect wsX2_wayTo := goodIn_r _ [42, 10, 13, 14, 15, 16, 17, 18, 19, 20, 21, 43, 44, 24, 45, 46, 105, 106, 107, 108, 109, 110, 111, 112, 101, 102, 103, 104] (by decide +kernel) (by decide +kernel)
set_option maxRecDepth 20000 in
theorem gX1_collect_X2_wayTo : GoodIn wsX1_collect (wsV RX1 30 RX2 yX2_wayTo wsX2_wayTo) := goodIn_app (goodIn_of _ (by decide +kernel)) ggX1_collect_X2_wayTo
set_option maxRecDepth 20000 in
theorem ggX1_collect_X1_append : GoodIn wsX1_collect wsX1_append := goodIn_r _ [51, 3, 1, 52, 53, 24, 54, 55, 56, 57, 58, 8, 59, 60, 61, 62, 63, 16, 64, 18, 13, 14, 15, 17, 19, 20, 21, 65, 66, 67, 68, 69, 70, 71, 72, 73, 74, 75, 76, 77, 78, 79, 80, 81, 82, 83, 100, 105, 106, 107, 108, 109, 110, 111, 112, 101, 102, 103, 104] (by decide +kernel) (by decide +kernel)
set_option maxRecDepth 20000 in
theorem gX1_collect_X1_append : GoodIn wsX1_collect (wsV RX1 35 RX1 yX1_append wsX1_append) := goodIn_app (goodIn_of _ (by decide +kernel)) ggX1_collect_X1_append
set_option maxRecDepth 20000 in
theorem ggX1_collect_X2_mirroredX : GoodIn wsX1_collect wsX2_mirroredX := goodIn_r _ [87, 60, 13, 14, 15, 16, 17, 18, 19, 20, 21, 105, 106, 107, 108, 109, 110, 111, 112, 101, 102, 103, 104] (by decide +kernel) (by decide +kernel)
set_option maxRecDepth 20000 in
theorem gX1_collect_X2_mirroredX : GoodIn wsX1_collect (wsV RX1 42 RX2 yX2_mirroredX wsX2_mirroredX) := goodIn_app (goodIn_of _ (by decide +kernel)) ggX1_collect_X2_mirroredX
set_option maxRecDepth 20000 in
theorem ggX1_collect_X2_mirroredY : GoodIn wsX1_collect wsX2_mirroredY := goodIn_r _ [91, 60, 13, 14, 15, 16, 17, 18, 19, 20, 21, 105, 106, 107, 108, 109, 110, 111, 112, 101, 102, 103, 104] (by decide +kernel) (by decide +kernel)
set_option maxRecDepth 20000 in
theorem gX1_collect_X2_mirroredY : GoodIn wsX1_collect (wsV RX1 46 RX2 yX2_mirroredY wsX2_mirroredY) := goodIn_app (goodIn_of _ (by decide +kernel)) ggX1_collect_X2_mirroredY
set_option maxRecDepth 20000 in
theorem ggX1_collect_X2_setting : GoodIn wsX1_collect wsX2_setting := goodIn_r _ [95, 83, 13, 14, 15, 16, 17, 18, 19, 20, 21, 105, 106, 107, 108, 109, 110, 111, 112, 101, 102, 103, 104] (by decide +kernel) (by decide +kernel)
set_option maxRecDepth 20000 in
theorem gX1_collect_X2_setting : GoodIn wsX1_collect (wsV RX1 49 RX2 yX2_setting wsX2_setting) := goodIn_app (goodIn_of _ (by decide +kernel)) ggX1_collect_X2_setting
set_option maxRecDepth 20000 in
theorem ggX1_collect_X1_collectSecondOrder : GoodIn wsX1_collect wsX1_collectSecondOrder := goodIn_r _ [99, 4, 2, 84, 85, 86, 8, 87, 60, 13, 14, 15, 16, 17, 18, 19, 20, 21, 88, 89, 90, 91, 39, 40, 41, 42, 10, 43, 44, 24, 45, 46, 47, 48, 49, 50, 51, 3, 1, 52, 53, 54, 55, 56, 57, 58, 59, 61, 62, 63, 64, 65, 66, 67, 68, 69, 70, 71, 72, 73, 74, 75, 76, 77, 78, 79, 80, 81, 82, 83, 105, 106, 107, 108, 109, 110, 111, 112, 101, 102, 103, 104, 100] (by decide +kernel) (by decide +kernel)
set_option maxRecDepth 20000 in
theorem gX1_collect_X1_collectSecondOrder : GoodIn wsX1_collect (wsV RX1 53 RX1 yX1_collectSecondOrder wsX1_collectSecondOrder) := goodIn_app (goodIn_of _ (by decide +kernel)) ggX1_collect_X1_collectSecondOrder
theorem dX1_collect_0 : decode cX1_collect 0 = .ok (.aload_n 0, 1) := by decide +kernel
theorem dX1_collect_1 : decode cX1_collect 1 = .ok (.getfield 14, 3) := by decide +kernel
theorem dX1_collect_4 : decode cX1_collect 4 = .ok (.iconst 0, 1) := by decide +kernel
theorem dX1_collect_5 : decode cX1_collect 5 = .ok (.putfield 20, 3) := by decide +kernel
theorem dX1_collect_8 : decode cX1_collect 8 = .ok (.aload_n 1, 1) := by decide +kernel
theorem dX1_collect_9 : decode cX1_collect 9 = .ok (.iload_n 2, 1) := by decide +kernel
theorem dX1_collect_10 : decode cX1_collect 10 = .ok (.iload_n 3, 1) := by decide +kernel
theorem dX1_collect_11 : decode cX1_collect 11 = .ok (.iload 4, 2) := by decide +kernel
theorem dX1_collect_13 : decode cX1_collect 13 = .ok (.invokevirtual 24, 3) := by decide +kernel
theorem dX1_collect_16 : decode cX1_collect 16 = .ok (.ifCond .ne 20, 3) := by decide +kernel
theorem dX1_collect_19 : decode cX1_collect 19 = .ok (.aload_n 0, 1) := by decide +kernel
theorem dX1_collect_20 : decode cX1_collect 20 = .ok (.aload_n 1, 1) := by decide +kernel
theorem dX1_collect_21 : decode cX1_collect 21 = .ok (.aload_n 1, 1) := by decide +kernel
theorem dX1_collect_22 : decode cX1_collect 22 = .ok (.iload 4, 2) := by decide +kernel
theorem dX1_collect_24 : decode cX1_collect 24 = .ok (.iload_n 2, 1) := by decide +kernel
theorem dX1_collect_25 : decode cX1_collect 25 = .ok (.iload_n 3, 1) := by decide +kernel
theorem dX1_collect_26 : decode cX1_collect 26 = .ok (.invokevirtual 30, 3) := by decide +kernel
theorem dX1_collect_29 : decode cX1_collect 29 = .ok (.ldc 34, 2) := by decide +kernel
theorem dX1_collect_31 : decode cX1_collect 31 = .ok (.ldc 34, 2) := by decide +kernel
theorem dX1_collect_33 : decode cX1_collect 33 = .ok (.invokevirtual 35, 3) := by decide +kernel
theorem dX1_collect_36 : decode cX1_collect 36 = .ok (.iconst 0, 1) := by decide +kernel
theorem dX1_collect_37 : decode cX1_collect 37 = .ok (.istore 5, 2) := by decide +kernel
theorem dX1_collect_39 : decode cX1_collect 39 = .ok (.iload 5, 2) := by decide +kernel
theorem dX1_collect_41 : decode cX1_collect 41 = .ok (.aload_n 1, 1) := by decide +kernel
theorem dX1_collect_42 : decode cX1_collect 42 = .ok (.getfield 39, 3) := by decide +kernel
theorem dX1_collect_45 : decode cX1_collect 45 = .ok (.getfield 20, 3) := by decide +kernel
theorem dX1_collect_48 : decode cX1_collect 48 = .ok (.if_icmp .ge 38, 3) := by decide +kernel
theorem dX1_collect_51 : decode cX1_collect 51 = .ok (.aload_n 0, 1) := by decide +kernel
theorem dX1_collect_52 : decode cX1_collect 52 = .ok (.aload_n 1, 1) := by decide +kernel
theorem dX1_collect_53 : decode cX1_collect 53 = .ok (.aload_n 1, 1) := by decide +kernel
theorem dX1_collect_54 : decode cX1_collect 54 = .ok (.iload 4, 2) := by decide +kernel
theorem dX1_collect_56 : decode cX1_collect 56 = .ok (.aload_n 1, 1) := by decide +kernel
theorem dX1_collect_57 : decode cX1_collect 57 = .ok (.iload 5, 2) := by decide +kernel
theorem dX1_collect_59 : decode cX1_collect 59 = .ok (.iload_n 2, 1) := by decide +kernel
theorem dX1_collect_60 : decode cX1_collect 60 = .ok (.invokevirtual 42, 3) := by decide +kernel
theorem dX1_collect_63 : decode cX1_collect 63 = .ok (.aload_n 1, 1) := by decide +kernel
theorem dX1_collect_64 : decode cX1_collect 64 = .ok (.iload 5, 2) := by decide +kernel
theorem dX1_collect_66 : decode cX1_collect 66 = .ok (.iload_n 3, 1) := by decide +kernel
theorem dX1_collect_67 : decode cX1_collect 67 = .ok (.invokevirtual 46, 3) := by decide +kernel
theorem dX1_collect_70 : decode cX1_collect 70 = .ok (.invokevirtual 30, 3) := by decide +kernel
theorem dX1_collect_73 : decode cX1_collect 73 = .ok (.iload 5, 2) := by decide +kernel
theorem dX1_collect_75 : decode cX1_collect 75 = .ok (.ldc 34, 2) := by decide +kernel
theorem dX1_collect_77 : decode cX1_collect 77 = .ok (.invokevirtual 35, 3) := by decide +kernel
theorem dX1_collect_80 : decode cX1_collect 80 = .ok (.iinc 5 1, 3) := by decide +kernel
theorem dX1_collect_83 : decode cX1_collect 83 = .ok (.goto (-44), 3) := by decide +kernel
theorem dX1_collect_86 : decode cX1_collect 86 = .ok (.aload_n 1, 1) := by decide +kernel
theorem dX1_collect_87 : decode cX1_collect 87 = .ok (.iconst 1, 1) := by decide +kernel
theorem dX1_collect_88 : decode cX1_collect 88 = .ok (.invokevirtual 49, 3) := by decide +kernel
theorem dX1_collect_91 : decode cX1_collect 91 = .ok (.iconst 2, 1) := by decide +kernel
theorem dX1_collect_92 : decode cX1_collect 92 = .ok (.if_icmp .ne 12, 3) := by decide +kernel
theorem dX1_collect_95 : decode cX1_collect 95 = .ok (.aload_n 0, 1) := by decide +kernel
theorem dX1_collect_96 : decode cX1_collect 96 = .ok (.aload_n 1, 1) := by decide +kernel
theorem dX1_collect_97 : decode cX1_collect 97 = .ok (.iload_n 2, 1) := by decide +kernel
theorem dX1_collect_98 : decode cX1_collect 98 = .ok (.iload_n 3, 1) := by decide +kernel
theorem dX1_collect_99 : decode cX1_collect 99 = .ok (.iload 4, 2) := by decide +kernel
theorem dX1_collect_101 : decode cX1_collect 101 = .ok (.invokevirtual 53, 3) := by decide +kernel
theorem dX1_collect_104 : decode cX1_collect 104 = .ok (.return_, 1) := by decide +kernel
set_option maxRecDepth 20000 in
theorem ggX1_collectSecondOrder_X2_mirroredX : GoodIn wsX1_collectSecondOrder wsX2_mirroredX := goodIn_r _ [7, 8, 9, 10, 11, 12, 13, 14, 15, 16, 17, 70, 71, 72, 73, 74, 75, 76, 77, 78, 79, 80, 81] (by decide +kernel) (by decide +kernel)
set_option maxRecDepth 20000 in
theorem gX1_collectSecondOrder_X2_mirroredX : GoodIn wsX1_collectSecondOrder (wsV RX1 42 RX2 yX2_mirroredX wsX2_mirroredX) := goodIn_app (goodIn_of _ (by decide +kernel)) ggX1_collectSecondOrder_X2_mirroredX
set_option maxRecDepth 20000 in
theorem ggX1_collectSecondOrder_X2_mirroredY : GoodIn wsX1_collectSecondOrder wsX2_mirroredY := goodIn_r _ [21, 8, 9, 10, 11, 12, 13, 14, 15, 16, 17, 70, 71, 72, 73, 74, 75, 76, 77, 78, 79, 80, 81] (by decide +kernel) (by decide +kernel)
set_option maxRecDepth 20000 in
theorem gX1_collectSecondOrder_X2_mirroredY : GoodIn wsX1_collectSecondOrder (wsV RX1 46 RX2 yX2_mirroredY wsX2_mirroredY) := goodIn_app (goodIn_of _ (by decide +kernel)) ggX1_collectSecondOrder_X2_mirroredY
set_option maxRecDepth 20000 in
theorem ggX1_collectSecondOrder_X2_wayTo : GoodIn wsX1_collectSecondOrder wsX2_wayTo := goodIn_r _ [25, 26, 9, 10, 11, 12, 13, 14, 15, 16, 17, 27, 28, 29, 30, 31, 70, 71, 72, 73, 74, 75, 76, 77, 78, 79, 80, 81] (by decide +kernel) (by decide +kernel)
set_option maxRecDepth 20000 in
theorem gX1_collectSecondOrder_X2_wayTo : GoodIn wsX1_collectSecondOrder (wsV RX1 30 RX2 yX2_wayTo wsX2_wayTo) := goodIn_app (goodIn_of _ (by decide +kernel)) ggX1_collectSecondOrder_X2_wayTo
set_option maxRecDepth 20000 in
theorem ggX1_collectSecondOrder_X1_append : GoodIn wsX1_collectSecondOrder wsX1_append := goodIn_r _ [36, 37, 38, 39, 40, 29, 41, 42, 43, 44, 45, 6, 46, 8, 47, 48, 49, 12, 50, 14, 9, 10, 11, 13, 15, 16, 17, 51, 52, 53, 54, 55, 56, 57, 58, 59, 60, 61, 62, 63, 64, 65, 66, 67, 68, 69, 82, 70, 71, 72, 73, 74, 75, 76, 77, 78, 79, 80, 81] (by decide +kernel) (by decide +kernel)
set_option maxRecDepth 20000 in
theorem gX1_collectSecondOrder_X1_append : GoodIn wsX1_collectSecondOrder (wsV RX1 35 RX1 yX1_append wsX1_append) := goodIn_app (goodIn_of _ (by decide +kernel)) ggX1_collectSecondOrder_X1_append
theorem dX1_collectSecondOrder_0 : decode cX1_collectSecondOrder 0 = .ok (.iconst 0, 1) := by decide +kernel
theorem dX1_collectSecondOrder_1 : decode cX1_collectSecondOrder 1 = .ok (.istore 5, 2) := by decide +kernel
theorem dX1_collectSecondOrder_3 : decode cX1_collectSecondOrder 3 = .ok (.iload 5, 2) := by decide +kernel
theorem dX1_collectSecondOrder_5 : decode cX1_collectSecondOrder 5 = .ok (.aload_n 1, 1) := by decide +kernel
theorem dX1_collectSecondOrder_6 : decode cX1_collectSecondOrder 6 = .ok (.getfield 39, 3) := by decide +kernel
theorem dX1_collectSecondOrder_9 : decode cX1_collectSecondOrder 9 = .ok (.getfield 20, 3) := by decide +kernel
theorem dX1_collectSecondOrder_12 : decode cX1_collectSecondOrder 12 = .ok (.if_icmp .ge 94, 3) := by decide +kernel
theorem dX1_collectSecondOrder_15 : decode cX1_collectSecondOrder 15 = .ok (.aload_n 1, 1) := by decide +kernel
theorem dX1_collectSecondOrder_16 : decode cX1_collectSecondOrder 16 = .ok (.iload 5, 2) := by decide +kernel
theorem dX1_collectSecondOrder_18 : decode cX1_collectSecondOrder 18 = .ok (.iload_n 2, 1) := by decide +kernel
theorem dX1_collectSecondOrder_19 : decode cX1_collectSecondOrder 19 = .ok (.invokevirtual 42, 3) := by decide +kernel
theorem dX1_collectSecondOrder_22 : decode cX1_collectSecondOrder 22 = .ok (.istore 6, 2) := by decide +kernel
theorem dX1_collectSecondOrder_24 : decode cX1_collectSecondOrder 24 = .ok (.aload_n 1, 1) := by decide +kernel
theorem dX1_collectSecondOrder_25 : decode cX1_collectSecondOrder 25 = .ok (.iload 5, 2) := by decide +kernel
theorem dX1_collectSecondOrder_27 : decode cX1_collectSecondOrder 27 = .ok (.iload_n 3, 1) := by decide +kernel
theorem dX1_collectSecondOrder_28 : decode cX1_collectSecondOrder 28 = .ok (.invokevirtual 46, 3) := by decide +kernel
theorem dX1_collectSecondOrder_31 : decode cX1_collectSecondOrder 31 = .ok (.istore 7, 2) := by decide +kernel
theorem dX1_collectSecondOrder_33 : decode cX1_collectSecondOrder 33 = .ok (.iconst 0, 1) := by decide +kernel
theorem dX1_collectSecondOrder_34 : decode cX1_collectSecondOrder 34 = .ok (.istore 8, 2) := by decide +kernel
theorem dX1_collectSecondOrder_36 : decode cX1_collectSecondOrder 36 = .ok (.iload 8, 2) := by decide +kernel
theorem dX1_collectSecondOrder_38 : decode cX1_collectSecondOrder 38 = .ok (.aload_n 1, 1) := by decide +kernel
theorem dX1_collectSecondOrder_39 : decode cX1_collectSecondOrder 39 = .ok (.getfield 39, 3) := by decide +kernel
theorem dX1_collectSecondOrder_42 : decode cX1_collectSecondOrder 42 = .ok (.getfield 20, 3) := by decide +kernel
theorem dX1_collectSecondOrder_45 : decode cX1_collectSecondOrder 45 = .ok (.if_icmp .ge 55, 3) := by decide +kernel
theorem dX1_collectSecondOrder_48 : decode cX1_collectSecondOrder 48 = .ok (.iload 8, 2) := by decide +kernel
theorem dX1_collectSecondOrder_50 : decode cX1_collectSecondOrder 50 = .ok (.iload 5, 2) := by decide +kernel
theorem dX1_collectSecondOrder_52 : decode cX1_collectSecondOrder 52 = .ok (.if_icmp .eq 42, 3) := by decide +kernel
theorem dX1_collectSecondOrder_55 : decode cX1_collectSecondOrder 55 = .ok (.aload_n 1, 1) := by decide +kernel
theorem dX1_collectSecondOrder_56 : decode cX1_collectSecondOrder 56 = .ok (.iload 8, 2) := by decide +kernel
theorem dX1_collectSecondOrder_58 : decode cX1_collectSecondOrder 58 = .ok (.iload 6, 2) := by decide +kernel
theorem dX1_collectSecondOrder_60 : decode cX1_collectSecondOrder 60 = .ok (.invokevirtual 42, 3) := by decide +kernel
theorem dX1_collectSecondOrder_63 : decode cX1_collectSecondOrder 63 = .ok (.istore 9, 2) := by decide +kernel
theorem dX1_collectSecondOrder_65 : decode cX1_collectSecondOrder 65 = .ok (.aload_n 1, 1) := by decide +kernel
theorem dX1_collectSecondOrder_66 : decode cX1_collectSecondOrder 66 = .ok (.iload 8, 2) := by decide +kernel
theorem dX1_collectSecondOrder_68 : decode cX1_collectSecondOrder 68 = .ok (.iload 7, 2) := by decide +kernel
theorem dX1_collectSecondOrder_70 : decode cX1_collectSecondOrder 70 = .ok (.invokevirtual 46, 3) := by decide +kernel
theorem dX1_collectSecondOrder_73 : decode cX1_collectSecondOrder 73 = .ok (.istore 10, 2) := by decide +kernel
theorem dX1_collectSecondOrder_75 : decode cX1_collectSecondOrder 75 = .ok (.aload_n 0, 1) := by decide +kernel
theorem dX1_collectSecondOrder_76 : decode cX1_collectSecondOrder 76 = .ok (.aload_n 1, 1) := by decide +kernel
theorem dX1_collectSecondOrder_77 : decode cX1_collectSecondOrder 77 = .ok (.aload_n 1, 1) := by decide +kernel
theorem dX1_collectSecondOrder_78 : decode cX1_collectSecondOrder 78 = .ok (.iload 4, 2) := by decide +kernel
theorem dX1_collectSecondOrder_80 : decode cX1_collectSecondOrder 80 = .ok (.iload 9, 2) := by decide +kernel
theorem dX1_collectSecondOrder_82 : decode cX1_collectSecondOrder 82 = .ok (.iload 10, 2) := by decide +kernel
theorem dX1_collectSecondOrder_84 : decode cX1_collectSecondOrder 84 = .ok (.invokevirtual 30, 3) := by decide +kernel
theorem dX1_collectSecondOrder_87 : decode cX1_collectSecondOrder 87 = .ok (.iload 5, 2) := by decide +kernel
theorem dX1_collectSecondOrder_89 : decode cX1_collectSecondOrder 89 = .ok (.iload 8, 2) := by decide +kernel
theorem dX1_collectSecondOrder_91 : decode cX1_collectSecondOrder 91 = .ok (.invokevirtual 35, 3) := by decide +kernel
theorem dX1_collectSecondOrder_94 : decode cX1_collectSecondOrder 94 = .ok (.iinc 8 1, 3) := by decide +kernel
theorem dX1_collectSecondOrder_97 : decode cX1_collectSecondOrder 97 = .ok (.goto (-61), 3) := by decide +kernel
theorem dX1_collectSecondOrder_100 : decode cX1_collectSecondOrder 100 = .ok (.iinc 5 1, 3) := by decide +kernel
theorem dX1_collectSecondOrder_103 : decode cX1_collectSecondOrder 103 = .ok (.goto (-100), 3) := by decide +kernel
theorem dX1_collectSecondOrder_106 : decode cX1_collectSecondOrder 106 = .ok (.return_, 1) := by decide +kernel
set_option maxRecDepth 20000 in
theorem ggX1_append_X7_strength : GoodIn wsX1_append wsX7_strength := goodIn_r _ [6, 7] (by decide +kernel) (by decide +kernel)
set_option maxRecDepth 20000 in
theorem gX1_append_X7_strength : GoodIn wsX1_append (va_wsS RX1 56 yX7_strength wsX7_strength) := goodIn_app (goodIn_of _ (by decide +kernel)) ggX1_append_X7_strength
set_option maxRecDepth 20000 in
theorem ggX1_append_X2_strengthBehind : GoodIn wsX1_append wsX2_strengthBehind := goodIn_r _ [12, 13, 14, 15, 16, 17, 18, 19, 20, 21, 22, 23, 24, 25, 26, 47, 48, 49, 50, 51, 52, 53, 54, 55, 56, 57, 58] (by decide +kernel) (by decide +kernel)
set_option maxRecDepth 20000 in
theorem gX1_append_X2_strengthBehind : GoodIn wsX1_append (wsV RX1 61 RX2 yX2_strengthBehind wsX2_strengthBehind) := goodIn_app (goodIn_of _ (by decide +kernel)) ggX1_append_X2_strengthBehind
set_option maxRecDepth 20000 in
theorem ggX1_append_X9_addRow : GoodIn wsX1_append wsX9_addRow := goodIn_r _ [30, 25, 19, 24, 31, 32, 33, 17, 34, 35, 36, 37, 38, 39, 26, 55, 56, 57, 58] (by decide +kernel) (by decide +kernel)
set_option maxRecDepth 20000 in
theorem gX1_append_X9_addRow : GoodIn wsX1_append (wsV RX1 64 RX9 yX9_addRow wsX9_addRow) := goodIn_app (goodIn_of _ (by decide +kernel)) ggX1_append_X9_addRow
set_option maxRecDepth 20000 in
theorem ggX1_append_X9_put : GoodIn wsX1_append wsX9_put := goodIn_r _ [39, 19, 24, 26, 55, 56, 57, 58] (by decide +kernel) (by decide +kernel)
set_option maxRecDepth 20000 in
theorem gX1_append_X9_put : GoodIn wsX1_append (wsV RX1 68 RX9 yX9_put wsX9_put) := goodIn_app (goodIn_of _ (by decide +kernel)) ggX1_append_X9_put
set_option maxRecDepth 20000 in
theorem ggX1_append_X2_timeFor : GoodIn wsX1_append wsX2_timeFor := goodIn_r _ [44, 45, 20, 21, 22, 17, 23, 19, 24, 25, 26, 47, 48, 49, 50, 51, 52, 53, 54, 55, 56, 57, 58] (by decide +kernel) (by decide +kernel)
set_option maxRecDepth 20000 in
theorem gX1_append_X2_timeFor : GoodIn wsX1_append (wsV RX1 72 RX2 yX2_timeFor wsX2_timeFor) := goodIn_app (goodIn_of _ (by decide +kernel)) ggX1_append_X2_timeFor
theorem dX1_append_0 : decode cX1_append 0 = .ok (.aload_n 1, 1) := by decide +kernel
theorem dX1_append_1 : decode cX1_append 1 = .ok (.iload_n 3, 1) := by decide +kernel
theorem dX1_append_2 : decode cX1_append 2 = .ok (.iload_n 2, 1) := by decide +kernel
theorem dX1_append_3 : decode cX1_append 3 = .ok (.invokestatic 56, 3) := by decide +kernel
theorem dX1_append_6 : decode cX1_append 6 = .ok (.invokevirtual 61, 3) := by decide +kernel
theorem dX1_append_9 : decode cX1_append 9 = .ok (.istore 5, 2) := by decide +kernel
theorem dX1_append_11 : decode cX1_append 11 = .ok (.iload_n 3, 1) := by decide +kernel
theorem dX1_append_12 : decode cX1_append 12 = .ok (.ldc 34, 2) := by decide +kernel
theorem dX1_append_14 : decode cX1_append 14 = .ok (.if_icmp .ne 7, 3) := by decide +kernel
theorem dX1_append_17 : decode cX1_append 17 = .ok (.iconst 0, 1) := by decide +kernel
theorem dX1_append_18 : decode cX1_append 18 = .ok (.goto 4, 3) := by decide +kernel
theorem dX1_append_21 : decode cX1_append 21 = .ok (.iconst 1, 1) := by decide +kernel
theorem dX1_append_22 : decode cX1_append 22 = .ok (.iload 4, 2) := by decide +kernel
theorem dX1_append_24 : decode cX1_append 24 = .ok (.ldc 34, 2) := by decide +kernel
theorem dX1_append_26 : decode cX1_append 26 = .ok (.if_icmp .ne 7, 3) := by decide +kernel
theorem dX1_append_29 : decode cX1_append 29 = .ok (.iconst 0, 1) := by decide +kernel
theorem dX1_append_30 : decode cX1_append 30 = .ok (.goto 4, 3) := by decide +kernel
theorem dX1_append_33 : decode cX1_append 33 = .ok (.iconst 1, 1) := by decide +kernel
theorem dX1_append_34 : decode cX1_append 34 = .ok (.iadd, 1) := by decide +kernel
theorem dX1_append_35 : decode cX1_append 35 = .ok (.istore 6, 2) := by decide +kernel
theorem dX1_append_37 : decode cX1_append 37 = .ok (.aload_n 0, 1) := by decide +kernel
theorem dX1_append_38 : decode cX1_append 38 = .ok (.getfield 14, 3) := by decide +kernel
theorem dX1_append_41 : decode cX1_append 41 = .ok (.invokevirtual 64, 3) := by decide +kernel
theorem dX1_append_44 : decode cX1_append 44 = .ok (.istore 7, 2) := by decide +kernel
theorem dX1_append_46 : decode cX1_append 46 = .ok (.aload_n 0, 1) := by decide +kernel
theorem dX1_append_47 : decode cX1_append 47 = .ok (.getfield 14, 3) := by decide +kernel
theorem dX1_append_50 : decode cX1_append 50 = .ok (.iload 7, 2) := by decide +kernel
theorem dX1_append_52 : decode cX1_append 52 = .ok (.iconst 0, 1) := by decide +kernel
theorem dX1_append_53 : decode cX1_append 53 = .ok (.iload 6, 2) := by decide +kernel
theorem dX1_append_55 : decode cX1_append 55 = .ok (.invokevirtual 68, 3) := by decide +kernel
theorem dX1_append_58 : decode cX1_append 58 = .ok (.aload_n 0, 1) := by decide +kernel
theorem dX1_append_59 : decode cX1_append 59 = .ok (.getfield 14, 3) := by decide +kernel
theorem dX1_append_62 : decode cX1_append 62 = .ok (.iload 7, 2) := by decide +kernel
theorem dX1_append_64 : decode cX1_append 64 = .ok (.iconst 1, 1) := by decide +kernel
theorem dX1_append_65 : decode cX1_append 65 = .ok (.iload_n 2, 1) := by decide +kernel
theorem dX1_append_66 : decode cX1_append 66 = .ok (.invokevirtual 68, 3) := by decide +kernel
theorem dX1_append_69 : decode cX1_append 69 = .ok (.aload_n 0, 1) := by decide +kernel
theorem dX1_append_70 : decode cX1_append 70 = .ok (.getfield 14, 3) := by decide +kernel
theorem dX1_append_73 : decode cX1_append 73 = .ok (.iload 7, 2) := by decide +kernel
theorem dX1_append_75 : decode cX1_append 75 = .ok (.iconst 2, 1) := by decide +kernel
theorem dX1_append_76 : decode cX1_append 76 = .ok (.aload_n 1, 1) := by decide +kernel
theorem dX1_append_77 : decode cX1_append 77 = .ok (.iload_n 2, 1) := by decide +kernel
theorem dX1_append_78 : decode cX1_append 78 = .ok (.invokevirtual 72, 3) := by decide +kernel
theorem dX1_append_81 : decode cX1_append 81 = .ok (.invokevirtual 68, 3) := by decide +kernel
theorem dX1_append_84 : decode cX1_append 84 = .ok (.aload_n 0, 1) := by decide +kernel
theorem dX1_append_85 : decode cX1_append 85 = .ok (.getfield 14, 3) := by decide +kernel
theorem dX1_append_88 : decode cX1_append 88 = .ok (.iload 7, 2) := by decide +kernel
theorem dX1_append_90 : decode cX1_append 90 = .ok (.iconst 3, 1) := by decide +kernel
theorem dX1_append_91 : decode cX1_append 91 = .ok (.aload_n 1, 1) := by decide +kernel
theorem dX1_append_92 : decode cX1_append 92 = .ok (.iload 4, 2) := by decide +kernel
theorem dX1_append_94 : decode cX1_append 94 = .ok (.iload 5, 2) := by decide +kernel
theorem dX1_append_96 : decode cX1_append 96 = .ok (.invokevirtual 61, 3) := by decide +kernel
theorem dX1_append_99 : decode cX1_append 99 = .ok (.invokevirtual 68, 3) := by decide +kernel
theorem dX1_append_102 : decode cX1_append 102 = .ok (.aload_n 0, 1) := by decide +kernel
theorem dX1_append_103 : decode cX1_append 103 = .ok (.getfield 14, 3) := by decide +kernel
theorem dX1_append_106 : decode cX1_append 106 = .ok (.iload 7, 2) := by decide +kernel
theorem dX1_append_108 : decode cX1_append 108 = .ok (.iconst 4, 1) := by decide +kernel
theorem dX1_append_109 : decode cX1_append 109 = .ok (.iload_n 3, 1) := by decide +kernel
theorem dX1_append_110 : decode cX1_append 110 = .ok (.invokevirtual 68, 3) := by decide +kernel
theorem dX1_append_113 : decode cX1_append 113 = .ok (.aload_n 0, 1) := by decide +kernel
theorem dX1_append_114 : decode cX1_append 114 = .ok (.getfield 14, 3) := by decide +kernel
theorem dX1_append_117 : decode cX1_append 117 = .ok (.iload 7, 2) := by decide +kernel
theorem dX1_append_119 : decode cX1_append 119 = .ok (.iconst 5, 1) := by decide +kernel
theorem dX1_append_120 : decode cX1_append 120 = .ok (.iload 4, 2) := by decide +kernel
theorem dX1_append_122 : decode cX1_append 122 = .ok (.invokevirtual 68, 3) := by decide +kernel
theorem dX1_append_125 : decode cX1_append 125 = .ok (.return_, 1) := by decide +kernel
set_option maxRecDepth 20000 in
theorem ggX2_init_X9_init : GoodIn wsX2_init wsX9_init := goodIn_r _ [17, 18, 2, 3, 19, 20, 21, 22, 23, 24, 25, 26, 27, 50, 51, 52, 53] (by decide +kernel) (by decide +kernel)
set_option maxRecDepth 20000 in
theorem gX2_init_X9_init : GoodIn wsX2_init (wsX9_init) := ggX2_init_X9_init
set_option maxRecDepth 20000 in
theorem ggX2_init_X9_addRow : GoodIn wsX2_init wsX9_addRow := goodIn_r _ [31, 32, 19, 21, 33, 34, 35, 10, 36, 20, 37, 38, 39, 40, 27, 50, 51, 52, 53] (by decide +kernel) (by decide +kernel)
set_option maxRecDepth 20000 in
theorem gX2_init_X9_addRow : GoodIn wsX2_init (wsV RX2 46 RX9 yX9_addRow wsX9_addRow) := goodIn_app (goodIn_of _ (by decide +kernel)) ggX2_init_X9_addRow
set_option maxRecDepth 20000 in
theorem ggX2_init_X9_put : GoodIn wsX2_init wsX9_put := goodIn_r _ [40, 19, 21, 27, 50, 51, 52, 53] (by decide +kernel) (by decide +kernel)
set_option maxRecDepth 20000 in
theorem gX2_init_X9_put : GoodIn wsX2_init (wsV RX2 53 RX9 yX9_put wsX9_put) := goodIn_app (goodIn_of _ (by decide +kernel)) ggX2_init_X9_put
theorem dX2_init_0 : decode cX2_init 0 = .ok (.aload_n 0, 1) := by decide +kernel
theorem dX2_init_1 : decode cX2_init 1 = .ok (.invokespecial 3, 3) := by decide +kernel
theorem dX2_init_4 : decode cX2_init 4 = .ok (.aload_n 0, 1) := by decide +kernel
theorem dX2_init_5 : decode cX2_init 5 = .ok (.bipush 10, 2) := by decide +kernel
theorem dX2_init_7 : decode cX2_init 7 = .ok (.putfield 9, 3) := by decide +kernel
theorem dX2_init_10 : decode cX2_init 10 = .ok (.aload_n 0, 1) := by decide +kernel
theorem dX2_init_11 : decode cX2_init 11 = .ok (.bipush 8, 2) := by decide +kernel
theorem dX2_init_13 : decode cX2_init 13 = .ok (.putfield 15, 3) := by decide +kernel
theorem dX2_init_16 : decode cX2_init 16 = .ok (.aload_n 0, 1) := by decide +kernel
theorem dX2_init_17 : decode cX2_init 17 = .ok (.iconst 0, 1) := by decide +kernel
theorem dX2_init_18 : decode cX2_init 18 = .ok (.putfield 18, 3) := by decide +kernel
theorem dX2_init_21 : decode cX2_init 21 = .ok (.aload_n 0, 1) := by decide +kernel
theorem dX2_init_22 : decode cX2_init 22 = .ok (.iconst 1, 1) := by decide +kernel
theorem dX2_init_23 : decode cX2_init 23 = .ok (.putfield 21, 3) := by decide +kernel
theorem dX2_init_26 : decode cX2_init 26 = .ok (.aload_n 0, 1) := by decide +kernel
theorem dX2_init_27 : decode cX2_init 27 = .ok (.new 24, 3) := by decide +kernel
theorem dX2_init_30 : decode cX2_init 30 = .ok (.dup, 1) := by decide +kernel
theorem dX2_init_31 : decode cX2_init 31 = .ok (.bipush 8, 2) := by decide +kernel
theorem dX2_init_33 : decode cX2_init 33 = .ok (.bipush 9, 2) := by decide +kernel
theorem dX2_init_35 : decode cX2_init 35 = .ok (.invokespecial 26, 3) := by decide +kernel
theorem dX2_init_38 : decode cX2_init 38 = .ok (.putfield 29, 3) := by decide +kernel
theorem dX2_init_41 : decode cX2_init 41 = .ok (.aload_n 0, 1) := by decide +kernel
theorem dX2_init_42 : decode cX2_init 42 = .ok (.new 24, 3) := by decide +kernel
theorem dX2_init_45 : decode cX2_init 45 = .ok (.dup, 1) := by decide +kernel
theorem dX2_init_46 : decode cX2_init 46 = .ok (.iconst 4, 1) := by decide +kernel
theorem dX2_init_47 : decode cX2_init 47 = .ok (.getstatic 33, 3) := by decide +kernel
theorem dX2_init_50 : decode cX2_init 50 = .ok (.iconst 1, 1) := by decide +kernel
theorem dX2_init_51 : decode cX2_init 51 = .ok (.iaload, 1) := by decide +kernel
theorem dX2_init_52 : decode cX2_init 52 = .ok (.invokespecial 26, 3) := by decide +kernel
theorem dX2_init_55 : decode cX2_init 55 = .ok (.putfield 37, 3) := by decide +kernel
theorem dX2_init_58 : decode cX2_init 58 = .ok (.aload_n 0, 1) := by decide +kernel
theorem dX2_init_59 : decode cX2_init 59 = .ok (.new 24, 3) := by decide +kernel
theorem dX2_init_62 : decode cX2_init 62 = .ok (.dup, 1) := by decide +kernel
theorem dX2_init_63 : decode cX2_init 63 = .ok (.iconst 4, 1) := by decide +kernel
theorem dX2_init_64 : decode cX2_init 64 = .ok (.getstatic 33, 3) := by decide +kernel
theorem dX2_init_67 : decode cX2_init 67 = .ok (.iconst 2, 1) := by decide +kernel
theorem dX2_init_68 : decode cX2_init 68 = .ok (.iaload, 1) := by decide +kernel
theorem dX2_init_69 : decode cX2_init 69 = .ok (.invokespecial 26, 3) := by decide +kernel
theorem dX2_init_72 : decode cX2_init 72 = .ok (.putfield 40, 3) := by decide +kernel
theorem dX2_init_75 : decode cX2_init 75 = .ok (.aload_n 0, 1) := by decide +kernel
theorem dX2_init_76 : decode cX2_init 76 = .ok (.new 24, 3) := by decide +kernel
theorem dX2_init_79 : decode cX2_init 79 = .ok (.dup, 1) := by decide +kernel
theorem dX2_init_80 : decode cX2_init 80 = .ok (.bipush 7, 2) := by decide +kernel
theorem dX2_init_82 : decode cX2_init 82 = .ok (.getstatic 33, 3) := by decide +kernel
theorem dX2_init_85 : decode cX2_init 85 = .ok (.iconst 3, 1) := by decide +kernel
theorem dX2_init_86 : decode cX2_init 86 = .ok (.iaload, 1) := by decide +kernel
theorem dX2_init_87 : decode cX2_init 87 = .ok (.invokespecial 26, 3) := by decide +kernel
theorem dX2_init_90 : decode cX2_init 90 = .ok (.putfield 43, 3) := by decide +kernel
theorem dX2_init_93 : decode cX2_init 93 = .ok (.iconst 0, 1) := by decide +kernel
theorem dX2_init_94 : decode cX2_init 94 = .ok (.istore_n 1, 1) := by decide +kernel
theorem dX2_init_95 : decode cX2_init 95 = .ok (.iload_n 1, 1) := by decide +kernel
theorem dX2_init_96 : decode cX2_init 96 = .ok (.bipush 7, 2) := by decide +kernel
theorem dX2_init_98 : decode cX2_init 98 = .ok (.if_icmp .ge 29, 3) := by decide +kernel
theorem dX2_init_101 : decode cX2_init 101 = .ok (.aload_n 0, 1) := by decide +kernel
theorem dX2_init_102 : decode cX2_init 102 = .ok (.getfield 43, 3) := by decide +kernel
theorem dX2_init_105 : decode cX2_init 105 = .ok (.aload_n 0, 1) := by decide +kernel
theorem dX2_init_106 : decode cX2_init 106 = .ok (.getfield 43, 3) := by decide +kernel
theorem dX2_init_109 : decode cX2_init 109 = .ok (.invokevirtual 46, 3) := by decide +kernel
theorem dX2_init_112 : decode cX2_init 112 = .ok (.iconst 0, 1) := by decide +kernel
theorem dX2_init_113 : decode cX2_init 113 = .ok (.getstatic 50, 3) := by decide +kernel
theorem dX2_init_116 : decode cX2_init 116 = .ok (.iload_n 1, 1) := by decide +kernel
theorem dX2_init_117 : decode cX2_init 117 = .ok (.iaload, 1) := by decide +kernel
theorem dX2_init_118 : decode cX2_init 118 = .ok (.invokevirtual 53, 3) := by decide +kernel
theorem dX2_init_121 : decode cX2_init 121 = .ok (.iinc 1 1, 3) := by decide +kernel
theorem dX2_init_124 : decode cX2_init 124 = .ok (.goto (-29), 3) := by decide +kernel
theorem dX2_init_127 : decode cX2_init 127 = .ok (.return_, 1) := by decide +kernel
set_option maxRecDepth 20000 in
theorem ggX2_copyFrom_X9_copyFrom : GoodIn wsX2_copyFrom wsX9_copyFrom := goodIn_r _ [13, 14, 15, 16, 17, 18, 19, 20, 21, 22, 23, 32, 33, 34, 35] (by decide +kernel) (by decide +kernel)
set_option maxRecDepth 20000 in
theorem gX2_copyFrom_X9_copyFrom : GoodIn wsX2_copyFrom (wsV RX2 57 RX9 yX9_copyFrom wsX9_copyFrom) := goodIn_app (goodIn_of _ (by decide +kernel)) ggX2_copyFrom_X9_copyFrom
theorem dX2_copyFrom_0 : decode cX2_copyFrom 0 = .ok (.aload_n 0, 1) := by decide +kernel
theorem dX2_copyFrom_1 : decode cX2_copyFrom 1 = .ok (.aload_n 1, 1) := by decide +kernel
theorem dX2_copyFrom_2 : decode cX2_copyFrom 2 = .ok (.getfield 9, 3) := by decide +kernel
theorem dX2_copyFrom_5 : decode cX2_copyFrom 5 = .ok (.putfield 9, 3) := by decide +kernel
theorem dX2_copyFrom_8 : decode cX2_copyFrom 8 = .ok (.aload_n 0, 1) := by decide +kernel
theorem dX2_copyFrom_9 : decode cX2_copyFrom 9 = .ok (.aload_n 1, 1) := by decide +kernel
theorem dX2_copyFrom_10 : decode cX2_copyFrom 10 = .ok (.getfield 15, 3) := by decide +kernel
theorem dX2_copyFrom_13 : decode cX2_copyFrom 13 = .ok (.putfield 15, 3) := by decide +kernel
theorem dX2_copyFrom_16 : decode cX2_copyFrom 16 = .ok (.aload_n 0, 1) := by decide +kernel
theorem dX2_copyFrom_17 : decode cX2_copyFrom 17 = .ok (.aload_n 1, 1) := by decide +kernel
theorem dX2_copyFrom_18 : decode cX2_copyFrom 18 = .ok (.getfield 18, 3) := by decide +kernel
theorem dX2_copyFrom_21 : decode cX2_copyFrom 21 = .ok (.putfield 18, 3) := by decide +kernel
theorem dX2_copyFrom_24 : decode cX2_copyFrom 24 = .ok (.aload_n 0, 1) := by decide +kernel
theorem dX2_copyFrom_25 : decode cX2_copyFrom 25 = .ok (.aload_n 1, 1) := by decide +kernel
theorem dX2_copyFrom_26 : decode cX2_copyFrom 26 = .ok (.getfield 21, 3) := by decide +kernel
theorem dX2_copyFrom_29 : decode cX2_copyFrom 29 = .ok (.putfield 21, 3) := by decide +kernel
theorem dX2_copyFrom_32 : decode cX2_copyFrom 32 = .ok (.aload_n 0, 1) := by decide +kernel
theorem dX2_copyFrom_33 : decode cX2_copyFrom 33 = .ok (.getfield 29, 3) := by decide +kernel
theorem dX2_copyFrom_36 : decode cX2_copyFrom 36 = .ok (.aload_n 1, 1) := by decide +kernel
theorem dX2_copyFrom_37 : decode cX2_copyFrom 37 = .ok (.getfield 29, 3) := by decide +kernel
theorem dX2_copyFrom_40 : decode cX2_copyFrom 40 = .ok (.invokevirtual 57, 3) := by decide +kernel
theorem dX2_copyFrom_43 : decode cX2_copyFrom 43 = .ok (.aload_n 0, 1) := by decide +kernel
theorem dX2_copyFrom_44 : decode cX2_copyFrom 44 = .ok (.getfield 37, 3) := by decide +kernel
theorem dX2_copyFrom_47 : decode cX2_copyFrom 47 = .ok (.aload_n 1, 1) := by decide +kernel
theorem dX2_copyFrom_48 : decode cX2_copyFrom 48 = .ok (.getfield 37, 3) := by decide +kernel
theorem dX2_copyFrom_51 : decode cX2_copyFrom 51 = .ok (.invokevirtual 57, 3) := by decide +kernel
theorem dX2_copyFrom_54 : decode cX2_copyFrom 54 = .ok (.aload_n 0, 1) := by decide +kernel
theorem dX2_copyFrom_55 : decode cX2_copyFrom 55 = .ok (.getfield 40, 3) := by decide +kernel
theorem dX2_copyFrom_58 : decode cX2_copyFrom 58 = .ok (.aload_n 1, 1) := by decide +kernel
theorem dX2_copyFrom_59 : decode cX2_copyFrom 59 = .ok (.getfield 40, 3) := by decide +kernel
theorem dX2_copyFrom_62 : decode cX2_copyFrom 62 = .ok (.invokevirtual 57, 3) := by decide +kernel
theorem dX2_copyFrom_65 : decode cX2_copyFrom 65 = .ok (.aload_n 0, 1) := by decide +kernel
theorem dX2_copyFrom_66 : decode cX2_copyFrom 66 = .ok (.getfield 43, 3) := by decide +kernel
theorem dX2_copyFrom_69 : decode cX2_copyFrom 69 = .ok (.aload_n 1, 1) := by decide +kernel
theorem dX2_copyFrom_70 : decode cX2_copyFrom 70 = .ok (.getfield 43, 3) := by decide +kernel
theorem dX2_copyFrom_73 : decode cX2_copyFrom 73 = .ok (.invokevirtual 57, 3) := by decide +kernel
theorem dX2_copyFrom_76 : decode cX2_copyFrom 76 = .ok (.return_, 1) := by decide +kernel
theorem dX2_tableOf_0 : decode cX2_tableOf 0 = .ok (.iload_n 1, 1) := by decide +kernel
theorem dX2_tableOf_1 : decode cX2_tableOf 1 = .ok (.tableswitch 42 0 2 #[27, 32, 37], 27) := by decide +kernel
theorem dX2_tableOf_28 : decode cX2_tableOf 28 = .ok (.aload_n 0, 1) := by decide +kernel
theorem dX2_tableOf_29 : decode cX2_tableOf 29 = .ok (.getfield 29, 3) := by decide +kernel
theorem dX2_tableOf_32 : decode cX2_tableOf 32 = .ok (.areturn, 1) := by decide +kernel
theorem dX2_tableOf_33 : decode cX2_tableOf 33 = .ok (.aload_n 0, 1) := by decide +kernel
theorem dX2_tableOf_34 : decode cX2_tableOf 34 = .ok (.getfield 37, 3) := by decide +kernel
theorem dX2_tableOf_37 : decode cX2_tableOf 37 = .ok (.areturn, 1) := by decide +kernel
theorem dX2_tableOf_38 : decode cX2_tableOf 38 = .ok (.aload_n 0, 1) := by decide +kernel
theorem dX2_tableOf_39 : decode cX2_tableOf 39 = .ok (.getfield 40, 3) := by decide +kernel
theorem dX2_tableOf_42 : decode cX2_tableOf 42 = .ok (.areturn, 1) := by decide +kernel
theorem dX2_tableOf_43 : decode cX2_tableOf 43 = .ok (.aload_n 0, 1) := by decide +kernel
theorem dX2_tableOf_44 : decode cX2_tableOf 44 = .ok (.getfield 43, 3) := by decide +kernel
theorem dX2_tableOf_47 : decode cX2_tableOf 47 = .ok (.areturn, 1) := by decide +kernel
set_option maxRecDepth 20000 in
theorem ggX2_setting_X9_at : GoodIn wsX2_setting wsX9_at := goodIn_r _ [6, 7, 8, 9, 10, 19, 20, 21, 22] (by decide +kernel) (by decide +kernel)
set_option maxRecDepth 20000 in
theorem gX2_setting_X9_at : GoodIn wsX2_setting (wsV RX2 61 RX9 yX9_at wsX9_at) := goodIn_app (goodIn_of _ (by decide +kernel)) ggX2_setting_X9_at
theorem dX2_setting_0 : decode cX2_setting 0 = .ok (.aload_n 0, 1) := by decide +kernel
theorem dX2_setting_1 : decode cX2_setting 1 = .ok (.getfield 43, 3) := by decide +kernel
theorem dX2_setting_4 : decode cX2_setting 4 = .ok (.iload_n 1, 1) := by decide +kernel
theorem dX2_setting_5 : decode cX2_setting 5 = .ok (.iconst 0, 1) := by decide +kernel
theorem dX2_setting_6 : decode cX2_setting 6 = .ok (.invokevirtual 61, 3) := by decide +kernel
theorem dX2_setting_9 : decode cX2_setting 9 = .ok (.ireturn, 1) := by decide +kernel
set_option maxRecDepth 20000 in
theorem ggX2_refusalOfField_X11_isBetween : GoodIn wsX2_refusalOfField wsX11_isBetween := goodIn_r _ [3] (by decide +kernel) (by decide +kernel)
set_option maxRecDepth 20000 in
theorem gX2_refusalOfField_X11_isBetween_n65 : GoodIn wsX2_refusalOfField (wsX11_isBetween) := ggX2_refusalOfField_X11_isBetween
theorem dX2_refusalOfField_0 : decode cX2_refusalOfField 0 = .ok (.iload_n 1, 1) := by decide +kernel
theorem dX2_refusalOfField_1 : decode cX2_refusalOfField 1 = .ok (.iconst 2, 1) := by decide +kernel
theorem dX2_refusalOfField_2 : decode cX2_refusalOfField 2 = .ok (.bipush 20, 2) := by decide +kernel
theorem dX2_refusalOfField_4 : decode cX2_refusalOfField 4 = .ok (.invokestatic 65, 3) := by decide +kernel
theorem dX2_refusalOfField_7 : decode cX2_refusalOfField 7 = .ok (.ifCond .eq 17, 3) := by decide +kernel
theorem dX2_refusalOfField_10 : decode cX2_refusalOfField 10 = .ok (.iload_n 2, 1) := by decide +kernel
theorem dX2_refusalOfField_11 : decode cX2_refusalOfField 11 = .ok (.iconst 2, 1) := by decide +kernel
theorem dX2_refusalOfField_12 : decode cX2_refusalOfField 12 = .ok (.bipush 20, 2) := by decide +kernel
theorem dX2_refusalOfField_14 : decode cX2_refusalOfField 14 = .ok (.invokestatic 65, 3) := by decide +kernel
theorem dX2_refusalOfField_17 : decode cX2_refusalOfField 17 = .ok (.ifCond .eq 7, 3) := by decide +kernel
theorem dX2_refusalOfField_20 : decode cX2_refusalOfField 20 = .ok (.iconst 0, 1) := by decide +kernel
theorem dX2_refusalOfField_21 : decode cX2_refusalOfField 21 = .ok (.goto 4, 3) := by decide +kernel
theorem dX2_refusalOfField_24 : decode cX2_refusalOfField 24 = .ok (.iconst 2, 1) := by decide +kernel
theorem dX2_refusalOfField_25 : decode cX2_refusalOfField 25 = .ok (.ireturn, 1) := by decide +kernel
theorem dX2_startField_0 : decode cX2_startField 0 = .ok (.aload_n 0, 1) := by decide +kernel
theorem dX2_startField_1 : decode cX2_startField 1 = .ok (.getfield 18, 3) := by decide +kernel
theorem dX2_startField_4 : decode cX2_startField 4 = .ok (.istore_n 3, 1) := by decide +kernel
theorem dX2_startField_5 : decode cX2_startField 5 = .ok (.aload_n 0, 1) := by decide +kernel
theorem dX2_startField_6 : decode cX2_startField 6 = .ok (.iload_n 1, 1) := by decide +kernel
theorem dX2_startField_7 : decode cX2_startField 7 = .ok (.putfield 9, 3) := by decide +kernel
theorem dX2_startField_10 : decode cX2_startField 10 = .ok (.aload_n 0, 1) := by decide +kernel
theorem dX2_startField_11 : decode cX2_startField 11 = .ok (.iload_n 2, 1) := by decide +kernel
theorem dX2_startField_12 : decode cX2_startField 12 = .ok (.putfield 15, 3) := by decide +kernel
theorem dX2_startField_15 : decode cX2_startField 15 = .ok (.aload_n 0, 1) := by decide +kernel
theorem dX2_startField_16 : decode cX2_startField 16 = .ok (.iconst 0, 1) := by decide +kernel
theorem dX2_startField_17 : decode cX2_startField 17 = .ok (.putfield 18, 3) := by decide +kernel
theorem dX2_startField_20 : decode cX2_startField 20 = .ok (.aload_n 0, 1) := by decide +kernel
theorem dX2_startField_21 : decode cX2_startField 21 = .ok (.getfield 29, 3) := by decide +kernel
theorem dX2_startField_24 : decode cX2_startField 24 = .ok (.iconst 0, 1) := by decide +kernel
theorem dX2_startField_25 : decode cX2_startField 25 = .ok (.putfield 69, 3) := by decide +kernel
theorem dX2_startField_28 : decode cX2_startField 28 = .ok (.aload_n 0, 1) := by decide +kernel
theorem dX2_startField_29 : decode cX2_startField 29 = .ok (.getfield 37, 3) := by decide +kernel
theorem dX2_startField_32 : decode cX2_startField 32 = .ok (.iconst 0, 1) := by decide +kernel
theorem dX2_startField_33 : decode cX2_startField 33 = .ok (.putfield 69, 3) := by decide +kernel
theorem dX2_startField_36 : decode cX2_startField 36 = .ok (.aload_n 0, 1) := by decide +kernel
theorem dX2_startField_37 : decode cX2_startField 37 = .ok (.getfield 40, 3) := by decide +kernel
theorem dX2_startField_40 : decode cX2_startField 40 = .ok (.iconst 0, 1) := by decide +kernel
theorem dX2_startField_41 : decode cX2_startField 41 = .ok (.putfield 69, 3) := by decide +kernel
theorem dX2_startField_44 : decode cX2_startField 44 = .ok (.iload_n 3, 1) := by decide +kernel
theorem dX2_startField_45 : decode cX2_startField 45 = .ok (.ireturn, 1) := by decide +kernel
set_option maxRecDepth 20000 in
theorem ggX2_refusalOfMicrophone_X11_isBetween : GoodIn wsX2_refusalOfMicrophone wsX11_isBetween := goodIn_r _ [4] (by decide +kernel) (by decide +kernel)
set_option maxRecDepth 20000 in
theorem gX2_refusalOfMicrophone_X11_isBetween_n65 : GoodIn wsX2_refusalOfMicrophone (wsX11_isBetween) := ggX2_refusalOfMicrophone_X11_isBetween
set_option maxRecDepth 20000 in
theorem ggX2_refusalOfMicrophone_X9_isFull : GoodIn wsX2_refusalOfMicrophone wsX9_isFull := goodIn_r _ [9, 10, 11, 20, 21, 22, 23] (by decide +kernel) (by decide +kernel)
set_option maxRecDepth 20000 in
theorem gX2_refusalOfMicrophone_X9_isFull : GoodIn wsX2_refusalOfMicrophone (wsV RX2 72 RX9 yX9_isFull wsX9_isFull) := goodIn_app (goodIn_of _ (by decide +kernel)) ggX2_refusalOfMicrophone_X9_isFull
theorem dX2_refusalOfMicrophone_0 : decode cX2_refusalOfMicrophone 0 = .ok (.iload_n 1, 1) := by decide +kernel
theorem dX2_refusalOfMicrophone_1 : decode cX2_refusalOfMicrophone 1 = .ok (.sipush (-500), 3) := by decide +kernel
theorem dX2_refusalOfMicrophone_4 : decode cX2_refusalOfMicrophone 4 = .ok (.sipush 2500, 3) := by decide +kernel
theorem dX2_refusalOfMicrophone_7 : decode cX2_refusalOfMicrophone 7 = .ok (.invokestatic 65, 3) := by decide +kernel
theorem dX2_refusalOfMicrophone_10 : decode cX2_refusalOfMicrophone 10 = .ok (.ifCond .eq 16, 3) := by decide +kernel
theorem dX2_refusalOfMicrophone_13 : decode cX2_refusalOfMicrophone 13 = .ok (.iload_n 2, 1) := by decide +kernel
theorem dX2_refusalOfMicrophone_14 : decode cX2_refusalOfMicrophone 14 = .ok (.sipush (-500), 3) := by decide +kernel
theorem dX2_refusalOfMicrophone_17 : decode cX2_refusalOfMicrophone 17 = .ok (.sipush 2500, 3) := by decide +kernel
theorem dX2_refusalOfMicrophone_20 : decode cX2_refusalOfMicrophone 20 = .ok (.invokestatic 65, 3) := by decide +kernel
theorem dX2_refusalOfMicrophone_23 : decode cX2_refusalOfMicrophone 23 = .ok (.ifCond .ne 5, 3) := by decide +kernel
theorem dX2_refusalOfMicrophone_26 : decode cX2_refusalOfMicrophone 26 = .ok (.iconst 2, 1) := by decide +kernel
theorem dX2_refusalOfMicrophone_27 : decode cX2_refusalOfMicrophone 27 = .ok (.ireturn, 1) := by decide +kernel
theorem dX2_refusalOfMicrophone_28 : decode cX2_refusalOfMicrophone 28 = .ok (.aload_n 0, 1) := by decide +kernel
theorem dX2_refusalOfMicrophone_29 : decode cX2_refusalOfMicrophone 29 = .ok (.getfield 29, 3) := by decide +kernel
theorem dX2_refusalOfMicrophone_32 : decode cX2_refusalOfMicrophone 32 = .ok (.invokevirtual 72, 3) := by decide +kernel
theorem dX2_refusalOfMicrophone_35 : decode cX2_refusalOfMicrophone 35 = .ok (.ifCond .eq 7, 3) := by decide +kernel
theorem dX2_refusalOfMicrophone_38 : decode cX2_refusalOfMicrophone 38 = .ok (.iconst 3, 1) := by decide +kernel
theorem dX2_refusalOfMicrophone_39 : decode cX2_refusalOfMicrophone 39 = .ok (.goto 4, 3) := by decide +kernel
theorem dX2_refusalOfMicrophone_42 : decode cX2_refusalOfMicrophone 42 = .ok (.iconst 0, 1) := by decide +kernel
theorem dX2_refusalOfMicrophone_43 : decode cX2_refusalOfMicrophone 43 = .ok (.ireturn, 1) := by decide +kernel
set_option maxRecDepth 20000 in
theorem ggX2_placeMicrophone_X9_addRow : GoodIn wsX2_placeMicrophone wsX9_addRow := goodIn_r _ [6, 7, 8, 9, 10, 11, 12, 5, 13, 14, 15, 16, 17, 18, 19, 29, 30, 31, 32] (by decide +kernel) (by decide +kernel)
set_option maxRecDepth 20000 in
theorem gX2_placeMicrophone_X9_addRow : GoodIn wsX2_placeMicrophone (wsV RX2 46 RX9 yX9_addRow wsX9_addRow) := goodIn_app (goodIn_of _ (by decide +kernel)) ggX2_placeMicrophone_X9_addRow
set_option maxRecDepth 20000 in
theorem ggX2_placeMicrophone_X9_put : GoodIn wsX2_placeMicrophone wsX9_put := goodIn_r _ [18, 8, 9, 19, 29, 30, 31, 32] (by decide +kernel) (by decide +kernel)
set_option maxRecDepth 20000 in
theorem gX2_placeMicrophone_X9_put : GoodIn wsX2_placeMicrophone (wsV RX2 53 RX9 yX9_put wsX9_put) := goodIn_app (goodIn_of _ (by decide +kernel)) ggX2_placeMicrophone_X9_put
theorem dX2_placeMicrophone_0 : decode cX2_placeMicrophone 0 = .ok (.aload_n 0, 1) := by decide +kernel
theorem dX2_placeMicrophone_1 : decode cX2_placeMicrophone 1 = .ok (.getfield 29, 3) := by decide +kernel
theorem dX2_placeMicrophone_4 : decode cX2_placeMicrophone 4 = .ok (.invokevirtual 46, 3) := by decide +kernel
theorem dX2_placeMicrophone_7 : decode cX2_placeMicrophone 7 = .ok (.istore_n 3, 1) := by decide +kernel
theorem dX2_placeMicrophone_8 : decode cX2_placeMicrophone 8 = .ok (.aload_n 0, 1) := by decide +kernel
theorem dX2_placeMicrophone_9 : decode cX2_placeMicrophone 9 = .ok (.getfield 29, 3) := by decide +kernel
theorem dX2_placeMicrophone_12 : decode cX2_placeMicrophone 12 = .ok (.iload_n 3, 1) := by decide +kernel
theorem dX2_placeMicrophone_13 : decode cX2_placeMicrophone 13 = .ok (.iconst 0, 1) := by decide +kernel
theorem dX2_placeMicrophone_14 : decode cX2_placeMicrophone 14 = .ok (.iload_n 1, 1) := by decide +kernel
theorem dX2_placeMicrophone_15 : decode cX2_placeMicrophone 15 = .ok (.invokevirtual 53, 3) := by decide +kernel
theorem dX2_placeMicrophone_18 : decode cX2_placeMicrophone 18 = .ok (.aload_n 0, 1) := by decide +kernel
theorem dX2_placeMicrophone_19 : decode cX2_placeMicrophone 19 = .ok (.getfield 29, 3) := by decide +kernel
theorem dX2_placeMicrophone_22 : decode cX2_placeMicrophone 22 = .ok (.iload_n 3, 1) := by decide +kernel
theorem dX2_placeMicrophone_23 : decode cX2_placeMicrophone 23 = .ok (.iconst 1, 1) := by decide +kernel
theorem dX2_placeMicrophone_24 : decode cX2_placeMicrophone 24 = .ok (.iload_n 2, 1) := by decide +kernel
theorem dX2_placeMicrophone_25 : decode cX2_placeMicrophone 25 = .ok (.invokevirtual 53, 3) := by decide +kernel
theorem dX2_placeMicrophone_28 : decode cX2_placeMicrophone 28 = .ok (.aload_n 0, 1) := by decide +kernel
theorem dX2_placeMicrophone_29 : decode cX2_placeMicrophone 29 = .ok (.getfield 29, 3) := by decide +kernel
theorem dX2_placeMicrophone_32 : decode cX2_placeMicrophone 32 = .ok (.iload_n 3, 1) := by decide +kernel
theorem dX2_placeMicrophone_33 : decode cX2_placeMicrophone 33 = .ok (.iconst 2, 1) := by decide +kernel
theorem dX2_placeMicrophone_34 : decode cX2_placeMicrophone 34 = .ok (.iconst 0, 1) := by decide +kernel
theorem dX2_placeMicrophone_35 : decode cX2_placeMicrophone 35 = .ok (.invokevirtual 53, 3) := by decide +kernel
theorem dX2_placeMicrophone_38 : decode cX2_placeMicrophone 38 = .ok (.aload_n 0, 1) := by decide +kernel
theorem dX2_placeMicrophone_39 : decode cX2_placeMicrophone 39 = .ok (.getfield 29, 3) := by decide +kernel
theorem dX2_placeMicrophone_42 : decode cX2_placeMicrophone 42 = .ok (.iload_n 3, 1) := by decide +kernel
theorem dX2_placeMicrophone_43 : decode cX2_placeMicrophone 43 = .ok (.iconst 3, 1) := by decide +kernel
theorem dX2_placeMicrophone_44 : decode cX2_placeMicrophone 44 = .ok (.iconst 0, 1) := by decide +kernel
theorem dX2_placeMicrophone_45 : decode cX2_placeMicrophone 45 = .ok (.invokevirtual 53, 3) := by decide +kernel
theorem dX2_placeMicrophone_48 : decode cX2_placeMicrophone 48 = .ok (.iload_n 3, 1) := by decide +kernel
theorem dX2_placeMicrophone_49 : decode cX2_placeMicrophone 49 = .ok (.ireturn, 1) := by decide +kernel
set_option maxRecDepth 20000 in
theorem ggX2_refusalOfWall_X11_isBetween : GoodIn wsX2_refusalOfWall wsX11_isBetween := goodIn_r _ [4] (by decide +kernel) (by decide +kernel)
set_option maxRecDepth 20000 in
theorem gX2_refusalOfWall_X11_isBetween_n65 : GoodIn wsX2_refusalOfWall (wsX11_isBetween) := ggX2_refusalOfWall_X11_isBetween
set_option maxRecDepth 20000 in
theorem ggX2_refusalOfWall_X9_isFull : GoodIn wsX2_refusalOfWall wsX9_isFull := goodIn_r _ [9, 10, 11, 20, 21, 22, 23] (by decide +kernel) (by decide +kernel)
set_option maxRecDepth 20000 in
theorem gX2_refusalOfWall_X9_isFull : GoodIn wsX2_refusalOfWall (wsV RX2 72 RX9 yX9_isFull wsX9_isFull) := goodIn_app (goodIn_of _ (by decide +kernel)) ggX2_refusalOfWall_X9_isFull
theorem dX2_refusalOfWall_0 : decode cX2_refusalOfWall 0 = .ok (.iload_n 1, 1) := by decide +kernel
theorem dX2_refusalOfWall_1 : decode cX2_refusalOfWall 1 = .ok (.iconst 0, 1) := by decide +kernel
theorem dX2_refusalOfWall_2 : decode cX2_refusalOfWall 2 = .ok (.iconst 1, 1) := by decide +kernel
theorem dX2_refusalOfWall_3 : decode cX2_refusalOfWall 3 = .ok (.invokestatic 65, 3) := by decide +kernel
theorem dX2_refusalOfWall_6 : decode cX2_refusalOfWall 6 = .ok (.ifCond .eq 26, 3) := by decide +kernel
theorem dX2_refusalOfWall_9 : decode cX2_refusalOfWall 9 = .ok (.iload_n 2, 1) := by decide +kernel
theorem dX2_refusalOfWall_10 : decode cX2_refusalOfWall 10 = .ok (.sipush (-1000), 3) := by decide +kernel
theorem dX2_refusalOfWall_13 : decode cX2_refusalOfWall 13 = .ok (.sipush 3000, 3) := by decide +kernel
theorem dX2_refusalOfWall_16 : decode cX2_refusalOfWall 16 = .ok (.invokestatic 65, 3) := by decide +kernel
theorem dX2_refusalOfWall_19 : decode cX2_refusalOfWall 19 = .ok (.ifCond .eq 13, 3) := by decide +kernel
theorem dX2_refusalOfWall_22 : decode cX2_refusalOfWall 22 = .ok (.iload_n 3, 1) := by decide +kernel
theorem dX2_refusalOfWall_23 : decode cX2_refusalOfWall 23 = .ok (.iconst 0, 1) := by decide +kernel
theorem dX2_refusalOfWall_24 : decode cX2_refusalOfWall 24 = .ok (.bipush 100, 2) := by decide +kernel
theorem dX2_refusalOfWall_26 : decode cX2_refusalOfWall 26 = .ok (.invokestatic 65, 3) := by decide +kernel
theorem dX2_refusalOfWall_29 : decode cX2_refusalOfWall 29 = .ok (.ifCond .ne 5, 3) := by decide +kernel
theorem dX2_refusalOfWall_32 : decode cX2_refusalOfWall 32 = .ok (.iconst 2, 1) := by decide +kernel
theorem dX2_refusalOfWall_33 : decode cX2_refusalOfWall 33 = .ok (.ireturn, 1) := by decide +kernel
theorem dX2_refusalOfWall_34 : decode cX2_refusalOfWall 34 = .ok (.aload_n 0, 1) := by decide +kernel
theorem dX2_refusalOfWall_35 : decode cX2_refusalOfWall 35 = .ok (.getfield 37, 3) := by decide +kernel
theorem dX2_refusalOfWall_38 : decode cX2_refusalOfWall 38 = .ok (.invokevirtual 72, 3) := by decide +kernel
theorem dX2_refusalOfWall_41 : decode cX2_refusalOfWall 41 = .ok (.ifCond .eq 7, 3) := by decide +kernel
theorem dX2_refusalOfWall_44 : decode cX2_refusalOfWall 44 = .ok (.iconst 3, 1) := by decide +kernel
theorem dX2_refusalOfWall_45 : decode cX2_refusalOfWall 45 = .ok (.goto 4, 3) := by decide +kernel
theorem dX2_refusalOfWall_48 : decode cX2_refusalOfWall 48 = .ok (.iconst 0, 1) := by decide +kernel
theorem dX2_refusalOfWall_49 : decode cX2_refusalOfWall 49 = .ok (.ireturn, 1) := by decide +kernel
set_option maxRecDepth 20000 in
theorem ggX2_placeWall_X9_addRow : GoodIn wsX2_placeWall wsX9_addRow := goodIn_r _ [6, 7, 8, 9, 10, 11, 12, 5, 13, 14, 15, 16, 17, 18, 19, 29, 30, 31, 32] (by decide +kernel) (by decide +kernel)
set_option maxRecDepth 20000 in
theorem gX2_placeWall_X9_addRow : GoodIn wsX2_placeWall (wsV RX2 46 RX9 yX9_addRow wsX9_addRow) := goodIn_app (goodIn_of _ (by decide +kernel)) ggX2_placeWall_X9_addRow
set_option maxRecDepth 20000 in
theorem ggX2_placeWall_X9_put : GoodIn wsX2_placeWall wsX9_put := goodIn_r _ [18, 8, 9, 19, 29, 30, 31, 32] (by decide +kernel) (by decide +kernel)
set_option maxRecDepth 20000 in
theorem gX2_placeWall_X9_put : GoodIn wsX2_placeWall (wsV RX2 53 RX9 yX9_put wsX9_put) := goodIn_app (goodIn_of _ (by decide +kernel)) ggX2_placeWall_X9_put
theorem dX2_placeWall_0 : decode cX2_placeWall 0 = .ok (.aload_n 0, 1) := by decide +kernel
theorem dX2_placeWall_1 : decode cX2_placeWall 1 = .ok (.getfield 37, 3) := by decide +kernel
theorem dX2_placeWall_4 : decode cX2_placeWall 4 = .ok (.invokevirtual 46, 3) := by decide +kernel
theorem dX2_placeWall_7 : decode cX2_placeWall 7 = .ok (.istore 4, 2) := by decide +kernel
theorem dX2_placeWall_9 : decode cX2_placeWall 9 = .ok (.aload_n 0, 1) := by decide +kernel
theorem dX2_placeWall_10 : decode cX2_placeWall 10 = .ok (.getfield 37, 3) := by decide +kernel
theorem dX2_placeWall_13 : decode cX2_placeWall 13 = .ok (.iload 4, 2) := by decide +kernel
theorem dX2_placeWall_15 : decode cX2_placeWall 15 = .ok (.iconst 0, 1) := by decide +kernel
theorem dX2_placeWall_16 : decode cX2_placeWall 16 = .ok (.iload_n 1, 1) := by decide +kernel
theorem dX2_placeWall_17 : decode cX2_placeWall 17 = .ok (.invokevirtual 53, 3) := by decide +kernel
theorem dX2_placeWall_20 : decode cX2_placeWall 20 = .ok (.aload_n 0, 1) := by decide +kernel
theorem dX2_placeWall_21 : decode cX2_placeWall 21 = .ok (.getfield 37, 3) := by decide +kernel
theorem dX2_placeWall_24 : decode cX2_placeWall 24 = .ok (.iload 4, 2) := by decide +kernel
theorem dX2_placeWall_26 : decode cX2_placeWall 26 = .ok (.iconst 1, 1) := by decide +kernel
theorem dX2_placeWall_27 : decode cX2_placeWall 27 = .ok (.iload_n 2, 1) := by decide +kernel
theorem dX2_placeWall_28 : decode cX2_placeWall 28 = .ok (.invokevirtual 53, 3) := by decide +kernel
theorem dX2_placeWall_31 : decode cX2_placeWall 31 = .ok (.aload_n 0, 1) := by decide +kernel
theorem dX2_placeWall_32 : decode cX2_placeWall 32 = .ok (.getfield 37, 3) := by decide +kernel
theorem dX2_placeWall_35 : decode cX2_placeWall 35 = .ok (.iload 4, 2) := by decide +kernel
theorem dX2_placeWall_37 : decode cX2_placeWall 37 = .ok (.iconst 2, 1) := by decide +kernel
theorem dX2_placeWall_38 : decode cX2_placeWall 38 = .ok (.iload_n 3, 1) := by decide +kernel
theorem dX2_placeWall_39 : decode cX2_placeWall 39 = .ok (.invokevirtual 53, 3) := by decide +kernel
theorem dX2_placeWall_42 : decode cX2_placeWall 42 = .ok (.iload 4, 2) := by decide +kernel
theorem dX2_placeWall_44 : decode cX2_placeWall 44 = .ok (.ireturn, 1) := by decide +kernel
set_option maxRecDepth 20000 in
theorem ggX2_refusalOfScreen_X11_isBetween : GoodIn wsX2_refusalOfScreen wsX11_isBetween := goodIn_r _ [4] (by decide +kernel) (by decide +kernel)
set_option maxRecDepth 20000 in
theorem gX2_refusalOfScreen_X11_isBetween_n65 : GoodIn wsX2_refusalOfScreen (wsX11_isBetween) := ggX2_refusalOfScreen_X11_isBetween
set_option maxRecDepth 20000 in
theorem ggX2_refusalOfScreen_X9_isFull : GoodIn wsX2_refusalOfScreen wsX9_isFull := goodIn_r _ [9, 10, 11, 20, 21, 22, 23] (by decide +kernel) (by decide +kernel)
set_option maxRecDepth 20000 in
theorem gX2_refusalOfScreen_X9_isFull : GoodIn wsX2_refusalOfScreen (wsV RX2 72 RX9 yX9_isFull wsX9_isFull) := goodIn_app (goodIn_of _ (by decide +kernel)) ggX2_refusalOfScreen_X9_isFull
theorem dX2_refusalOfScreen_0 : decode cX2_refusalOfScreen 0 = .ok (.iload_n 1, 1) := by decide +kernel
theorem dX2_refusalOfScreen_1 : decode cX2_refusalOfScreen 1 = .ok (.iconst 0, 1) := by decide +kernel
theorem dX2_refusalOfScreen_2 : decode cX2_refusalOfScreen 2 = .ok (.iconst 1, 1) := by decide +kernel
theorem dX2_refusalOfScreen_3 : decode cX2_refusalOfScreen 3 = .ok (.invokestatic 65, 3) := by decide +kernel
theorem dX2_refusalOfScreen_6 : decode cX2_refusalOfScreen 6 = .ok (.ifCond .eq 16, 3) := by decide +kernel
theorem dX2_refusalOfScreen_9 : decode cX2_refusalOfScreen 9 = .ok (.iload_n 2, 1) := by decide +kernel
theorem dX2_refusalOfScreen_10 : decode cX2_refusalOfScreen 10 = .ok (.sipush (-1000), 3) := by decide +kernel
theorem dX2_refusalOfScreen_13 : decode cX2_refusalOfScreen 13 = .ok (.sipush 3000, 3) := by decide +kernel
theorem dX2_refusalOfScreen_16 : decode cX2_refusalOfScreen 16 = .ok (.invokestatic 65, 3) := by decide +kernel
theorem dX2_refusalOfScreen_19 : decode cX2_refusalOfScreen 19 = .ok (.ifCond .ne 5, 3) := by decide +kernel
theorem dX2_refusalOfScreen_22 : decode cX2_refusalOfScreen 22 = .ok (.iconst 2, 1) := by decide +kernel
theorem dX2_refusalOfScreen_23 : decode cX2_refusalOfScreen 23 = .ok (.ireturn, 1) := by decide +kernel
theorem dX2_refusalOfScreen_24 : decode cX2_refusalOfScreen 24 = .ok (.iload_n 3, 1) := by decide +kernel
theorem dX2_refusalOfScreen_25 : decode cX2_refusalOfScreen 25 = .ok (.sipush (-1000), 3) := by decide +kernel
theorem dX2_refusalOfScreen_28 : decode cX2_refusalOfScreen 28 = .ok (.sipush 3000, 3) := by decide +kernel
theorem dX2_refusalOfScreen_31 : decode cX2_refusalOfScreen 31 = .ok (.invokestatic 65, 3) := by decide +kernel
theorem dX2_refusalOfScreen_34 : decode cX2_refusalOfScreen 34 = .ok (.ifCond .eq 23, 3) := by decide +kernel
theorem dX2_refusalOfScreen_37 : decode cX2_refusalOfScreen 37 = .ok (.iload 4, 2) := by decide +kernel
theorem dX2_refusalOfScreen_39 : decode cX2_refusalOfScreen 39 = .ok (.sipush (-1000), 3) := by decide +kernel
theorem dX2_refusalOfScreen_42 : decode cX2_refusalOfScreen 42 = .ok (.sipush 3000, 3) := by decide +kernel
theorem dX2_refusalOfScreen_45 : decode cX2_refusalOfScreen 45 = .ok (.invokestatic 65, 3) := by decide +kernel
theorem dX2_refusalOfScreen_48 : decode cX2_refusalOfScreen 48 = .ok (.ifCond .eq 9, 3) := by decide +kernel
theorem dX2_refusalOfScreen_51 : decode cX2_refusalOfScreen 51 = .ok (.iload_n 3, 1) := by decide +kernel
theorem dX2_refusalOfScreen_52 : decode cX2_refusalOfScreen 52 = .ok (.iload 4, 2) := by decide +kernel
theorem dX2_refusalOfScreen_54 : decode cX2_refusalOfScreen 54 = .ok (.if_icmp .lt 5, 3) := by decide +kernel
theorem dX2_refusalOfScreen_57 : decode cX2_refusalOfScreen 57 = .ok (.iconst 2, 1) := by decide +kernel
theorem dX2_refusalOfScreen_58 : decode cX2_refusalOfScreen 58 = .ok (.ireturn, 1) := by decide +kernel
theorem dX2_refusalOfScreen_59 : decode cX2_refusalOfScreen 59 = .ok (.aload_n 0, 1) := by decide +kernel
theorem dX2_refusalOfScreen_60 : decode cX2_refusalOfScreen 60 = .ok (.getfield 40, 3) := by decide +kernel
theorem dX2_refusalOfScreen_63 : decode cX2_refusalOfScreen 63 = .ok (.invokevirtual 72, 3) := by decide +kernel
theorem dX2_refusalOfScreen_66 : decode cX2_refusalOfScreen 66 = .ok (.ifCond .eq 7, 3) := by decide +kernel
theorem dX2_refusalOfScreen_69 : decode cX2_refusalOfScreen 69 = .ok (.iconst 3, 1) := by decide +kernel
theorem dX2_refusalOfScreen_70 : decode cX2_refusalOfScreen 70 = .ok (.goto 4, 3) := by decide +kernel
theorem dX2_refusalOfScreen_73 : decode cX2_refusalOfScreen 73 = .ok (.iconst 0, 1) := by decide +kernel
theorem dX2_refusalOfScreen_74 : decode cX2_refusalOfScreen 74 = .ok (.ireturn, 1) := by decide +kernel
set_option maxRecDepth 20000 in
theorem ggX2_placeScreen_X9_addRow : GoodIn wsX2_placeScreen wsX9_addRow := goodIn_r _ [6, 7, 8, 9, 10, 11, 12, 5, 13, 14, 15, 16, 17, 18, 19, 29, 30, 31, 32] (by decide +kernel) (by decide +kernel)
set_option maxRecDepth 20000 in
theorem gX2_placeScreen_X9_addRow : GoodIn wsX2_placeScreen (wsV RX2 46 RX9 yX9_addRow wsX9_addRow) := goodIn_app (goodIn_of _ (by decide +kernel)) ggX2_placeScreen_X9_addRow
set_option maxRecDepth 20000 in
theorem ggX2_placeScreen_X9_put : GoodIn wsX2_placeScreen wsX9_put := goodIn_r _ [18, 8, 9, 19, 29, 30, 31, 32] (by decide +kernel) (by decide +kernel)
set_option maxRecDepth 20000 in
theorem gX2_placeScreen_X9_put : GoodIn wsX2_placeScreen (wsV RX2 53 RX9 yX9_put wsX9_put) := goodIn_app (goodIn_of _ (by decide +kernel)) ggX2_placeScreen_X9_put
theorem dX2_placeScreen_0 : decode cX2_placeScreen 0 = .ok (.aload_n 0, 1) := by decide +kernel
theorem dX2_placeScreen_1 : decode cX2_placeScreen 1 = .ok (.getfield 40, 3) := by decide +kernel
theorem dX2_placeScreen_4 : decode cX2_placeScreen 4 = .ok (.invokevirtual 46, 3) := by decide +kernel
theorem dX2_placeScreen_7 : decode cX2_placeScreen 7 = .ok (.istore 5, 2) := by decide +kernel
theorem dX2_placeScreen_9 : decode cX2_placeScreen 9 = .ok (.aload_n 0, 1) := by decide +kernel
theorem dX2_placeScreen_10 : decode cX2_placeScreen 10 = .ok (.getfield 40, 3) := by decide +kernel
theorem dX2_placeScreen_13 : decode cX2_placeScreen 13 = .ok (.iload 5, 2) := by decide +kernel
theorem dX2_placeScreen_15 : decode cX2_placeScreen 15 = .ok (.iconst 0, 1) := by decide +kernel
theorem dX2_placeScreen_16 : decode cX2_placeScreen 16 = .ok (.iload_n 1, 1) := by decide +kernel
theorem dX2_placeScreen_17 : decode cX2_placeScreen 17 = .ok (.invokevirtual 53, 3) := by decide +kernel
theorem dX2_placeScreen_20 : decode cX2_placeScreen 20 = .ok (.aload_n 0, 1) := by decide +kernel
theorem dX2_placeScreen_21 : decode cX2_placeScreen 21 = .ok (.getfield 40, 3) := by decide +kernel
theorem dX2_placeScreen_24 : decode cX2_placeScreen 24 = .ok (.iload 5, 2) := by decide +kernel
theorem dX2_placeScreen_26 : decode cX2_placeScreen 26 = .ok (.iconst 1, 1) := by decide +kernel
theorem dX2_placeScreen_27 : decode cX2_placeScreen 27 = .ok (.iload_n 2, 1) := by decide +kernel
theorem dX2_placeScreen_28 : decode cX2_placeScreen 28 = .ok (.invokevirtual 53, 3) := by decide +kernel
theorem dX2_placeScreen_31 : decode cX2_placeScreen 31 = .ok (.aload_n 0, 1) := by decide +kernel
theorem dX2_placeScreen_32 : decode cX2_placeScreen 32 = .ok (.getfield 40, 3) := by decide +kernel
theorem dX2_placeScreen_35 : decode cX2_placeScreen 35 = .ok (.iload 5, 2) := by decide +kernel
theorem dX2_placeScreen_37 : decode cX2_placeScreen 37 = .ok (.iconst 2, 1) := by decide +kernel
theorem dX2_placeScreen_38 : decode cX2_placeScreen 38 = .ok (.iload_n 3, 1) := by decide +kernel
theorem dX2_placeScreen_39 : decode cX2_placeScreen 39 = .ok (.invokevirtual 53, 3) := by decide +kernel
theorem dX2_placeScreen_42 : decode cX2_placeScreen 42 = .ok (.aload_n 0, 1) := by decide +kernel
theorem dX2_placeScreen_43 : decode cX2_placeScreen 43 = .ok (.getfield 40, 3) := by decide +kernel
theorem dX2_placeScreen_46 : decode cX2_placeScreen 46 = .ok (.iload 5, 2) := by decide +kernel
theorem dX2_placeScreen_48 : decode cX2_placeScreen 48 = .ok (.iconst 3, 1) := by decide +kernel
theorem dX2_placeScreen_49 : decode cX2_placeScreen 49 = .ok (.iload 4, 2) := by decide +kernel
theorem dX2_placeScreen_51 : decode cX2_placeScreen 51 = .ok (.invokevirtual 53, 3) := by decide +kernel
theorem dX2_placeScreen_54 : decode cX2_placeScreen 54 = .ok (.iload 5, 2) := by decide +kernel
theorem dX2_placeScreen_56 : decode cX2_placeScreen 56 = .ok (.ireturn, 1) := by decide +kernel
set_option maxRecDepth 20000 in
theorem ggX2_refusalOfSetting_X11_isBetween : GoodIn wsX2_refusalOfSetting wsX11_isBetween := goodIn_r _ [3] (by decide +kernel) (by decide +kernel)
set_option maxRecDepth 20000 in
theorem gX2_refusalOfSetting_X11_isBetween_n65 : GoodIn wsX2_refusalOfSetting (wsX11_isBetween) := ggX2_refusalOfSetting_X11_isBetween
theorem dX2_refusalOfSetting_0 : decode cX2_refusalOfSetting 0 = .ok (.iload_n 1, 1) := by decide +kernel
theorem dX2_refusalOfSetting_1 : decode cX2_refusalOfSetting 1 = .ok (.iconst 0, 1) := by decide +kernel
theorem dX2_refusalOfSetting_2 : decode cX2_refusalOfSetting 2 = .ok (.bipush 6, 2) := by decide +kernel
theorem dX2_refusalOfSetting_4 : decode cX2_refusalOfSetting 4 = .ok (.invokestatic 65, 3) := by decide +kernel
theorem dX2_refusalOfSetting_7 : decode cX2_refusalOfSetting 7 = .ok (.ifCond .ne 5, 3) := by decide +kernel
theorem dX2_refusalOfSetting_10 : decode cX2_refusalOfSetting 10 = .ok (.iconst 2, 1) := by decide +kernel
theorem dX2_refusalOfSetting_11 : decode cX2_refusalOfSetting 11 = .ok (.ireturn, 1) := by decide +kernel
theorem dX2_refusalOfSetting_12 : decode cX2_refusalOfSetting 12 = .ok (.iload_n 2, 1) := by decide +kernel
theorem dX2_refusalOfSetting_13 : decode cX2_refusalOfSetting 13 = .ok (.getstatic 76, 3) := by decide +kernel
theorem dX2_refusalOfSetting_16 : decode cX2_refusalOfSetting 16 = .ok (.iload_n 1, 1) := by decide +kernel
theorem dX2_refusalOfSetting_17 : decode cX2_refusalOfSetting 17 = .ok (.iaload, 1) := by decide +kernel
theorem dX2_refusalOfSetting_18 : decode cX2_refusalOfSetting 18 = .ok (.getstatic 79, 3) := by decide +kernel
theorem dX2_refusalOfSetting_21 : decode cX2_refusalOfSetting 21 = .ok (.iload_n 1, 1) := by decide +kernel
theorem dX2_refusalOfSetting_22 : decode cX2_refusalOfSetting 22 = .ok (.iaload, 1) := by decide +kernel
theorem dX2_refusalOfSetting_23 : decode cX2_refusalOfSetting 23 = .ok (.invokestatic 65, 3) := by decide +kernel
theorem dX2_refusalOfSetting_26 : decode cX2_refusalOfSetting 26 = .ok (.ifCond .eq 7, 3) := by decide +kernel
theorem dX2_refusalOfSetting_29 : decode cX2_refusalOfSetting 29 = .ok (.iconst 0, 1) := by decide +kernel
theorem dX2_refusalOfSetting_30 : decode cX2_refusalOfSetting 30 = .ok (.goto 4, 3) := by decide +kernel
theorem dX2_refusalOfSetting_33 : decode cX2_refusalOfSetting 33 = .ok (.iconst 2, 1) := by decide +kernel
theorem dX2_refusalOfSetting_34 : decode cX2_refusalOfSetting 34 = .ok (.ireturn, 1) := by decide +kernel
set_option maxRecDepth 20000 in
theorem ggX2_changeSetting_X2_setting : GoodIn wsX2_changeSetting wsX2_setting := goodIn_r _ [6, 1, 7, 8, 9, 10, 11, 12, 13, 14, 15, 20, 21, 22, 23, 24, 25, 26, 27, 28, 29, 30, 31] (by decide +kernel) (by decide +kernel)
set_option maxRecDepth 20000 in
theorem gX2_changeSetting_X2_setting : GoodIn wsX2_changeSetting (wsV RX2 82 RX2 yX2_setting wsX2_setting) := goodIn_app (goodIn_of _ (by decide +kernel)) ggX2_changeSetting_X2_setting
set_option maxRecDepth 20000 in
theorem ggX2_changeSetting_X9_put : GoodIn wsX2_changeSetting wsX9_put := goodIn_r _ [19, 12, 13, 15, 28, 29, 30, 31] (by decide +kernel) (by decide +kernel)
set_option maxRecDepth 20000 in
theorem gX2_changeSetting_X9_put : GoodIn wsX2_changeSetting (wsV RX2 53 RX9 yX9_put wsX9_put) := goodIn_app (goodIn_of _ (by decide +kernel)) ggX2_changeSetting_X9_put
theorem dX2_changeSetting_0 : decode cX2_changeSetting 0 = .ok (.aload_n 0, 1) := by decide +kernel
theorem dX2_changeSetting_1 : decode cX2_changeSetting 1 = .ok (.iload_n 1, 1) := by decide +kernel
theorem dX2_changeSetting_2 : decode cX2_changeSetting 2 = .ok (.invokevirtual 82, 3) := by decide +kernel
theorem dX2_changeSetting_5 : decode cX2_changeSetting 5 = .ok (.istore_n 3, 1) := by decide +kernel
theorem dX2_changeSetting_6 : decode cX2_changeSetting 6 = .ok (.aload_n 0, 1) := by decide +kernel
theorem dX2_changeSetting_7 : decode cX2_changeSetting 7 = .ok (.getfield 43, 3) := by decide +kernel
theorem dX2_changeSetting_10 : decode cX2_changeSetting 10 = .ok (.iload_n 1, 1) := by decide +kernel
theorem dX2_changeSetting_11 : decode cX2_changeSetting 11 = .ok (.iconst 0, 1) := by decide +kernel
theorem dX2_changeSetting_12 : decode cX2_changeSetting 12 = .ok (.iload_n 2, 1) := by decide +kernel
theorem dX2_changeSetting_13 : decode cX2_changeSetting 13 = .ok (.invokevirtual 53, 3) := by decide +kernel
theorem dX2_changeSetting_16 : decode cX2_changeSetting 16 = .ok (.iload_n 3, 1) := by decide +kernel
theorem dX2_changeSetting_17 : decode cX2_changeSetting 17 = .ok (.ireturn, 1) := by decide +kernel
set_option maxRecDepth 20000 in
theorem ggX2_refusalOfClick_X11_isClickPlace : GoodIn wsX2_refusalOfClick wsX11_isClickPlace := goodIn_r _ [6, 7, 8, 5, 9] (by decide +kernel) (by decide +kernel)
set_option maxRecDepth 20000 in
theorem gX2_refusalOfClick_X11_isClickPlace_n86 : GoodIn wsX2_refusalOfClick (wsX11_isClickPlace) := ggX2_refusalOfClick_X11_isClickPlace
set_option maxRecDepth 20000 in
theorem ggX2_refusalOfClick_X11_isBetween : GoodIn wsX2_refusalOfClick wsX11_isBetween := goodIn_r _ [9] (by decide +kernel) (by decide +kernel)
set_option maxRecDepth 20000 in
theorem gX2_refusalOfClick_X11_isBetween_n65 : GoodIn wsX2_refusalOfClick (wsX11_isBetween) := ggX2_refusalOfClick_X11_isBetween
theorem dX2_refusalOfClick_0 : decode cX2_refusalOfClick 0 = .ok (.iload_n 1, 1) := by decide +kernel
theorem dX2_refusalOfClick_1 : decode cX2_refusalOfClick 1 = .ok (.iload_n 2, 1) := by decide +kernel
theorem dX2_refusalOfClick_2 : decode cX2_refusalOfClick 2 = .ok (.invokestatic 86, 3) := by decide +kernel
theorem dX2_refusalOfClick_5 : decode cX2_refusalOfClick 5 = .ok (.ifCond .eq 13, 3) := by decide +kernel
theorem dX2_refusalOfClick_8 : decode cX2_refusalOfClick 8 = .ok (.iload_n 3, 1) := by decide +kernel
theorem dX2_refusalOfClick_9 : decode cX2_refusalOfClick 9 = .ok (.iconst 0, 1) := by decide +kernel
theorem dX2_refusalOfClick_10 : decode cX2_refusalOfClick 10 = .ok (.ldc 90, 2) := by decide +kernel
theorem dX2_refusalOfClick_12 : decode cX2_refusalOfClick 12 = .ok (.invokestatic 65, 3) := by decide +kernel
theorem dX2_refusalOfClick_15 : decode cX2_refusalOfClick 15 = .ok (.ifCond .ne 5, 3) := by decide +kernel
theorem dX2_refusalOfClick_18 : decode cX2_refusalOfClick 18 = .ok (.iconst 2, 1) := by decide +kernel
theorem dX2_refusalOfClick_19 : decode cX2_refusalOfClick 19 = .ok (.ireturn, 1) := by decide +kernel
theorem dX2_refusalOfClick_20 : decode cX2_refusalOfClick 20 = .ok (.aload_n 0, 1) := by decide +kernel
theorem dX2_refusalOfClick_21 : decode cX2_refusalOfClick 21 = .ok (.getfield 29, 3) := by decide +kernel
theorem dX2_refusalOfClick_24 : decode cX2_refusalOfClick 24 = .ok (.getfield 69, 3) := by decide +kernel
theorem dX2_refusalOfClick_27 : decode cX2_refusalOfClick 27 = .ok (.ifCond .ne 7, 3) := by decide +kernel
theorem dX2_refusalOfClick_30 : decode cX2_refusalOfClick 30 = .ok (.iconst 3, 1) := by decide +kernel
theorem dX2_refusalOfClick_31 : decode cX2_refusalOfClick 31 = .ok (.goto 4, 3) := by decide +kernel
theorem dX2_refusalOfClick_34 : decode cX2_refusalOfClick 34 = .ok (.iconst 0, 1) := by decide +kernel
theorem dX2_refusalOfClick_35 : decode cX2_refusalOfClick 35 = .ok (.ireturn, 1) := by decide +kernel
set_option maxRecDepth 20000 in
theorem ggX2_hasNoted_X9_at : GoodIn wsX2_hasNoted wsX9_at := goodIn_r _ [7, 8, 9, 10, 11, 20, 21, 22, 23] (by decide +kernel) (by decide +kernel)
set_option maxRecDepth 20000 in
theorem gX2_hasNoted_X9_at : GoodIn wsX2_hasNoted (wsV RX2 61 RX9 yX9_at wsX9_at) := goodIn_app (goodIn_of _ (by decide +kernel)) ggX2_hasNoted_X9_at
theorem dX2_hasNoted_0 : decode cX2_hasNoted 0 = .ok (.aload_n 0, 1) := by decide +kernel
theorem dX2_hasNoted_1 : decode cX2_hasNoted 1 = .ok (.getfield 29, 3) := by decide +kernel
theorem dX2_hasNoted_4 : decode cX2_hasNoted 4 = .ok (.iload_n 1, 1) := by decide +kernel
theorem dX2_hasNoted_5 : decode cX2_hasNoted 5 = .ok (.iconst 4, 1) := by decide +kernel
theorem dX2_hasNoted_6 : decode cX2_hasNoted 6 = .ok (.invokevirtual 61, 3) := by decide +kernel
theorem dX2_hasNoted_9 : decode cX2_hasNoted 9 = .ok (.ldc 91, 2) := by decide +kernel
theorem dX2_hasNoted_11 : decode cX2_hasNoted 11 = .ok (.if_icmp .eq 7, 3) := by decide +kernel
theorem dX2_hasNoted_14 : decode cX2_hasNoted 14 = .ok (.iconst 1, 1) := by decide +kernel
theorem dX2_hasNoted_15 : decode cX2_hasNoted 15 = .ok (.goto 4, 3) := by decide +kernel
theorem dX2_hasNoted_18 : decode cX2_hasNoted 18 = .ok (.iconst 0, 1) := by decide +kernel
theorem dX2_hasNoted_19 : decode cX2_hasNoted 19 = .ok (.ireturn, 1) := by decide +kernel
theorem dX2_cellCount_0 : decode cX2_cellCount 0 = .ok (.aload_n 0, 1) := by decide +kernel
theorem dX2_cellCount_1 : decode cX2_cellCount 1 = .ok (.getfield 9, 3) := by decide +kernel
theorem dX2_cellCount_4 : decode cX2_cellCount 4 = .ok (.aload_n 0, 1) := by decide +kernel
theorem dX2_cellCount_5 : decode cX2_cellCount 5 = .ok (.getfield 15, 3) := by decide +kernel
theorem dX2_cellCount_8 : decode cX2_cellCount 8 = .ok (.imul, 1) := by decide +kernel
theorem dX2_cellCount_9 : decode cX2_cellCount 9 = .ok (.ireturn, 1) := by decide +kernel
set_option maxRecDepth 20000 in
theorem ggX2_hasCell_X2_cellCount : GoodIn wsX2_hasCell wsX2_cellCount := goodIn_r _ [5, 6, 7, 8, 9, 10, 11, 12, 13, 14, 15] (by decide +kernel) (by decide +kernel)
set_option maxRecDepth 20000 in
theorem gX2_hasCell_X2_cellCount : GoodIn wsX2_hasCell (wsV RX2 92 RX2 yX2_cellCount wsX2_cellCount) := goodIn_app (goodIn_of _ (by decide +kernel)) ggX2_hasCell_X2_cellCount
theorem dX2_hasCell_0 : decode cX2_hasCell 0 = .ok (.iload_n 1, 1) := by decide +kernel
theorem dX2_hasCell_1 : decode cX2_hasCell 1 = .ok (.ifCond .lt 15, 3) := by decide +kernel
theorem dX2_hasCell_4 : decode cX2_hasCell 4 = .ok (.iload_n 1, 1) := by decide +kernel
theorem dX2_hasCell_5 : decode cX2_hasCell 5 = .ok (.aload_n 0, 1) := by decide +kernel
theorem dX2_hasCell_6 : decode cX2_hasCell 6 = .ok (.invokevirtual 92, 3) := by decide +kernel
theorem dX2_hasCell_9 : decode cX2_hasCell 9 = .ok (.if_icmp .ge 7, 3) := by decide +kernel
theorem dX2_hasCell_12 : decode cX2_hasCell 12 = .ok (.iconst 1, 1) := by decide +kernel
theorem dX2_hasCell_13 : decode cX2_hasCell 13 = .ok (.goto 4, 3) := by decide +kernel
theorem dX2_hasCell_16 : decode cX2_hasCell 16 = .ok (.iconst 0, 1) := by decide +kernel
theorem dX2_hasCell_17 : decode cX2_hasCell 17 = .ok (.ireturn, 1) := by decide +kernel
theorem dX2_columnOf_0 : decode cX2_columnOf 0 = .ok (.aload_n 0, 1) := by decide +kernel
theorem dX2_columnOf_1 : decode cX2_columnOf 1 = .ok (.getfield 9, 3) := by decide +kernel
theorem dX2_columnOf_4 : decode cX2_columnOf 4 = .ok (.iconst 1, 1) := by decide +kernel
theorem dX2_columnOf_5 : decode cX2_columnOf 5 = .ok (.if_icmp .ge 7, 3) := by decide +kernel
theorem dX2_columnOf_8 : decode cX2_columnOf 8 = .ok (.iconst 0, 1) := by decide +kernel
theorem dX2_columnOf_9 : decode cX2_columnOf 9 = .ok (.goto 9, 3) := by decide +kernel
theorem dX2_columnOf_12 : decode cX2_columnOf 12 = .ok (.iload_n 1, 1) := by decide +kernel
theorem dX2_columnOf_13 : decode cX2_columnOf 13 = .ok (.aload_n 0, 1) := by decide +kernel
theorem dX2_columnOf_14 : decode cX2_columnOf 14 = .ok (.getfield 9, 3) := by decide +kernel
theorem dX2_columnOf_17 : decode cX2_columnOf 17 = .ok (.irem, 1) := by decide +kernel
theorem dX2_columnOf_18 : decode cX2_columnOf 18 = .ok (.ireturn, 1) := by decide +kernel
theorem dX2_rowOf_0 : decode cX2_rowOf 0 = .ok (.aload_n 0, 1) := by decide +kernel
theorem dX2_rowOf_1 : decode cX2_rowOf 1 = .ok (.getfield 9, 3) := by decide +kernel
theorem dX2_rowOf_4 : decode cX2_rowOf 4 = .ok (.iconst 1, 1) := by decide +kernel
theorem dX2_rowOf_5 : decode cX2_rowOf 5 = .ok (.if_icmp .ge 7, 3) := by decide +kernel
theorem dX2_rowOf_8 : decode cX2_rowOf 8 = .ok (.iconst 0, 1) := by decide +kernel
theorem dX2_rowOf_9 : decode cX2_rowOf 9 = .ok (.goto 9, 3) := by decide +kernel
theorem dX2_rowOf_12 : decode cX2_rowOf 12 = .ok (.iload_n 1, 1) := by decide +kernel
theorem dX2_rowOf_13 : decode cX2_rowOf 13 = .ok (.aload_n 0, 1) := by decide +kernel
theorem dX2_rowOf_14 : decode cX2_rowOf 14 = .ok (.getfield 9, 3) := by decide +kernel
theorem dX2_rowOf_17 : decode cX2_rowOf 17 = .ok (.idiv, 1) := by decide +kernel
theorem dX2_rowOf_18 : decode cX2_rowOf 18 = .ok (.ireturn, 1) := by decide +kernel
set_option maxRecDepth 20000 in
theorem ggX2_wayTo_X9_at : GoodIn wsX2_wayTo wsX9_at := goodIn_r _ [6, 7, 8, 9, 10, 24, 25, 26, 27] (by decide +kernel) (by decide +kernel)
set_option maxRecDepth 20000 in
theorem gX2_wayTo_X9_at : GoodIn wsX2_wayTo (wsV RX2 61 RX9 yX9_at wsX9_at) := goodIn_app (goodIn_of _ (by decide +kernel)) ggX2_wayTo_X9_at
set_option maxRecDepth 20000 in
theorem ggX2_wayTo_X7_way : GoodIn wsX2_wayTo wsX7_way := goodIn_r _ [14, 15] (by decide +kernel) (by decide +kernel)
set_option maxRecDepth 20000 in
theorem gX2_wayTo_X7_way : GoodIn wsX2_wayTo (va_wsS RX2 95 yX7_way wsX7_way) := goodIn_app (goodIn_of _ (by decide +kernel)) ggX2_wayTo_X7_way
theorem dX2_wayTo_0 : decode cX2_wayTo 0 = .ok (.aload_n 0, 1) := by decide +kernel
theorem dX2_wayTo_1 : decode cX2_wayTo 1 = .ok (.getfield 29, 3) := by decide +kernel
theorem dX2_wayTo_4 : decode cX2_wayTo 4 = .ok (.iload_n 1, 1) := by decide +kernel
theorem dX2_wayTo_5 : decode cX2_wayTo 5 = .ok (.iconst 0, 1) := by decide +kernel
theorem dX2_wayTo_6 : decode cX2_wayTo 6 = .ok (.invokevirtual 61, 3) := by decide +kernel
theorem dX2_wayTo_9 : decode cX2_wayTo 9 = .ok (.iload_n 2, 1) := by decide +kernel
theorem dX2_wayTo_10 : decode cX2_wayTo 10 = .ok (.isub, 1) := by decide +kernel
theorem dX2_wayTo_11 : decode cX2_wayTo 11 = .ok (.aload_n 0, 1) := by decide +kernel
theorem dX2_wayTo_12 : decode cX2_wayTo 12 = .ok (.getfield 29, 3) := by decide +kernel
theorem dX2_wayTo_15 : decode cX2_wayTo 15 = .ok (.iload_n 1, 1) := by decide +kernel
theorem dX2_wayTo_16 : decode cX2_wayTo 16 = .ok (.iconst 1, 1) := by decide +kernel
theorem dX2_wayTo_17 : decode cX2_wayTo 17 = .ok (.invokevirtual 61, 3) := by decide +kernel
theorem dX2_wayTo_20 : decode cX2_wayTo 20 = .ok (.iload_n 3, 1) := by decide +kernel
theorem dX2_wayTo_21 : decode cX2_wayTo 21 = .ok (.isub, 1) := by decide +kernel
theorem dX2_wayTo_22 : decode cX2_wayTo 22 = .ok (.invokestatic 95, 3) := by decide +kernel
theorem dX2_wayTo_25 : decode cX2_wayTo 25 = .ok (.ireturn, 1) := by decide +kernel
set_option maxRecDepth 20000 in
theorem ggX2_timeFor_X9_at : GoodIn wsX2_timeFor wsX9_at := goodIn_r _ [6, 7, 8, 9, 10, 19, 20, 21, 22] (by decide +kernel) (by decide +kernel)
set_option maxRecDepth 20000 in
theorem gX2_timeFor_X9_at : GoodIn wsX2_timeFor (wsV RX2 61 RX9 yX9_at wsX9_at) := goodIn_app (goodIn_of _ (by decide +kernel)) ggX2_timeFor_X9_at
theorem dX2_timeFor_0 : decode cX2_timeFor 0 = .ok (.aload_n 0, 1) := by decide +kernel
theorem dX2_timeFor_1 : decode cX2_timeFor 1 = .ok (.getfield 43, 3) := by decide +kernel
theorem dX2_timeFor_4 : decode cX2_timeFor 4 = .ok (.iconst 0, 1) := by decide +kernel
theorem dX2_timeFor_5 : decode cX2_timeFor 5 = .ok (.iconst 0, 1) := by decide +kernel
theorem dX2_timeFor_6 : decode cX2_timeFor 6 = .ok (.invokevirtual 61, 3) := by decide +kernel
theorem dX2_timeFor_9 : decode cX2_timeFor 9 = .ok (.istore_n 2, 1) := by decide +kernel
theorem dX2_timeFor_10 : decode cX2_timeFor 10 = .ok (.iload_n 2, 1) := by decide +kernel
theorem dX2_timeFor_11 : decode cX2_timeFor 11 = .ok (.iconst 1, 1) := by decide +kernel
theorem dX2_timeFor_12 : decode cX2_timeFor 12 = .ok (.if_icmp .ge 7, 3) := by decide +kernel
theorem dX2_timeFor_15 : decode cX2_timeFor 15 = .ok (.iconst 0, 1) := by decide +kernel
theorem dX2_timeFor_16 : decode cX2_timeFor 16 = .ok (.goto 10, 3) := by decide +kernel
theorem dX2_timeFor_19 : decode cX2_timeFor 19 = .ok (.iload_n 1, 1) := by decide +kernel
theorem dX2_timeFor_20 : decode cX2_timeFor 20 = .ok (.sipush 1000, 3) := by decide +kernel
theorem dX2_timeFor_23 : decode cX2_timeFor 23 = .ok (.imul, 1) := by decide +kernel
theorem dX2_timeFor_24 : decode cX2_timeFor 24 = .ok (.iload_n 2, 1) := by decide +kernel
theorem dX2_timeFor_25 : decode cX2_timeFor 25 = .ok (.idiv, 1) := by decide +kernel
theorem dX2_timeFor_26 : decode cX2_timeFor 26 = .ok (.ireturn, 1) := by decide +kernel
set_option maxRecDepth 20000 in
theorem ggX2_timeFromCell_X2_columnOf : GoodIn wsX2_timeFromCell wsX2_columnOf := goodIn_r _ [5, 6, 35, 36, 37, 38, 39, 40, 41, 42] (by decide +kernel) (by decide +kernel)
set_option maxRecDepth 20000 in
theorem gX2_timeFromCell_X2_columnOf : GoodIn wsX2_timeFromCell (wsV RX2 100 RX2 yX2_columnOf wsX2_columnOf) := goodIn_app (goodIn_of _ (by decide +kernel)) ggX2_timeFromCell_X2_columnOf
set_option maxRecDepth 20000 in
theorem ggX2_timeFromCell_X2_rowOf : GoodIn wsX2_timeFromCell wsX2_rowOf := goodIn_r _ [10, 6, 35, 36, 37, 38, 39, 40, 41, 42] (by decide +kernel) (by decide +kernel)
set_option maxRecDepth 20000 in
theorem gX2_timeFromCell_X2_rowOf : GoodIn wsX2_timeFromCell (wsV RX2 103 RX2 yX2_rowOf wsX2_rowOf) := goodIn_app (goodIn_of _ (by decide +kernel)) ggX2_timeFromCell_X2_rowOf
set_option maxRecDepth 20000 in
theorem ggX2_timeFromCell_X2_wayTo : GoodIn wsX2_timeFromCell wsX2_wayTo := goodIn_r _ [14, 15, 16, 17, 18, 19, 20, 21, 22, 23, 24, 25, 26, 27, 28, 29, 35, 36, 37, 38, 39, 40, 41, 42, 43, 44, 45, 46] (by decide +kernel) (by decide +kernel)
set_option maxRecDepth 20000 in
theorem gX2_timeFromCell_X2_wayTo : GoodIn wsX2_timeFromCell (wsV RX2 106 RX2 yX2_wayTo wsX2_wayTo) := goodIn_app (goodIn_of _ (by decide +kernel)) ggX2_timeFromCell_X2_wayTo
set_option maxRecDepth 20000 in
theorem ggX2_timeFromCell_X2_timeFor : GoodIn wsX2_timeFromCell wsX2_timeFor := goodIn_r _ [33, 34, 16, 17, 18, 19, 20, 21, 22, 23, 24, 35, 36, 37, 38, 39, 40, 41, 42, 43, 44, 45, 46] (by decide +kernel) (by decide +kernel)
set_option maxRecDepth 20000 in
theorem gX2_timeFromCell_X2_timeFor : GoodIn wsX2_timeFromCell (wsV RX2 110 RX2 yX2_timeFor wsX2_timeFor) := goodIn_app (goodIn_of _ (by decide +kernel)) ggX2_timeFromCell_X2_timeFor
theorem dX2_timeFromCell_0 : decode cX2_timeFromCell 0 = .ok (.aload_n 0, 1) := by decide +kernel
theorem dX2_timeFromCell_1 : decode cX2_timeFromCell 1 = .ok (.aload_n 0, 1) := by decide +kernel
theorem dX2_timeFromCell_2 : decode cX2_timeFromCell 2 = .ok (.iload_n 2, 1) := by decide +kernel
theorem dX2_timeFromCell_3 : decode cX2_timeFromCell 3 = .ok (.bipush 100, 2) := by decide +kernel
theorem dX2_timeFromCell_5 : decode cX2_timeFromCell 5 = .ok (.aload_n 0, 1) := by decide +kernel
theorem dX2_timeFromCell_6 : decode cX2_timeFromCell 6 = .ok (.iload_n 1, 1) := by decide +kernel
theorem dX2_timeFromCell_7 : decode cX2_timeFromCell 7 = .ok (.invokevirtual 100, 3) := by decide +kernel
theorem dX2_timeFromCell_10 : decode cX2_timeFromCell 10 = .ok (.imul, 1) := by decide +kernel
theorem dX2_timeFromCell_11 : decode cX2_timeFromCell 11 = .ok (.bipush 50, 2) := by decide +kernel
theorem dX2_timeFromCell_13 : decode cX2_timeFromCell 13 = .ok (.iadd, 1) := by decide +kernel
theorem dX2_timeFromCell_14 : decode cX2_timeFromCell 14 = .ok (.bipush 100, 2) := by decide +kernel
theorem dX2_timeFromCell_16 : decode cX2_timeFromCell 16 = .ok (.aload_n 0, 1) := by decide +kernel
theorem dX2_timeFromCell_17 : decode cX2_timeFromCell 17 = .ok (.iload_n 1, 1) := by decide +kernel
theorem dX2_timeFromCell_18 : decode cX2_timeFromCell 18 = .ok (.invokevirtual 103, 3) := by decide +kernel
theorem dX2_timeFromCell_21 : decode cX2_timeFromCell 21 = .ok (.imul, 1) := by decide +kernel
theorem dX2_timeFromCell_22 : decode cX2_timeFromCell 22 = .ok (.bipush 50, 2) := by decide +kernel
theorem dX2_timeFromCell_24 : decode cX2_timeFromCell 24 = .ok (.iadd, 1) := by decide +kernel
theorem dX2_timeFromCell_25 : decode cX2_timeFromCell 25 = .ok (.invokevirtual 106, 3) := by decide +kernel
theorem dX2_timeFromCell_28 : decode cX2_timeFromCell 28 = .ok (.invokevirtual 110, 3) := by decide +kernel
theorem dX2_timeFromCell_31 : decode cX2_timeFromCell 31 = .ok (.ireturn, 1) := by decide +kernel
set_option maxRecDepth 20000 in
theorem ggX2_strengthBehind_X9_has : GoodIn wsX2_strengthBehind wsX9_has := goodIn_r _ [6, 7, 23, 24, 25, 26] (by decide +kernel) (by decide +kernel)
set_option maxRecDepth 20000 in
theorem gX2_strengthBehind_X9_has : GoodIn wsX2_strengthBehind (wsV RX2 113 RX9 yX9_has wsX9_has) := goodIn_app (goodIn_of _ (by decide +kernel)) ggX2_strengthBehind_X9_has
set_option maxRecDepth 20000 in
theorem ggX2_strengthBehind_X9_at : GoodIn wsX2_strengthBehind wsX9_at := goodIn_r _ [11, 7, 12, 13, 14, 23, 24, 25, 26] (by decide +kernel) (by decide +kernel)
set_option maxRecDepth 20000 in
theorem gX2_strengthBehind_X9_at : GoodIn wsX2_strengthBehind (wsV RX2 61 RX9 yX9_at wsX9_at) := goodIn_app (goodIn_of _ (by decide +kernel)) ggX2_strengthBehind_X9_at
theorem dX2_strengthBehind_0 : decode cX2_strengthBehind 0 = .ok (.aload_n 0, 1) := by decide +kernel
theorem dX2_strengthBehind_1 : decode cX2_strengthBehind 1 = .ok (.getfield 37, 3) := by decide +kernel
theorem dX2_strengthBehind_4 : decode cX2_strengthBehind 4 = .ok (.iload_n 1, 1) := by decide +kernel
theorem dX2_strengthBehind_5 : decode cX2_strengthBehind 5 = .ok (.invokevirtual 113, 3) := by decide +kernel
theorem dX2_strengthBehind_8 : decode cX2_strengthBehind 8 = .ok (.ifCond .eq 23, 3) := by decide +kernel
theorem dX2_strengthBehind_11 : decode cX2_strengthBehind 11 = .ok (.iload_n 2, 1) := by decide +kernel
theorem dX2_strengthBehind_12 : decode cX2_strengthBehind 12 = .ok (.bipush 100, 2) := by decide +kernel
theorem dX2_strengthBehind_14 : decode cX2_strengthBehind 14 = .ok (.aload_n 0, 1) := by decide +kernel
theorem dX2_strengthBehind_15 : decode cX2_strengthBehind 15 = .ok (.getfield 37, 3) := by decide +kernel
theorem dX2_strengthBehind_18 : decode cX2_strengthBehind 18 = .ok (.iload_n 1, 1) := by decide +kernel
theorem dX2_strengthBehind_19 : decode cX2_strengthBehind 19 = .ok (.iconst 2, 1) := by decide +kernel
theorem dX2_strengthBehind_20 : decode cX2_strengthBehind 20 = .ok (.invokevirtual 61, 3) := by decide +kernel
theorem dX2_strengthBehind_23 : decode cX2_strengthBehind 23 = .ok (.isub, 1) := by decide +kernel
theorem dX2_strengthBehind_24 : decode cX2_strengthBehind 24 = .ok (.imul, 1) := by decide +kernel
theorem dX2_strengthBehind_25 : decode cX2_strengthBehind 25 = .ok (.bipush 100, 2) := by decide +kernel
theorem dX2_strengthBehind_27 : decode cX2_strengthBehind 27 = .ok (.idiv, 1) := by decide +kernel
theorem dX2_strengthBehind_28 : decode cX2_strengthBehind 28 = .ok (.goto 4, 3) := by decide +kernel
theorem dX2_strengthBehind_31 : decode cX2_strengthBehind 31 = .ok (.iload_n 2, 1) := by decide +kernel
theorem dX2_strengthBehind_32 : decode cX2_strengthBehind 32 = .ok (.ireturn, 1) := by decide +kernel
set_option maxRecDepth 20000 in
theorem ggX2_mirroredX_X9_at : GoodIn wsX2_mirroredX wsX9_at := goodIn_r _ [6, 7, 8, 9, 10, 19, 20, 21, 22] (by decide +kernel) (by decide +kernel)
set_option maxRecDepth 20000 in
theorem gX2_mirroredX_X9_at : GoodIn wsX2_mirroredX (wsV RX2 61 RX9 yX9_at wsX9_at) := goodIn_app (goodIn_of _ (by decide +kernel)) ggX2_mirroredX_X9_at
theorem dX2_mirroredX_0 : decode cX2_mirroredX 0 = .ok (.aload_n 0, 1) := by decide +kernel
theorem dX2_mirroredX_1 : decode cX2_mirroredX 1 = .ok (.getfield 37, 3) := by decide +kernel
theorem dX2_mirroredX_4 : decode cX2_mirroredX 4 = .ok (.iload_n 1, 1) := by decide +kernel
theorem dX2_mirroredX_5 : decode cX2_mirroredX 5 = .ok (.iconst 0, 1) := by decide +kernel
theorem dX2_mirroredX_6 : decode cX2_mirroredX 6 = .ok (.invokevirtual 61, 3) := by decide +kernel
theorem dX2_mirroredX_9 : decode cX2_mirroredX 9 = .ok (.ifCond .ne 19, 3) := by decide +kernel
theorem dX2_mirroredX_12 : decode cX2_mirroredX 12 = .ok (.iconst 2, 1) := by decide +kernel
theorem dX2_mirroredX_13 : decode cX2_mirroredX 13 = .ok (.aload_n 0, 1) := by decide +kernel
theorem dX2_mirroredX_14 : decode cX2_mirroredX 14 = .ok (.getfield 37, 3) := by decide +kernel
theorem dX2_mirroredX_17 : decode cX2_mirroredX 17 = .ok (.iload_n 1, 1) := by decide +kernel
theorem dX2_mirroredX_18 : decode cX2_mirroredX 18 = .ok (.iconst 1, 1) := by decide +kernel
theorem dX2_mirroredX_19 : decode cX2_mirroredX 19 = .ok (.invokevirtual 61, 3) := by decide +kernel
theorem dX2_mirroredX_22 : decode cX2_mirroredX 22 = .ok (.imul, 1) := by decide +kernel
theorem dX2_mirroredX_23 : decode cX2_mirroredX 23 = .ok (.iload_n 2, 1) := by decide +kernel
theorem dX2_mirroredX_24 : decode cX2_mirroredX 24 = .ok (.isub, 1) := by decide +kernel
theorem dX2_mirroredX_25 : decode cX2_mirroredX 25 = .ok (.goto 4, 3) := by decide +kernel
theorem dX2_mirroredX_28 : decode cX2_mirroredX 28 = .ok (.iload_n 2, 1) := by decide +kernel
theorem dX2_mirroredX_29 : decode cX2_mirroredX 29 = .ok (.ireturn, 1) := by decide +kernel
set_option maxRecDepth 20000 in
theorem ggX2_mirroredY_X9_at : GoodIn wsX2_mirroredY wsX9_at := goodIn_r _ [6, 7, 8, 9, 10, 19, 20, 21, 22] (by decide +kernel) (by decide +kernel)
set_option maxRecDepth 20000 in
theorem gX2_mirroredY_X9_at : GoodIn wsX2_mirroredY (wsV RX2 61 RX9 yX9_at wsX9_at) := goodIn_app (goodIn_of _ (by decide +kernel)) ggX2_mirroredY_X9_at
theorem dX2_mirroredY_0 : decode cX2_mirroredY 0 = .ok (.aload_n 0, 1) := by decide +kernel
theorem dX2_mirroredY_1 : decode cX2_mirroredY 1 = .ok (.getfield 37, 3) := by decide +kernel
theorem dX2_mirroredY_4 : decode cX2_mirroredY 4 = .ok (.iload_n 1, 1) := by decide +kernel
theorem dX2_mirroredY_5 : decode cX2_mirroredY 5 = .ok (.iconst 0, 1) := by decide +kernel
theorem dX2_mirroredY_6 : decode cX2_mirroredY 6 = .ok (.invokevirtual 61, 3) := by decide +kernel
theorem dX2_mirroredY_9 : decode cX2_mirroredY 9 = .ok (.ifCond .ne 7, 3) := by decide +kernel
theorem dX2_mirroredY_12 : decode cX2_mirroredY 12 = .ok (.iload_n 2, 1) := by decide +kernel
theorem dX2_mirroredY_13 : decode cX2_mirroredY 13 = .ok (.goto 16, 3) := by decide +kernel
theorem dX2_mirroredY_16 : decode cX2_mirroredY 16 = .ok (.iconst 2, 1) := by decide +kernel
theorem dX2_mirroredY_17 : decode cX2_mirroredY 17 = .ok (.aload_n 0, 1) := by decide +kernel
theorem dX2_mirroredY_18 : decode cX2_mirroredY 18 = .ok (.getfield 37, 3) := by decide +kernel
theorem dX2_mirroredY_21 : decode cX2_mirroredY 21 = .ok (.iload_n 1, 1) := by decide +kernel
theorem dX2_mirroredY_22 : decode cX2_mirroredY 22 = .ok (.iconst 1, 1) := by decide +kernel
theorem dX2_mirroredY_23 : decode cX2_mirroredY 23 = .ok (.invokevirtual 61, 3) := by decide +kernel
theorem dX2_mirroredY_26 : decode cX2_mirroredY 26 = .ok (.imul, 1) := by decide +kernel
theorem dX2_mirroredY_27 : decode cX2_mirroredY 27 = .ok (.iload_n 2, 1) := by decide +kernel
theorem dX2_mirroredY_28 : decode cX2_mirroredY 28 = .ok (.isub, 1) := by decide +kernel
theorem dX2_mirroredY_29 : decode cX2_mirroredY 29 = .ok (.ireturn, 1) := by decide +kernel
set_option maxRecDepth 20000 in
theorem ggX2_isScreened_X9_at : GoodIn wsX2_isScreened wsX9_at := goodIn_r _ [8, 9, 10, 11, 12, 38, 39, 40, 41] (by decide +kernel) (by decide +kernel)
set_option maxRecDepth 20000 in
theorem gX2_isScreened_X9_at : GoodIn wsX2_isScreened (wsV RX2 61 RX9 yX9_at wsX9_at) := goodIn_app (goodIn_of _ (by decide +kernel)) ggX2_isScreened_X9_at
set_option maxRecDepth 20000 in
theorem ggX2_isScreened_X7_crosses : GoodIn wsX2_isScreened wsX7_crosses := goodIn_r _ [16, 17, 18, 19, 20, 21, 22, 23, 24, 25, 26, 27, 28, 29] (by decide +kernel) (by decide +kernel)
set_option maxRecDepth 20000 in
theorem gX2_isScreened_X7_crosses : GoodIn wsX2_isScreened (va_wsS RX2 117 yX7_crosses wsX7_crosses) := goodIn_app (goodIn_of _ (by decide +kernel)) ggX2_isScreened_X7_crosses
theorem dX2_isScreened_0 : decode cX2_isScreened 0 = .ok (.aload_n 0, 1) := by decide +kernel
theorem dX2_isScreened_1 : decode cX2_isScreened 1 = .ok (.getfield 29, 3) := by decide +kernel
theorem dX2_isScreened_4 : decode cX2_isScreened 4 = .ok (.iload_n 3, 1) := by decide +kernel
theorem dX2_isScreened_5 : decode cX2_isScreened 5 = .ok (.iconst 0, 1) := by decide +kernel
theorem dX2_isScreened_6 : decode cX2_isScreened 6 = .ok (.invokevirtual 61, 3) := by decide +kernel
theorem dX2_isScreened_9 : decode cX2_isScreened 9 = .ok (.istore 4, 2) := by decide +kernel
theorem dX2_isScreened_11 : decode cX2_isScreened 11 = .ok (.aload_n 0, 1) := by decide +kernel
theorem dX2_isScreened_12 : decode cX2_isScreened 12 = .ok (.getfield 29, 3) := by decide +kernel
theorem dX2_isScreened_15 : decode cX2_isScreened 15 = .ok (.iload_n 3, 1) := by decide +kernel
theorem dX2_isScreened_16 : decode cX2_isScreened 16 = .ok (.iconst 1, 1) := by decide +kernel
theorem dX2_isScreened_17 : decode cX2_isScreened 17 = .ok (.invokevirtual 61, 3) := by decide +kernel
theorem dX2_isScreened_20 : decode cX2_isScreened 20 = .ok (.istore 5, 2) := by decide +kernel
theorem dX2_isScreened_22 : decode cX2_isScreened 22 = .ok (.iconst 0, 1) := by decide +kernel
theorem dX2_isScreened_23 : decode cX2_isScreened 23 = .ok (.istore 6, 2) := by decide +kernel
theorem dX2_isScreened_25 : decode cX2_isScreened 25 = .ok (.iload 6, 2) := by decide +kernel
theorem dX2_isScreened_27 : decode cX2_isScreened 27 = .ok (.aload_n 0, 1) := by decide +kernel
theorem dX2_isScreened_28 : decode cX2_isScreened 28 = .ok (.getfield 40, 3) := by decide +kernel
theorem dX2_isScreened_31 : decode cX2_isScreened 31 = .ok (.getfield 69, 3) := by decide +kernel
theorem dX2_isScreened_34 : decode cX2_isScreened 34 = .ok (.if_icmp .ge 100, 3) := by decide +kernel
theorem dX2_isScreened_37 : decode cX2_isScreened 37 = .ok (.aload_n 0, 1) := by decide +kernel
theorem dX2_isScreened_38 : decode cX2_isScreened 38 = .ok (.getfield 40, 3) := by decide +kernel
theorem dX2_isScreened_41 : decode cX2_isScreened 41 = .ok (.iload 6, 2) := by decide +kernel
theorem dX2_isScreened_43 : decode cX2_isScreened 43 = .ok (.iconst 1, 1) := by decide +kernel
theorem dX2_isScreened_44 : decode cX2_isScreened 44 = .ok (.invokevirtual 61, 3) := by decide +kernel
theorem dX2_isScreened_47 : decode cX2_isScreened 47 = .ok (.istore 7, 2) := by decide +kernel
theorem dX2_isScreened_49 : decode cX2_isScreened 49 = .ok (.aload_n 0, 1) := by decide +kernel
theorem dX2_isScreened_50 : decode cX2_isScreened 50 = .ok (.getfield 40, 3) := by decide +kernel
theorem dX2_isScreened_53 : decode cX2_isScreened 53 = .ok (.iload 6, 2) := by decide +kernel
theorem dX2_isScreened_55 : decode cX2_isScreened 55 = .ok (.iconst 2, 1) := by decide +kernel
theorem dX2_isScreened_56 : decode cX2_isScreened 56 = .ok (.invokevirtual 61, 3) := by decide +kernel
theorem dX2_isScreened_59 : decode cX2_isScreened 59 = .ok (.istore 8, 2) := by decide +kernel
theorem dX2_isScreened_61 : decode cX2_isScreened 61 = .ok (.aload_n 0, 1) := by decide +kernel
theorem dX2_isScreened_62 : decode cX2_isScreened 62 = .ok (.getfield 40, 3) := by decide +kernel
theorem dX2_isScreened_65 : decode cX2_isScreened 65 = .ok (.iload 6, 2) := by decide +kernel
theorem dX2_isScreened_67 : decode cX2_isScreened 67 = .ok (.iconst 3, 1) := by decide +kernel
theorem dX2_isScreened_68 : decode cX2_isScreened 68 = .ok (.invokevirtual 61, 3) := by decide +kernel
theorem dX2_isScreened_71 : decode cX2_isScreened 71 = .ok (.istore 9, 2) := by decide +kernel
theorem dX2_isScreened_73 : decode cX2_isScreened 73 = .ok (.aload_n 0, 1) := by decide +kernel
theorem dX2_isScreened_74 : decode cX2_isScreened 74 = .ok (.getfield 40, 3) := by decide +kernel
theorem dX2_isScreened_77 : decode cX2_isScreened 77 = .ok (.iload 6, 2) := by decide +kernel
theorem dX2_isScreened_79 : decode cX2_isScreened 79 = .ok (.iconst 0, 1) := by decide +kernel
theorem dX2_isScreened_80 : decode cX2_isScreened 80 = .ok (.invokevirtual 61, 3) := by decide +kernel
theorem dX2_isScreened_83 : decode cX2_isScreened 83 = .ok (.ifCond .ne 21, 3) := by decide +kernel
theorem dX2_isScreened_86 : decode cX2_isScreened 86 = .ok (.iload_n 1, 1) := by decide +kernel
theorem dX2_isScreened_87 : decode cX2_isScreened 87 = .ok (.iload_n 2, 1) := by decide +kernel
theorem dX2_isScreened_88 : decode cX2_isScreened 88 = .ok (.iload 4, 2) := by decide +kernel
theorem dX2_isScreened_90 : decode cX2_isScreened 90 = .ok (.iload 5, 2) := by decide +kernel
theorem dX2_isScreened_92 : decode cX2_isScreened 92 = .ok (.iload 7, 2) := by decide +kernel
theorem dX2_isScreened_94 : decode cX2_isScreened 94 = .ok (.iload 8, 2) := by decide +kernel
theorem dX2_isScreened_96 : decode cX2_isScreened 96 = .ok (.iload 9, 2) := by decide +kernel
theorem dX2_isScreened_98 : decode cX2_isScreened 98 = .ok (.invokestatic 117, 3) := by decide +kernel
theorem dX2_isScreened_101 : decode cX2_isScreened 101 = .ok (.goto 18, 3) := by decide +kernel
theorem dX2_isScreened_104 : decode cX2_isScreened 104 = .ok (.iload_n 2, 1) := by decide +kernel
theorem dX2_isScreened_105 : decode cX2_isScreened 105 = .ok (.iload_n 1, 1) := by decide +kernel
theorem dX2_isScreened_106 : decode cX2_isScreened 106 = .ok (.iload 5, 2) := by decide +kernel
theorem dX2_isScreened_108 : decode cX2_isScreened 108 = .ok (.iload 4, 2) := by decide +kernel
theorem dX2_isScreened_110 : decode cX2_isScreened 110 = .ok (.iload 7, 2) := by decide +kernel
theorem dX2_isScreened_112 : decode cX2_isScreened 112 = .ok (.iload 8, 2) := by decide +kernel
theorem dX2_isScreened_114 : decode cX2_isScreened 114 = .ok (.iload 9, 2) := by decide +kernel
theorem dX2_isScreened_116 : decode cX2_isScreened 116 = .ok (.invokestatic 117, 3) := by decide +kernel
theorem dX2_isScreened_119 : decode cX2_isScreened 119 = .ok (.istore 10, 2) := by decide +kernel
theorem dX2_isScreened_121 : decode cX2_isScreened 121 = .ok (.iload 10, 2) := by decide +kernel
theorem dX2_isScreened_123 : decode cX2_isScreened 123 = .ok (.ifCond .eq 5, 3) := by decide +kernel
theorem dX2_isScreened_126 : decode cX2_isScreened 126 = .ok (.iconst 1, 1) := by decide +kernel
theorem dX2_isScreened_127 : decode cX2_isScreened 127 = .ok (.ireturn, 1) := by decide +kernel
theorem dX2_isScreened_128 : decode cX2_isScreened 128 = .ok (.iinc 6 1, 3) := by decide +kernel
theorem dX2_isScreened_131 : decode cX2_isScreened 131 = .ok (.goto (-106), 3) := by decide +kernel
theorem dX2_isScreened_134 : decode cX2_isScreened 134 = .ok (.iconst 0, 1) := by decide +kernel
theorem dX2_isScreened_135 : decode cX2_isScreened 135 = .ok (.ireturn, 1) := by decide +kernel
theorem dX2_draw_0 : decode cX2_draw 0 = .ok (.aload_n 0, 1) := by decide +kernel
theorem dX2_draw_1 : decode cX2_draw 1 = .ok (.ldc2_w 121, 3) := by decide +kernel
theorem dX2_draw_4 : decode cX2_draw 4 = .ok (.aload_n 0, 1) := by decide +kernel
theorem dX2_draw_5 : decode cX2_draw 5 = .ok (.getfield 21, 3) := by decide +kernel
theorem dX2_draw_8 : decode cX2_draw 8 = .ok (.i2l, 1) := by decide +kernel
theorem dX2_draw_9 : decode cX2_draw 9 = .ok (.lmul, 1) := by decide +kernel
theorem dX2_draw_10 : decode cX2_draw 10 = .ok (.ldc2_w 123, 3) := by decide +kernel
theorem dX2_draw_13 : decode cX2_draw 13 = .ok (.ladd, 1) := by decide +kernel
theorem dX2_draw_14 : decode cX2_draw 14 = .ok (.ldc2_w 125, 3) := by decide +kernel
theorem dX2_draw_17 : decode cX2_draw 17 = .ok (.lrem, 1) := by decide +kernel
theorem dX2_draw_18 : decode cX2_draw 18 = .ok (.l2i, 1) := by decide +kernel
theorem dX2_draw_19 : decode cX2_draw 19 = .ok (.putfield 21, 3) := by decide +kernel
theorem dX2_draw_22 : decode cX2_draw 22 = .ok (.iload_n 1, 1) := by decide +kernel
theorem dX2_draw_23 : decode cX2_draw 23 = .ok (.iconst 1, 1) := by decide +kernel
theorem dX2_draw_24 : decode cX2_draw 24 = .ok (.if_icmp .ge 7, 3) := by decide +kernel
theorem dX2_draw_27 : decode cX2_draw 27 = .ok (.iconst 0, 1) := by decide +kernel
theorem dX2_draw_28 : decode cX2_draw 28 = .ok (.goto 12, 3) := by decide +kernel
theorem dX2_draw_31 : decode cX2_draw 31 = .ok (.aload_n 0, 1) := by decide +kernel
theorem dX2_draw_32 : decode cX2_draw 32 = .ok (.getfield 21, 3) := by decide +kernel
theorem dX2_draw_35 : decode cX2_draw 35 = .ok (.ldc 127, 2) := by decide +kernel
theorem dX2_draw_37 : decode cX2_draw 37 = .ok (.idiv, 1) := by decide +kernel
theorem dX2_draw_38 : decode cX2_draw 38 = .ok (.iload_n 1, 1) := by decide +kernel
theorem dX2_draw_39 : decode cX2_draw 39 = .ok (.irem, 1) := by decide +kernel
theorem dX2_draw_40 : decode cX2_draw 40 = .ok (.ireturn, 1) := by decide +kernel
