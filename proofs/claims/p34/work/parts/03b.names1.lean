theorem dX1_collect_29 : decode cX1_collect 29 = .ok (.ldc 34, 2) := by decide +kernel
theorem dX1_collect_31 : decode cX1_collect 31 = .ok (.ldc 34, 2) := by decide +kernel
theorem dX1_collect_33 : decode cX1_collect 33 = .ok (.invokevirtual 35, 3) := by decide +kernel
theorem dX1_collect_36 : decode cX1_collect 36 = .ok (.iconst 0, 1) := by decide +kernel
theorem dX1_collect_37 : decode cX1_collect 37 = .ok (.istore 5, 2) := by decide +kernel
theorem dX1_collect_39 : decode cX1_collect 39 = .ok (.iload 5, 2) := by decide +kernel
theorem dX1_collect_41 : decode cX1_collect 41 = .ok (.aload_n 1, 1) := by decide +kernel
theorem dX1_collect_42 : decode cX1_collect 42 = .ok (.getfield 39, 3) := by decide +kernel
theorem dX1_collect_45 : decode cX1_collect 45 = .ok (.getfield 20, 3) := by decide +kernel
theorem dX1_collect_48 : decode cX1_collect 48 = .ok (.if_icmp .ge 38, 3) := by decide +kernel
theorem dX1_collect_51 : decode cX1_collect 51 = .ok (.aload_n 0, 1) := by decide +kernel
theorem dX1_collect_52 : decode cX1_collect 52 = .ok (.aload_n 1, 1) := by decide +kernel
theorem dX1_collect_53 : decode cX1_collect 53 = .ok (.aload_n 1, 1) := by decide +kernel
theorem dX1_collect_54 : decode cX1_collect 54 = .ok (.iload 4, 2) := by decide +kernel
theorem dX1_collect_56 : decode cX1_collect 56 = .ok (.aload_n 1, 1) := by decide +kernel
theorem dX1_collect_57 : decode cX1_collect 57 = .ok (.iload 5, 2) := by decide +kernel
theorem dX1_collect_59 : decode cX1_collect 59 = .ok (.iload_n 2, 1) := by decide +kernel
theorem dX1_collect_60 : decode cX1_collect 60 = .ok (.invokevirtual 42, 3) := by decide +kernel
theorem dX1_collect_63 : decode cX1_collect 63 = .ok (.aload_n 1, 1) := by decide +kernel
theorem dX1_collect_64 : decode cX1_collect 64 = .ok (.iload 5, 2) := by decide +kernel
theorem dX1_collect_66 : decode cX1_collect 66 = .ok (.iload_n 3, 1) := by decide +kernel
theorem dX1_collect_67 : decode cX1_collect 67 = .ok (.invokevirtual 46, 3) := by decide +kernel
theorem dX1_collect_70 : decode cX1_collect 70 = .ok (.invokevirtual 30, 3) := by decide +kernel
theorem dX1_collect_73 : decode cX1_collect 73 = .ok (.iload 5, 2) := by decide +kernel
theorem dX1_collect_75 : decode cX1_collect 75 = .ok (.ldc 34, 2) := by decide +kernel
theorem dX1_collect_77 : decode cX1_collect 77 = .ok (.invokevirtual 35, 3) := by decide +kernel
theorem dX1_collect_80 : decode cX1_collect 80 = .ok (.iinc 5 1, 3) := by decide +kernel
theorem dX1_collect_83 : decode cX1_collect 83 = .ok (.goto (-44), 3) := by decide +kernel
theorem dX1_collect_86 : decode cX1_collect 86 = .ok (.aload_n 1, 1) := by decide +kernel
theorem dX1_collect_87 : decode cX1_collect 87 = .ok (.iconst 1, 1) := by decide +kernel
theorem dX1_collect_88 : decode cX1_collect 88 = .ok (.invokevirtual 49, 3) := by decide +kernel
theorem dX1_collect_91 : decode cX1_collect 91 = .ok (.iconst 2, 1) := by decide +kernel
theorem dX1_collect_92 : decode cX1_collect 92 = .ok (.if_icmp .ne 12, 3) := by decide +kernel
theorem dX1_collect_95 : decode cX1_collect 95 = .ok (.aload_n 0, 1) := by decide +kernel
theorem dX1_collect_96 : decode cX1_collect 96 = .ok (.aload_n 1, 1) := by decide +kernel
theorem dX1_collect_97 : decode cX1_collect 97 = .ok (.iload_n 2, 1) := by decide +kernel
theorem dX1_collect_98 : decode cX1_collect 98 = .ok (.iload_n 3, 1) := by decide +kernel
theorem dX1_collect_99 : decode cX1_collect 99 = .ok (.iload 4, 2) := by decide +kernel
theorem dX1_collect_101 : decode cX1_collect 101 = .ok (.invokevirtual 53, 3) := by decide +kernel
theorem dX1_collect_104 : decode cX1_collect 104 = .ok (.return_, 1) := by decide +kernel
set_option maxRecDepth 20000 in
theorem ggX1_collectSecondOrder_X2_mirroredX : GoodIn wsX1_collectSecondOrder wsX2_mirroredX := goodIn_r _ [7, 8, 9, 10, 11, 12, 13, 14, 15, 16, 17, 70, 71, 72, 73, 74, 75, 76, 77, 78, 79, 80, 81] (by decide +kernel) (by decide +kernel)
set_option maxRecDepth 20000 in
theorem gX1_collectSecondOrder_X2_mirroredX : GoodIn wsX1_collectSecondOrder (wsV RX1 42 RX2 yX2_mirroredX wsX2_mirroredX) := goodIn_app (goodIn_of _ (by decide +kernel)) ggX1_collectSecondOrder_X2_mirroredX
set_option maxRecDepth 20000 in
theorem ggX1_collectSecondOrder_X2_mirroredY : GoodIn wsX1_collectSecondOrder wsX2_mirroredY := goodIn_r _ [21, 8, 9, 10, 11, 12, 13, 14, 15, 16, 17, 70, 71, 72, 73, 74, 75, 76, 77, 78, 79, 80, 81] (by decide +kernel) (by decide +kernel)
set_option maxRecDepth 20000 in
theorem gX1_collectSecondOrder_X2_mirroredY : GoodIn wsX1_collectSecondOrder (wsV RX1 46 RX2 yX2_mirroredY wsX2_mirroredY) := goodIn_app (goodIn_of _ (by decide +kernel)) ggX1_collectSecondOrder_X2_mirroredY
set_option maxRecDepth 20000 in
theorem ggX1_collectSecondOrder_X2_wayTo : GoodIn wsX1_collectSecondOrder wsX2_wayTo := goodIn_r _ [25, 26, 9, 10, 11, 12, 13, 14, 15, 16, 17, 27, 28, 29, 30, 31, 70, 71, 72, 73, 74, 75, 76, 77, 78, 79, 80, 81] (by decide +kernel) (by decide +kernel)
set_option maxRecDepth 20000 in
theorem gX1_collectSecondOrder_X2_wayTo : GoodIn wsX1_collectSecondOrder (wsV RX1 30 RX2 yX2_wayTo wsX2_wayTo) := goodIn_app (goodIn_of _ (by decide +kernel)) ggX1_collectSecondOrder_X2_wayTo
set_option maxRecDepth 20000 in
theorem ggX1_collectSecondOrder_X1_append : GoodIn wsX1_collectSecondOrder wsX1_append := goodIn_r _ [36, 37, 38, 39, 40, 29, 41, 42, 43, 44, 45, 6, 46, 8, 47, 48, 49, 12, 50, 14, 9, 10, 11, 13, 15, 16, 17, 51, 52, 53, 54, 55, 56, 57, 58, 59, 60, 61, 62, 63, 64, 65, 66, 67, 68, 69, 82, 70, 71, 72, 73, 74, 75, 76, 77, 78, 79, 80, 81] (by decide +kernel) (by decide +kernel)
set_option maxRecDepth 20000 in
theorem gX1_collectSecondOrder_X1_append : GoodIn wsX1_collectSecondOrder (wsV RX1 35 RX1 yX1_append wsX1_append) := goodIn_app (goodIn_of _ (by decide +kernel)) ggX1_collectSecondOrder_X1_append
theorem dX1_collectSecondOrder_0 : decode cX1_collectSecondOrder 0 = .ok (.iconst 0, 1) := by decide +kernel
theorem dX1_collectSecondOrder_1 : decode cX1_collectSecondOrder 1 = .ok (.istore 5, 2) := by decide +kernel
theorem dX1_collectSecondOrder_3 : decode cX1_collectSecondOrder 3 = .ok (.iload 5, 2) := by decide +kernel
theorem dX1_collectSecondOrder_5 : decode cX1_collectSecondOrder 5 = .ok (.aload_n 1, 1) := by decide +kernel
theorem dX1_collectSecondOrder_6 : decode cX1_collectSecondOrder 6 = .ok (.getfield 39, 3) := by decide +kernel
theorem dX1_collectSecondOrder_9 : decode cX1_collectSecondOrder 9 = .ok (.getfield 20, 3) := by decide +kernel
theorem dX1_collectSecondOrder_12 : decode cX1_collectSecondOrder 12 = .ok (.if_icmp .ge 94, 3) := by decide +kernel
theorem dX1_collectSecondOrder_15 : decode cX1_collectSecondOrder 15 = .ok (.aload_n 1, 1) := by decide +kernel
theorem dX1_collectSecondOrder_16 : decode cX1_collectSecondOrder 16 = .ok (.iload 5, 2) := by decide +kernel
theorem dX1_collectSecondOrder_18 : decode cX1_collectSecondOrder 18 = .ok (.iload_n 2, 1) := by decide +kernel
theorem dX1_collectSecondOrder_19 : decode cX1_collectSecondOrder 19 = .ok (.invokevirtual 42, 3) := by decide +kernel
theorem dX1_collectSecondOrder_22 : decode cX1_collectSecondOrder 22 = .ok (.istore 6, 2) := by decide +kernel
theorem dX1_collectSecondOrder_24 : decode cX1_collectSecondOrder 24 = .ok (.aload_n 1, 1) := by decide +kernel
theorem dX1_collectSecondOrder_25 : decode cX1_collectSecondOrder 25 = .ok (.iload 5, 2) := by decide +kernel
theorem dX1_collectSecondOrder_27 : decode cX1_collectSecondOrder 27 = .ok (.iload_n 3, 1) := by decide +kernel
theorem dX1_collectSecondOrder_28 : decode cX1_collectSecondOrder 28 = .ok (.invokevirtual 46, 3) := by decide +kernel
theorem dX1_collectSecondOrder_31 : decode cX1_collectSecondOrder 31 = .ok (.istore 7, 2) := by decide +kernel
theorem dX1_collectSecondOrder_33 : decode cX1_collectSecondOrder 33 = .ok (.iconst 0, 1) := by decide +kernel
theorem dX1_collectSecondOrder_34 : decode cX1_collectSecondOrder 34 = .ok (.istore 8, 2) := by decide +kernel
theorem dX1_collectSecondOrder_36 : decode cX1_collectSecondOrder 36 = .ok (.iload 8, 2) := by decide +kernel
theorem dX1_collectSecondOrder_38 : decode cX1_collectSecondOrder 38 = .ok (.aload_n 1, 1) := by decide +kernel
theorem dX1_collectSecondOrder_39 : decode cX1_collectSecondOrder 39 = .ok (.getfield 39, 3) := by decide +kernel
theorem dX1_collectSecondOrder_42 : decode cX1_collectSecondOrder 42 = .ok (.getfield 20, 3) := by decide +kernel
theorem dX1_collectSecondOrder_45 : decode cX1_collectSecondOrder 45 = .ok (.if_icmp .ge 55, 3) := by decide +kernel
theorem dX1_collectSecondOrder_48 : decode cX1_collectSecondOrder 48 = .ok (.iload 8, 2) := by decide +kernel
theorem dX1_collectSecondOrder_50 : decode cX1_collectSecondOrder 50 = .ok (.iload 5, 2) := by decide +kernel
theorem dX1_collectSecondOrder_52 : decode cX1_collectSecondOrder 52 = .ok (.if_icmp .eq 42, 3) := by decide +kernel
theorem dX1_collectSecondOrder_55 : decode cX1_collectSecondOrder 55 = .ok (.aload_n 1, 1) := by decide +kernel
theorem dX1_collectSecondOrder_56 : decode cX1_collectSecondOrder 56 = .ok (.iload 8, 2) := by decide +kernel
theorem dX1_collectSecondOrder_58 : decode cX1_collectSecondOrder 58 = .ok (.iload 6, 2) := by decide +kernel
theorem dX1_collectSecondOrder_60 : decode cX1_collectSecondOrder 60 = .ok (.invokevirtual 42, 3) := by decide +kernel
theorem dX1_collectSecondOrder_63 : decode cX1_collectSecondOrder 63 = .ok (.istore 9, 2) := by decide +kernel
theorem dX1_collectSecondOrder_65 : decode cX1_collectSecondOrder 65 = .ok (.aload_n 1, 1) := by decide +kernel
theorem dX1_collectSecondOrder_66 : decode cX1_collectSecondOrder 66 = .ok (.iload 8, 2) := by decide +kernel
theorem dX1_collectSecondOrder_68 : decode cX1_collectSecondOrder 68 = .ok (.iload 7, 2) := by decide +kernel
theorem dX1_collectSecondOrder_70 : decode cX1_collectSecondOrder 70 = .ok (.invokevirtual 46, 3) := by decide +kernel
theorem dX1_collectSecondOrder_73 : decode cX1_collectSecondOrder 73 = .ok (.istore 10, 2) := by decide +kernel
theorem dX1_collectSecondOrder_75 : decode cX1_collectSecondOrder 75 = .ok (.aload_n 0, 1) := by decide +kernel
theorem dX1_collectSecondOrder_76 : decode cX1_collectSecondOrder 76 = .ok (.aload_n 1, 1) := by decide +kernel
theorem dX1_collectSecondOrder_77 : decode cX1_collectSecondOrder 77 = .ok (.aload_n 1, 1) := by decide +kernel
theorem dX1_collectSecondOrder_78 : decode cX1_collectSecondOrder 78 = .ok (.iload 4, 2) := by decide +kernel
theorem dX1_collectSecondOrder_80 : decode cX1_collectSecondOrder 80 = .ok (.iload 9, 2) := by decide +kernel
theorem dX1_collectSecondOrder_82 : decode cX1_collectSecondOrder 82 = .ok (.iload 10, 2) := by decide +kernel
theorem dX1_collectSecondOrder_84 : decode cX1_collectSecondOrder 84 = .ok (.invokevirtual 30, 3) := by decide +kernel
theorem dX1_collectSecondOrder_87 : decode cX1_collectSecondOrder 87 = .ok (.iload 5, 2) := by decide +kernel
theorem dX1_collectSecondOrder_89 : decode cX1_collectSecondOrder 89 = .ok (.iload 8, 2) := by decide +kernel
theorem dX1_collectSecondOrder_91 : decode cX1_collectSecondOrder 91 = .ok (.invokevirtual 35, 3) := by decide +kernel
theorem dX1_collectSecondOrder_94 : decode cX1_collectSecondOrder 94 = .ok (.iinc 8 1, 3) := by decide +kernel
theorem dX1_collectSecondOrder_97 : decode cX1_collectSecondOrder 97 = .ok (.goto (-61), 3) := by decide +kernel
theorem dX1_collectSecondOrder_100 : decode cX1_collectSecondOrder 100 = .ok (.iinc 5 1, 3) := by decide +kernel
theorem dX1_collectSecondOrder_103 : decode cX1_collectSecondOrder 103 = .ok (.goto (-100), 3) := by decide +kernel
theorem dX1_collectSecondOrder_106 : decode cX1_collectSecondOrder 106 = .ok (.return_, 1) := by decide +kernel
set_option maxRecDepth 20000 in
theorem ggX1_append_X7_strength : GoodIn wsX1_append wsX7_strength := goodIn_r _ [6, 7] (by decide +kernel) (by decide +kernel)
set_option maxRecDepth 20000 in
theorem gX1_append_X7_strength : GoodIn wsX1_append (va_wsS RX1 56 yX7_strength wsX7_strength) := goodIn_app (goodIn_of _ (by decide +kernel)) ggX1_append_X7_strength
set_option maxRecDepth 20000 in
theorem ggX1_append_X2_strengthBehind : GoodIn wsX1_append wsX2_strengthBehind := goodIn_r _ [12, 13, 14, 15, 16, 17, 18, 19, 20, 21, 22, 23, 24, 25, 26, 47, 48, 49, 50, 51, 52, 53, 54, 55, 56, 57, 58] (by decide +kernel) (by decide +kernel)
set_option maxRecDepth 20000 in
theorem gX1_append_X2_strengthBehind : GoodIn wsX1_append (wsV RX1 61 RX2 yX2_strengthBehind wsX2_strengthBehind) := goodIn_app (goodIn_of _ (by decide +kernel)) ggX1_append_X2_strengthBehind
set_option maxRecDepth 20000 in
theorem ggX1_append_X9_addRow : GoodIn wsX1_append wsX9_addRow := goodIn_r _ [30, 25, 19, 24, 31, 32, 33, 17, 34, 35, 36, 37, 38, 39, 26, 55, 56, 57, 58] (by decide +kernel) (by decide +kernel)
set_option maxRecDepth 20000 in
theorem gX1_append_X9_addRow : GoodIn wsX1_append (wsV RX1 64 RX9 yX9_addRow wsX9_addRow) := goodIn_app (goodIn_of _ (by decide +kernel)) ggX1_append_X9_addRow
set_option maxRecDepth 20000 in
theorem ggX1_append_X9_put : GoodIn wsX1_append wsX9_put := goodIn_r _ [39, 19, 24, 26, 55, 56, 57, 58] (by decide +kernel) (by decide +kernel)
set_option maxRecDepth 20000 in
theorem gX1_append_X9_put : GoodIn wsX1_append (wsV RX1 68 RX9 yX9_put wsX9_put) := goodIn_app (goodIn_of _ (by decide +kernel)) ggX1_append_X9_put
set_option maxRecDepth 20000 in
theorem ggX1_append_X2_timeFor : GoodIn wsX1_append wsX2_timeFor := goodIn_r _ [44, 45, 20, 21, 22, 17, 23, 19, 24, 25, 26, 47, 48, 49, 50, 51, 52, 53, 54, 55, 56, 57, 58] (by decide +kernel) (by decide +kernel)
set_option maxRecDepth 20000 in
theorem gX1_append_X2_timeFor : GoodIn wsX1_append (wsV RX1 72 RX2 yX2_timeFor wsX2_timeFor) := goodIn_app (goodIn_of _ (by decide +kernel)) ggX1_append_X2_timeFor
theorem dX1_append_0 : decode cX1_append 0 = .ok (.aload_n 1, 1) := by decide +kernel
theorem dX1_append_1 : decode cX1_append 1 = .ok (.iload_n 3, 1) := by decide +kernel
theorem dX1_append_2 : decode cX1_append 2 = .ok (.iload_n 2, 1) := by decide +kernel
theorem dX1_append_3 : decode cX1_append 3 = .ok (.invokestatic 56, 3) := by decide +kernel
theorem dX1_append_6 : decode cX1_append 6 = .ok (.invokevirtual 61, 3) := by decide +kernel
theorem dX1_append_9 : decode cX1_append 9 = .ok (.istore 5, 2) := by decide +kernel
theorem dX1_append_11 : decode cX1_append 11 = .ok (.iload_n 3, 1) := by decide +kernel
theorem dX1_append_12 : decode cX1_append 12 = .ok (.ldc 34, 2) := by decide +kernel
theorem dX1_append_14 : decode cX1_append 14 = .ok (.if_icmp .ne 7, 3) := by decide +kernel
theorem dX1_append_17 : decode cX1_append 17 = .ok (.iconst 0, 1) := by decide +kernel
theorem dX1_append_18 : decode cX1_append 18 = .ok (.goto 4, 3) := by decide +kernel
theorem dX1_append_21 : decode cX1_append 21 = .ok (.iconst 1, 1) := by decide +kernel
theorem dX1_append_22 : decode cX1_append 22 = .ok (.iload 4, 2) := by decide +kernel
theorem dX1_append_24 : decode cX1_append 24 = .ok (.ldc 34, 2) := by decide +kernel
theorem dX1_append_26 : decode cX1_append 26 = .ok (.if_icmp .ne 7, 3) := by decide +kernel
theorem dX1_append_29 : decode cX1_append 29 = .ok (.iconst 0, 1) := by decide +kernel
theorem dX1_append_30 : decode cX1_append 30 = .ok (.goto 4, 3) := by decide +kernel
theorem dX1_append_33 : decode cX1_append 33 = .ok (.iconst 1, 1) := by decide +kernel
theorem dX1_append_34 : decode cX1_append 34 = .ok (.iadd, 1) := by decide +kernel
theorem dX1_append_35 : decode cX1_append 35 = .ok (.istore 6, 2) := by decide +kernel
theorem dX1_append_37 : decode cX1_append 37 = .ok (.aload_n 0, 1) := by decide +kernel
theorem dX1_append_38 : decode cX1_append 38 = .ok (.getfield 14, 3) := by decide +kernel
theorem dX1_append_41 : decode cX1_append 41 = .ok (.invokevirtual 64, 3) := by decide +kernel
theorem dX1_append_44 : decode cX1_append 44 = .ok (.istore 7, 2) := by decide +kernel
theorem dX1_append_46 : decode cX1_append 46 = .ok (.aload_n 0, 1) := by decide +kernel
theorem dX1_append_47 : decode cX1_append 47 = .ok (.getfield 14, 3) := by decide +kernel
theorem dX1_append_50 : decode cX1_append 50 = .ok (.iload 7, 2) := by decide +kernel
theorem dX1_append_52 : decode cX1_append 52 = .ok (.iconst 0, 1) := by decide +kernel
theorem dX1_append_53 : decode cX1_append 53 = .ok (.iload 6, 2) := by decide +kernel
theorem dX1_append_55 : decode cX1_append 55 = .ok (.invokevirtual 68, 3) := by decide +kernel
theorem dX1_append_58 : decode cX1_append 58 = .ok (.aload_n 0, 1) := by decide +kernel
theorem dX1_append_59 : decode cX1_append 59 = .ok (.getfield 14, 3) := by decide +kernel
theorem dX1_append_62 : decode cX1_append 62 = .ok (.iload 7, 2) := by decide +kernel
theorem dX1_append_64 : decode cX1_append 64 = .ok (.iconst 1, 1) := by decide +kernel
theorem dX1_append_65 : decode cX1_append 65 = .ok (.iload_n 2, 1) := by decide +kernel
theorem dX1_append_66 : decode cX1_append 66 = .ok (.invokevirtual 68, 3) := by decide +kernel
theorem dX1_append_69 : decode cX1_append 69 = .ok (.aload_n 0, 1) := by decide +kernel
theorem dX1_append_70 : decode cX1_append 70 = .ok (.getfield 14, 3) := by decide +kernel
theorem dX1_append_73 : decode cX1_append 73 = .ok (.iload 7, 2) := by decide +kernel
theorem dX1_append_75 : decode cX1_append 75 = .ok (.iconst 2, 1) := by decide +kernel
theorem dX1_append_76 : decode cX1_append 76 = .ok (.aload_n 1, 1) := by decide +kernel
theorem dX1_append_77 : decode cX1_append 77 = .ok (.iload_n 2, 1) := by decide +kernel
theorem dX1_append_78 : decode cX1_append 78 = .ok (.invokevirtual 72, 3) := by decide +kernel
theorem dX1_append_81 : decode cX1_append 81 = .ok (.invokevirtual 68, 3) := by decide +kernel
theorem dX1_append_84 : decode cX1_append 84 = .ok (.aload_n 0, 1) := by decide +kernel
theorem dX1_append_85 : decode cX1_append 85 = .ok (.getfield 14, 3) := by decide +kernel
theorem dX1_append_88 : decode cX1_append 88 = .ok (.iload 7, 2) := by decide +kernel
theorem dX1_append_90 : decode cX1_append 90 = .ok (.iconst 3, 1) := by decide +kernel
theorem dX1_append_91 : decode cX1_append 91 = .ok (.aload_n 1, 1) := by decide +kernel
theorem dX1_append_92 : decode cX1_append 92 = .ok (.iload 4, 2) := by decide +kernel
theorem dX1_append_94 : decode cX1_append 94 = .ok (.iload 5, 2) := by decide +kernel
theorem dX1_append_96 : decode cX1_append 96 = .ok (.invokevirtual 61, 3) := by decide +kernel
theorem dX1_append_99 : decode cX1_append 99 = .ok (.invokevirtual 68, 3) := by decide +kernel
theorem dX1_append_102 : decode cX1_append 102 = .ok (.aload_n 0, 1) := by decide +kernel
theorem dX1_append_103 : decode cX1_append 103 = .ok (.getfield 14, 3) := by decide +kernel
theorem dX1_append_106 : decode cX1_append 106 = .ok (.iload 7, 2) := by decide +kernel
theorem dX1_append_108 : decode cX1_append 108 = .ok (.iconst 4, 1) := by decide +kernel
theorem dX1_append_109 : decode cX1_append 109 = .ok (.iload_n 3, 1) := by decide +kernel
theorem dX1_append_110 : decode cX1_append 110 = .ok (.invokevirtual 68, 3) := by decide +kernel
theorem dX1_append_113 : decode cX1_append 113 = .ok (.aload_n 0, 1) := by decide +kernel
theorem dX1_append_114 : decode cX1_append 114 = .ok (.getfield 14, 3) := by decide +kernel
theorem dX1_append_117 : decode cX1_append 117 = .ok (.iload 7, 2) := by decide +kernel
theorem dX1_append_119 : decode cX1_append 119 = .ok (.iconst 5, 1) := by decide +kernel
theorem dX1_append_120 : decode cX1_append 120 = .ok (.iload 4, 2) := by decide +kernel
theorem dX1_append_122 : decode cX1_append 122 = .ok (.invokevirtual 68, 3) := by decide +kernel
theorem dX1_append_125 : decode cX1_append 125 = .ok (.return_, 1) := by decide +kernel
set_option maxRecDepth 20000 in
theorem ggX2_init_X9_init : GoodIn wsX2_init wsX9_init := goodIn_r _ [17, 18, 2, 3, 19, 20, 21, 22, 23, 24, 25, 26, 27, 50, 51, 52, 53] (by decide +kernel) (by decide +kernel)
set_option maxRecDepth 20000 in
theorem gX2_init_X9_init : GoodIn wsX2_init (wsX9_init) := ggX2_init_X9_init
set_option maxRecDepth 20000 in
theorem ggX2_init_X9_addRow : GoodIn wsX2_init wsX9_addRow := goodIn_r _ [31, 32, 19, 21, 33, 34, 35, 10, 36, 20, 37, 38, 39, 40, 27, 50, 51, 52, 53] (by decide +kernel) (by decide +kernel)
set_option maxRecDepth 20000 in
theorem gX2_init_X9_addRow : GoodIn wsX2_init (wsV RX2 46 RX9 yX9_addRow wsX9_addRow) := goodIn_app (goodIn_of _ (by decide +kernel)) ggX2_init_X9_addRow
set_option maxRecDepth 20000 in
theorem ggX2_init_X9_put : GoodIn wsX2_init wsX9_put := goodIn_r _ [40, 19, 21, 27, 50, 51, 52, 53] (by decide +kernel) (by decide +kernel)
set_option maxRecDepth 20000 in
theorem gX2_init_X9_put : GoodIn wsX2_init (wsV RX2 53 RX9 yX9_put wsX9_put) := goodIn_app (goodIn_of _ (by decide +kernel)) ggX2_init_X9_put
theorem dX2_init_0 : decode cX2_init 0 = .ok (.aload_n 0, 1) := by decide +kernel
theorem dX2_init_1 : decode cX2_init 1 = .ok (.invokespecial 3, 3) := by decide +kernel
theorem dX2_init_4 : decode cX2_init 4 = .ok (.aload_n 0, 1) := by decide +kernel
theorem dX2_init_5 : decode cX2_init 5 = .ok (.bipush 10, 2) := by decide +kernel
theorem dX2_init_7 : decode cX2_init 7 = .ok (.putfield 9, 3) := by decide +kernel
theorem dX2_init_10 : decode cX2_init 10 = .ok (.aload_n 0, 1) := by decide +kernel
theorem dX2_init_11 : decode cX2_init 11 = .ok (.bipush 8, 2) := by decide +kernel
theorem dX2_init_13 : decode cX2_init 13 = .ok (.putfield 15, 3) := by decide +kernel
theorem dX2_init_16 : decode cX2_init 16 = .ok (.aload_n 0, 1) := by decide +kernel
theorem dX2_init_17 : decode cX2_init 17 = .ok (.iconst 0, 1) := by decide +kernel
theorem dX2_init_18 : decode cX2_init 18 = .ok (.putfield 18, 3) := by decide +kernel
theorem dX2_init_21 : decode cX2_init 21 = .ok (.aload_n 0, 1) := by decide +kernel
theorem dX2_init_22 : decode cX2_init 22 = .ok (.iconst 1, 1) := by decide +kernel
theorem dX2_init_23 : decode cX2_init 23 = .ok (.putfield 21, 3) := by decide +kernel
theorem dX2_init_26 : decode cX2_init 26 = .ok (.aload_n 0, 1) := by decide +kernel
theorem dX2_init_27 : decode cX2_init 27 = .ok (.new 24, 3) := by decide +kernel
theorem dX2_init_30 : decode cX2_init 30 = .ok (.dup, 1) := by decide +kernel
theorem dX2_init_31 : decode cX2_init 31 = .ok (.bipush 8, 2) := by decide +kernel
theorem dX2_init_33 : decode cX2_init 33 = .ok (.bipush 9, 2) := by decide +kernel
theorem dX2_init_35 : decode cX2_init 35 = .ok (.invokespecial 26, 3) := by decide +kernel
theorem dX2_init_38 : decode cX2_init 38 = .ok (.putfield 29, 3) := by decide +kernel
theorem dX2_init_41 : decode cX2_init 41 = .ok (.aload_n 0, 1) := by decide +kernel
theorem dX2_init_42 : decode cX2_init 42 = .ok (.new 24, 3) := by decide +kernel
theorem dX2_init_45 : decode cX2_init 45 = .ok (.dup, 1) := by decide +kernel
theorem dX2_init_46 : decode cX2_init 46 = .ok (.iconst 4, 1) := by decide +kernel
theorem dX2_init_47 : decode cX2_init 47 = .ok (.getstatic 33, 3) := by decide +kernel
theorem dX2_init_50 : decode cX2_init 50 = .ok (.iconst 1, 1) := by decide +kernel
theorem dX2_init_51 : decode cX2_init 51 = .ok (.iaload, 1) := by decide +kernel
theorem dX2_init_52 : decode cX2_init 52 = .ok (.invokespecial 26, 3) := by decide +kernel
theorem dX2_init_55 : decode cX2_init 55 = .ok (.putfield 37, 3) := by decide +kernel
theorem dX2_init_58 : decode cX2_init 58 = .ok (.aload_n 0, 1) := by decide +kernel
theorem dX2_init_59 : decode cX2_init 59 = .ok (.new 24, 3) := by decide +kernel
theorem dX2_init_62 : decode cX2_init 62 = .ok (.dup, 1) := by decide +kernel
theorem dX2_init_63 : decode cX2_init 63 = .ok (.iconst 4, 1) := by decide +kernel
theorem dX2_init_64 : decode cX2_init 64 = .ok (.getstatic 33, 3) := by decide +kernel
theorem dX2_init_67 : decode cX2_init 67 = .ok (.iconst 2, 1) := by decide +kernel
theorem dX2_init_68 : decode cX2_init 68 = .ok (.iaload, 1) := by decide +kernel
theorem dX2_init_69 : decode cX2_init 69 = .ok (.invokespecial 26, 3) := by decide +kernel
theorem dX2_init_72 : decode cX2_init 72 = .ok (.putfield 40, 3) := by decide +kernel
theorem dX2_init_75 : decode cX2_init 75 = .ok (.aload_n 0, 1) := by decide +kernel
theorem dX2_init_76 : decode cX2_init 76 = .ok (.new 24, 3) := by decide +kernel
theorem dX2_init_79 : decode cX2_init 79 = .ok (.dup, 1) := by decide +kernel
theorem dX2_init_80 : decode cX2_init 80 = .ok (.bipush 7, 2) := by decide +kernel
theorem dX2_init_82 : decode cX2_init 82 = .ok (.getstatic 33, 3) := by decide +kernel
theorem dX2_init_85 : decode cX2_init 85 = .ok (.iconst 3, 1) := by decide +kernel
theorem dX2_init_86 : decode cX2_init 86 = .ok (.iaload, 1) := by decide +kernel
theorem dX2_init_87 : decode cX2_init 87 = .ok (.invokespecial 26, 3) := by decide +kernel
theorem dX2_init_90 : decode cX2_init 90 = .ok (.putfield 43, 3) := by decide +kernel
theorem dX2_init_93 : decode cX2_init 93 = .ok (.iconst 0, 1) := by decide +kernel
theorem dX2_init_94 : decode cX2_init 94 = .ok (.istore_n 1, 1) := by decide +kernel
theorem dX2_init_95 : decode cX2_init 95 = .ok (.iload_n 1, 1) := by decide +kernel
theorem dX2_init_96 : decode cX2_init 96 = .ok (.bipush 7, 2) := by decide +kernel
theorem dX2_init_98 : decode cX2_init 98 = .ok (.if_icmp .ge 29, 3) := by decide +kernel
theorem dX2_init_101 : decode cX2_init 101 = .ok (.aload_n 0, 1) := by decide +kernel
theorem dX2_init_102 : decode cX2_init 102 = .ok (.getfield 43, 3) := by decide +kernel
theorem dX2_init_105 : decode cX2_init 105 = .ok (.aload_n 0, 1) := by decide +kernel
theorem dX2_init_106 : decode cX2_init 106 = .ok (.getfield 43, 3) := by decide +kernel
theorem dX2_init_109 : decode cX2_init 109 = .ok (.invokevirtual 46, 3) := by decide +kernel
theorem dX2_init_112 : decode cX2_init 112 = .ok (.iconst 0, 1) := by decide +kernel
theorem dX2_init_113 : decode cX2_init 113 = .ok (.getstatic 50, 3) := by decide +kernel
theorem dX2_init_116 : decode cX2_init 116 = .ok (.iload_n 1, 1) := by decide +kernel
theorem dX2_init_117 : decode cX2_init 117 = .ok (.iaload, 1) := by decide +kernel
theorem dX2_init_118 : decode cX2_init 118 = .ok (.invokevirtual 53, 3) := by decide +kernel
theorem dX2_init_121 : decode cX2_init 121 = .ok (.iinc 1 1, 3) := by decide +kernel
theorem dX2_init_124 : decode cX2_init 124 = .ok (.goto (-29), 3) := by decide +kernel
theorem dX2_init_127 : decode cX2_init 127 = .ok (.return_, 1) := by decide +kernel
set_option maxRecDepth 20000 in
theorem ggX2_copyFrom_X9_copyFrom : GoodIn wsX2_copyFrom wsX9_copyFrom := goodIn_r _ [13, 14, 15, 16, 17, 18, 19, 20, 21, 22, 23, 32, 33, 34, 35] (by decide +kernel) (by decide +kernel)
set_option maxRecDepth 20000 in
theorem gX2_copyFrom_X9_copyFrom : GoodIn wsX2_copyFrom (wsV RX2 57 RX9 yX9_copyFrom wsX9_copyFrom) := goodIn_app (goodIn_of _ (by decide +kernel)) ggX2_copyFrom_X9_copyFrom
theorem dX2_copyFrom_0 : decode cX2_copyFrom 0 = .ok (.aload_n 0, 1) := by decide +kernel
theorem dX2_copyFrom_1 : decode cX2_copyFrom 1 = .ok (.aload_n 1, 1) := by decide +kernel
theorem dX2_copyFrom_2 : decode cX2_copyFrom 2 = .ok (.getfield 9, 3) := by decide +kernel
theorem dX2_copyFrom_5 : decode cX2_copyFrom 5 = .ok (.putfield 9, 3) := by decide +kernel
theorem dX2_copyFrom_8 : decode cX2_copyFrom 8 = .ok (.aload_n 0, 1) := by decide +kernel
theorem dX2_copyFrom_9 : decode cX2_copyFrom 9 = .ok (.aload_n 1, 1) := by decide +kernel
theorem dX2_copyFrom_10 : decode cX2_copyFrom 10 = .ok (.getfield 15, 3) := by decide +kernel
theorem dX2_copyFrom_13 : decode cX2_copyFrom 13 = .ok (.putfield 15, 3) := by decide +kernel
theorem dX2_copyFrom_16 : decode cX2_copyFrom 16 = .ok (.aload_n 0, 1) := by decide +kernel
theorem dX2_copyFrom_17 : decode cX2_copyFrom 17 = .ok (.aload_n 1, 1) := by decide +kernel
theorem dX2_copyFrom_18 : decode cX2_copyFrom 18 = .ok (.getfield 18, 3) := by decide +kernel
theorem dX2_copyFrom_21 : decode cX2_copyFrom 21 = .ok (.putfield 18, 3) := by decide +kernel
theorem dX2_copyFrom_24 : decode cX2_copyFrom 24 = .ok (.aload_n 0, 1) := by decide +kernel
theorem dX2_copyFrom_25 : decode cX2_copyFrom 25 = .ok (.aload_n 1, 1) := by decide +kernel
theorem dX2_copyFrom_26 : decode cX2_copyFrom 26 = .ok (.getfield 21, 3) := by decide +kernel
theorem dX2_copyFrom_29 : decode cX2_copyFrom 29 = .ok (.putfield 21, 3) := by decide +kernel
theorem dX2_copyFrom_32 : decode cX2_copyFrom 32 = .ok (.aload_n 0, 1) := by decide +kernel
theorem dX2_copyFrom_33 : decode cX2_copyFrom 33 = .ok (.getfield 29, 3) := by decide +kernel
theorem dX2_copyFrom_36 : decode cX2_copyFrom 36 = .ok (.aload_n 1, 1) := by decide +kernel
theorem dX2_copyFrom_37 : decode cX2_copyFrom 37 = .ok (.getfield 29, 3) := by decide +kernel
theorem dX2_copyFrom_40 : decode cX2_copyFrom 40 = .ok (.invokevirtual 57, 3) := by decide +kernel
theorem dX2_copyFrom_43 : decode cX2_copyFrom 43 = .ok (.aload_n 0, 1) := by decide +kernel
theorem dX2_copyFrom_44 : decode cX2_copyFrom 44 = .ok (.getfield 37, 3) := by decide +kernel
theorem dX2_copyFrom_47 : decode cX2_copyFrom 47 = .ok (.aload_n 1, 1) := by decide +kernel
theorem dX2_copyFrom_48 : decode cX2_copyFrom 48 = .ok (.getfield 37, 3) := by decide +kernel
theorem dX2_copyFrom_51 : decode cX2_copyFrom 51 = .ok (.invokevirtual 57, 3) := by decide +kernel
theorem dX2_copyFrom_54 : decode cX2_copyFrom 54 = .ok (.aload_n 0, 1) := by decide +kernel
theorem dX2_copyFrom_55 : decode cX2_copyFrom 55 = .ok (.getfield 40, 3) := by decide +kernel
theorem dX2_copyFrom_58 : decode cX2_copyFrom 58 = .ok (.aload_n 1, 1) := by decide +kernel
theorem dX2_copyFrom_59 : decode cX2_copyFrom 59 = .ok (.getfield 40, 3) := by decide +kernel
theorem dX2_copyFrom_62 : decode cX2_copyFrom 62 = .ok (.invokevirtual 57, 3) := by decide +kernel
theorem dX2_copyFrom_65 : decode cX2_copyFrom 65 = .ok (.aload_n 0, 1) := by decide +kernel
theorem dX2_copyFrom_66 : decode cX2_copyFrom 66 = .ok (.getfield 43, 3) := by decide +kernel
theorem dX2_copyFrom_69 : decode cX2_copyFrom 69 = .ok (.aload_n 1, 1) := by decide +kernel
theorem dX2_copyFrom_70 : decode cX2_copyFrom 70 = .ok (.getfield 43, 3) := by decide +kernel
theorem dX2_copyFrom_73 : decode cX2_copyFrom 73 = .ok (.invokevirtual 57, 3) := by decide +kernel
theorem dX2_copyFrom_76 : decode cX2_copyFrom 76 = .ok (.return_, 1) := by decide +kernel
theorem dX2_tableOf_0 : decode cX2_tableOf 0 = .ok (.iload_n 1, 1) := by decide +kernel
theorem dX2_tableOf_1 : decode cX2_tableOf 1 = .ok (.tableswitch 42 0 2 #[27, 32, 37], 27) := by decide +kernel
theorem dX2_tableOf_28 : decode cX2_tableOf 28 = .ok (.aload_n 0, 1) := by decide +kernel
theorem dX2_tableOf_29 : decode cX2_tableOf 29 = .ok (.getfield 29, 3) := by decide +kernel
theorem dX2_tableOf_32 : decode cX2_tableOf 32 = .ok (.areturn, 1) := by decide +kernel
theorem dX2_tableOf_33 : decode cX2_tableOf 33 = .ok (.aload_n 0, 1) := by decide +kernel
theorem dX2_tableOf_34 : decode cX2_tableOf 34 = .ok (.getfield 37, 3) := by decide +kernel
theorem dX2_tableOf_37 : decode cX2_tableOf 37 = .ok (.areturn, 1) := by decide +kernel
theorem dX2_tableOf_38 : decode cX2_tableOf 38 = .ok (.aload_n 0, 1) := by decide +kernel
theorem dX2_tableOf_39 : decode cX2_tableOf 39 = .ok (.getfield 40, 3) := by decide +kernel
theorem dX2_tableOf_42 : decode cX2_tableOf 42 = .ok (.areturn, 1) := by decide +kernel
theorem dX2_tableOf_43 : decode cX2_tableOf 43 = .ok (.aload_n 0, 1) := by decide +kernel
theorem dX2_tableOf_44 : decode cX2_tableOf 44 = .ok (.getfield 43, 3) := by decide +kernel
theorem dX2_tableOf_47 : decode cX2_tableOf 47 = .ok (.areturn, 1) := by decide +kernel
set_option maxRecDepth 20000 in
theorem ggX2_setting_X9_at : GoodIn wsX2_setting wsX9_at := goodIn_r _ [6, 7, 8, 9, 10, 19, 20, 21, 22] (by decide +kernel) (by decide +kernel)
set_option maxRecDepth 20000 in
theorem gX2_setting_X9_at : GoodIn wsX2_setting (wsV RX2 61 RX9 yX9_at wsX9_at) := goodIn_app (goodIn_of _ (by decide +kernel)) ggX2_setting_X9_at
theorem dX2_setting_0 : decode cX2_setting 0 = .ok (.aload_n 0, 1) := by decide +kernel
theorem dX2_setting_1 : decode cX2_setting 1 = .ok (.getfield 43, 3) := by decide +kernel
theorem dX2_setting_4 : decode cX2_setting 4 = .ok (.iload_n 1, 1) := by decide +kernel
theorem dX2_setting_5 : decode cX2_setting 5 = .ok (.iconst 0, 1) := by decide +kernel
theorem dX2_setting_6 : decode cX2_setting 6 = .ok (.invokevirtual 61, 3) := by decide +kernel
theorem dX2_setting_9 : decode cX2_setting 9 = .ok (.ireturn, 1) := by decide +kernel
set_option maxRecDepth 20000 in
theorem ggX2_refusalOfField_X11_isBetween : GoodIn wsX2_refusalOfField wsX11_isBetween := goodIn_r _ [3] (by decide +kernel) (by decide +kernel)
set_option maxRecDepth 20000 in
theorem gX2_refusalOfField_X11_isBetween_n65 : GoodIn wsX2_refusalOfField (wsX11_isBetween) := ggX2_refusalOfField_X11_isBetween
theorem dX2_refusalOfField_0 : decode cX2_refusalOfField 0 = .ok (.iload_n 1, 1) := by decide +kernel
theorem dX2_refusalOfField_1 : decode cX2_refusalOfField 1 = .ok (.iconst 2, 1) := by decide +kernel
theorem dX2_refusalOfField_2 : decode cX2_refusalOfField 2 = .ok (.bipush 20, 2) := by decide +kernel
theorem dX2_refusalOfField_4 : decode cX2_refusalOfField 4 = .ok (.invokestatic 65, 3) := by decide +kernel
theorem dX2_refusalOfField_7 : decode cX2_refusalOfField 7 = .ok (.ifCond .eq 17, 3) := by decide +kernel
theorem dX2_refusalOfField_10 : decode cX2_refusalOfField 10 = .ok (.iload_n 2, 1) := by decide +kernel
theorem dX2_refusalOfField_11 : decode cX2_refusalOfField 11 = .ok (.iconst 2, 1) := by decide +kernel
theorem dX2_refusalOfField_12 : decode cX2_refusalOfField 12 = .ok (.bipush 20, 2) := by decide +kernel
theorem dX2_refusalOfField_14 : decode cX2_refusalOfField 14 = .ok (.invokestatic 65, 3) := by decide +kernel
theorem dX2_refusalOfField_17 : decode cX2_refusalOfField 17 = .ok (.ifCond .eq 7, 3) := by decide +kernel
theorem dX2_refusalOfField_20 : decode cX2_refusalOfField 20 = .ok (.iconst 0, 1) := by decide +kernel
theorem dX2_refusalOfField_21 : decode cX2_refusalOfField 21 = .ok (.goto 4, 3) := by decide +kernel
theorem dX2_refusalOfField_24 : decode cX2_refusalOfField 24 = .ok (.iconst 2, 1) := by decide +kernel
theorem dX2_refusalOfField_25 : decode cX2_refusalOfField 25 = .ok (.ireturn, 1) := by decide +kernel
theorem dX2_startField_0 : decode cX2_startField 0 = .ok (.aload_n 0, 1) := by decide +kernel
theorem dX2_startField_1 : decode cX2_startField 1 = .ok (.getfield 18, 3) := by decide +kernel
theorem dX2_startField_4 : decode cX2_startField 4 = .ok (.istore_n 3, 1) := by decide +kernel
theorem dX2_startField_5 : decode cX2_startField 5 = .ok (.aload_n 0, 1) := by decide +kernel
theorem dX2_startField_6 : decode cX2_startField 6 = .ok (.iload_n 1, 1) := by decide +kernel
theorem dX2_startField_7 : decode cX2_startField 7 = .ok (.putfield 9, 3) := by decide +kernel
theorem dX2_startField_10 : decode cX2_startField 10 = .ok (.aload_n 0, 1) := by decide +kernel
theorem dX2_startField_11 : decode cX2_startField 11 = .ok (.iload_n 2, 1) := by decide +kernel
theorem dX2_startField_12 : decode cX2_startField 12 = .ok (.putfield 15, 3) := by decide +kernel
theorem dX2_startField_15 : decode cX2_startField 15 = .ok (.aload_n 0, 1) := by decide +kernel
theorem dX2_startField_16 : decode cX2_startField 16 = .ok (.iconst 0, 1) := by decide +kernel
theorem dX2_startField_17 : decode cX2_startField 17 = .ok (.putfield 18, 3) := by decide +kernel
theorem dX2_startField_20 : decode cX2_startField 20 = .ok (.aload_n 0, 1) := by decide +kernel
theorem dX2_startField_21 : decode cX2_startField 21 = .ok (.getfield 29, 3) := by decide +kernel
theorem dX2_startField_24 : decode cX2_startField 24 = .ok (.iconst 0, 1) := by decide +kernel
theorem dX2_startField_25 : decode cX2_startField 25 = .ok (.putfield 69, 3) := by decide +kernel
theorem dX2_startField_28 : decode cX2_startField 28 = .ok (.aload_n 0, 1) := by decide +kernel
theorem dX2_startField_29 : decode cX2_startField 29 = .ok (.getfield 37, 3) := by decide +kernel
theorem dX2_startField_32 : decode cX2_startField 32 = .ok (.iconst 0, 1) := by decide +kernel
theorem dX2_startField_33 : decode cX2_startField 33 = .ok (.putfield 69, 3) := by decide +kernel
theorem dX2_startField_36 : decode cX2_startField 36 = .ok (.aload_n 0, 1) := by decide +kernel
theorem dX2_startField_37 : decode cX2_startField 37 = .ok (.getfield 40, 3) := by decide +kernel
theorem dX2_startField_40 : decode cX2_startField 40 = .ok (.iconst 0, 1) := by decide +kernel
theorem dX2_startField_41 : decode cX2_startField 41 = .ok (.putfield 69, 3) := by decide +kernel
theorem dX2_startField_44 : decode cX2_startField 44 = .ok (.iload_n 3, 1) := by decide +kernel
theorem dX2_startField_45 : decode cX2_startField 45 = .ok (.ireturn, 1) := by decide +kernel
set_option maxRecDepth 20000 in
theorem ggX2_refusalOfMicrophone_X11_isBetween : GoodIn wsX2_refusalOfMicrophone wsX11_isBetween := goodIn_r _ [4] (by decide +kernel) (by decide +kernel)
set_option maxRecDepth 20000 in
theorem gX2_refusalOfMicrophone_X11_isBetween_n65 : GoodIn wsX2_refusalOfMicrophone (wsX11_isBetween) := ggX2_refusalOfMicrophone_X11_isBetween
set_option maxRecDepth 20000 in
theorem ggX2_refusalOfMicrophone_X9_isFull : GoodIn wsX2_refusalOfMicrophone wsX9_isFull := goodIn_r _ [9, 10, 11, 20, 21, 22, 23] (by decide +kernel) (by decide +kernel)
set_option maxRecDepth 20000 in
theorem gX2_refusalOfMicrophone_X9_isFull : GoodIn wsX2_refusalOfMicrophone (wsV RX2 72 RX9 yX9_isFull wsX9_isFull) := goodIn_app (goodIn_of _ (by decide +kernel)) ggX2_refusalOfMicrophone_X9_isFull
theorem dX2_refusalOfMicrophone_0 : decode cX2_refusalOfMicrophone 0 = .ok (.iload_n 1, 1) := by decide +kernel
theorem dX2_refusalOfMicrophone_1 : decode cX2_refusalOfMicrophone 1 = .ok (.sipush (-500), 3) := by decide +kernel
theorem dX2_refusalOfMicrophone_4 : decode cX2_refusalOfMicrophone 4 = .ok (.sipush 2500, 3) := by decide +kernel
theorem dX2_refusalOfMicrophone_7 : decode cX2_refusalOfMicrophone 7 = .ok (.invokestatic 65, 3) := by decide +kernel
theorem dX2_refusalOfMicrophone_10 : decode cX2_refusalOfMicrophone 10 = .ok (.ifCond .eq 16, 3) := by decide +kernel
theorem dX2_refusalOfMicrophone_13 : decode cX2_refusalOfMicrophone 13 = .ok (.iload_n 2, 1) := by decide +kernel
theorem dX2_refusalOfMicrophone_14 : decode cX2_refusalOfMicrophone 14 = .ok (.sipush (-500), 3) := by decide +kernel
theorem dX2_refusalOfMicrophone_17 : decode cX2_refusalOfMicrophone 17 = .ok (.sipush 2500, 3) := by decide +kernel
theorem dX2_refusalOfMicrophone_20 : decode cX2_refusalOfMicrophone 20 = .ok (.invokestatic 65, 3) := by decide +kernel
theorem dX2_refusalOfMicrophone_23 : decode cX2_refusalOfMicrophone 23 = .ok (.ifCond .ne 5, 3) := by decide +kernel
theorem dX2_refusalOfMicrophone_26 : decode cX2_refusalOfMicrophone 26 = .ok (.iconst 2, 1) := by decide +kernel
theorem dX2_refusalOfMicrophone_27 : decode cX2_refusalOfMicrophone 27 = .ok (.ireturn, 1) := by decide +kernel
theorem dX2_refusalOfMicrophone_28 : decode cX2_refusalOfMicrophone 28 = .ok (.aload_n 0, 1) := by decide +kernel
theorem dX2_refusalOfMicrophone_29 : decode cX2_refusalOfMicrophone 29 = .ok (.getfield 29, 3) := by decide +kernel
theorem dX2_refusalOfMicrophone_32 : decode cX2_refusalOfMicrophone 32 = .ok (.invokevirtual 72, 3) := by decide +kernel
theorem dX2_refusalOfMicrophone_35 : decode cX2_refusalOfMicrophone 35 = .ok (.ifCond .eq 7, 3) := by decide +kernel
theorem dX2_refusalOfMicrophone_38 : decode cX2_refusalOfMicrophone 38 = .ok (.iconst 3, 1) := by decide +kernel
theorem dX2_refusalOfMicrophone_39 : decode cX2_refusalOfMicrophone 39 = .ok (.goto 4, 3) := by decide +kernel
theorem dX2_refusalOfMicrophone_42 : decode cX2_refusalOfMicrophone 42 = .ok (.iconst 0, 1) := by decide +kernel
theorem dX2_refusalOfMicrophone_43 : decode cX2_refusalOfMicrophone 43 = .ok (.ireturn, 1) := by decide +kernel
set_option maxRecDepth 20000 in
theorem ggX2_placeMicrophone_X9_addRow : GoodIn wsX2_placeMicrophone wsX9_addRow := goodIn_r _ [6, 7, 8, 9, 10, 11, 12, 5, 13, 14, 15, 16, 17, 18, 19, 29, 30, 31, 32] (by decide +kernel) (by decide +kernel)
set_option maxRecDepth 20000 in
theorem gX2_placeMicrophone_X9_addRow : GoodIn wsX2_placeMicrophone (wsV RX2 46 RX9 yX9_addRow wsX9_addRow) := goodIn_app (goodIn_of _ (by decide +kernel)) ggX2_placeMicrophone_X9_addRow
set_option maxRecDepth 20000 in
theorem ggX2_placeMicrophone_X9_put : GoodIn wsX2_placeMicrophone wsX9_put := goodIn_r _ [18, 8, 9, 19, 29, 30, 31, 32] (by decide +kernel) (by decide +kernel)
set_option maxRecDepth 20000 in
theorem gX2_placeMicrophone_X9_put : GoodIn wsX2_placeMicrophone (wsV RX2 53 RX9 yX9_put wsX9_put) := goodIn_app (goodIn_of _ (by decide +kernel)) ggX2_placeMicrophone_X9_put
theorem dX2_placeMicrophone_0 : decode cX2_placeMicrophone 0 = .ok (.aload_n 0, 1) := by decide +kernel
theorem dX2_placeMicrophone_1 : decode cX2_placeMicrophone 1 = .ok (.getfield 29, 3) := by decide +kernel
theorem dX2_placeMicrophone_4 : decode cX2_placeMicrophone 4 = .ok (.invokevirtual 46, 3) := by decide +kernel
theorem dX2_placeMicrophone_7 : decode cX2_placeMicrophone 7 = .ok (.istore_n 3, 1) := by decide +kernel
theorem dX2_placeMicrophone_8 : decode cX2_placeMicrophone 8 = .ok (.aload_n 0, 1) := by decide +kernel
theorem dX2_placeMicrophone_9 : decode cX2_placeMicrophone 9 = .ok (.getfield 29, 3) := by decide +kernel
theorem dX2_placeMicrophone_12 : decode cX2_placeMicrophone 12 = .ok (.iload_n 3, 1) := by decide +kernel
theorem dX2_placeMicrophone_13 : decode cX2_placeMicrophone 13 = .ok (.iconst 0, 1) := by decide +kernel
theorem dX2_placeMicrophone_14 : decode cX2_placeMicrophone 14 = .ok (.iload_n 1, 1) := by decide +kernel
theorem dX2_placeMicrophone_15 : decode cX2_placeMicrophone 15 = .ok (.invokevirtual 53, 3) := by decide +kernel
theorem dX2_placeMicrophone_18 : decode cX2_placeMicrophone 18 = .ok (.aload_n 0, 1) := by decide +kernel
theorem dX2_placeMicrophone_19 : decode cX2_placeMicrophone 19 = .ok (.getfield 29, 3) := by decide +kernel
theorem dX2_placeMicrophone_22 : decode cX2_placeMicrophone 22 = .ok (.iload_n 3, 1) := by decide +kernel
theorem dX2_placeMicrophone_23 : decode cX2_placeMicrophone 23 = .ok (.iconst 1, 1) := by decide +kernel
theorem dX2_placeMicrophone_24 : decode cX2_placeMicrophone 24 = .ok (.iload_n 2, 1) := by decide +kernel
theorem dX2_placeMicrophone_25 : decode cX2_placeMicrophone 25 = .ok (.invokevirtual 53, 3) := by decide +kernel
theorem dX2_placeMicrophone_28 : decode cX2_placeMicrophone 28 = .ok (.aload_n 0, 1) := by decide +kernel
theorem dX2_placeMicrophone_29 : decode cX2_placeMicrophone 29 = .ok (.getfield 29, 3) := by decide +kernel
theorem dX2_placeMicrophone_32 : decode cX2_placeMicrophone 32 = .ok (.iload_n 3, 1) := by decide +kernel
theorem dX2_placeMicrophone_33 : decode cX2_placeMicrophone 33 = .ok (.iconst 2, 1) := by decide +kernel
theorem dX2_placeMicrophone_34 : decode cX2_placeMicrophone 34 = .ok (.iconst 0, 1) := by decide +kernel
theorem dX2_placeMicrophone_35 : decode cX2_placeMicrophone 35 = .ok (.invokevirtual 53, 3) := by decide +kernel
theorem dX2_placeMicrophone_38 : decode cX2_placeMicrophone 38 = .ok (.aload_n 0, 1) := by decide +kernel
theorem dX2_placeMicrophone_39 : decode cX2_placeMicrophone 39 = .ok (.getfield 29, 3) := by decide +kernel
theorem dX2_placeMicrophone_42 : decode cX2_placeMicrophone 42 = .ok (.iload_n 3, 1) := by decide +kernel
theorem dX2_placeMicrophone_43 : decode cX2_placeMicrophone 43 = .ok (.iconst 3, 1) := by decide +kernel
theorem dX2_placeMicrophone_44 : decode cX2_placeMicrophone 44 = .ok (.iconst 0, 1) := by decide +kernel
theorem dX2_placeMicrophone_45 : decode cX2_placeMicrophone 45 = .ok (.invokevirtual 53, 3) := by decide +kernel
theorem dX2_placeMicrophone_48 : decode cX2_placeMicrophone 48 = .ok (.iload_n 3, 1) := by decide +kernel
theorem dX2_placeMicrophone_49 : decode cX2_placeMicrophone 49 = .ok (.ireturn, 1) := by decide +kernel
set_option maxRecDepth 20000 in
theorem ggX2_refusalOfWall_X11_isBetween : GoodIn wsX2_refusalOfWall wsX11_isBetween := goodIn_r _ [4] (by decide +kernel) (by decide +kernel)
set_option maxRecDepth 20000 in
theorem gX2_refusalOfWall_X11_isBetween_n65 : GoodIn wsX2_refusalOfWall (wsX11_isBetween) := ggX2_refusalOfWall_X11_isBetween
set_option maxRecDepth 20000 in
theorem ggX2_refusalOfWall_X9_isFull : GoodIn wsX2_refusalOfWall wsX9_isFull := goodIn_r _ [9, 10, 11, 20, 21, 22, 23] (by decide +kernel) (by decide +kernel)
set_option maxRecDepth 20000 in
theorem gX2_refusalOfWall_X9_isFull : GoodIn wsX2_refusalOfWall (wsV RX2 72 RX9 yX9_isFull wsX9_isFull) := goodIn_app (goodIn_of _ (by decide +kernel)) ggX2_refusalOfWall_X9_isFull
theorem dX2_refusalOfWall_0 : decode cX2_refusalOfWall 0 = .ok (.iload_n 1, 1) := by decide +kernel
theorem dX2_refusalOfWall_1 : decode cX2_refusalOfWall 1 = .ok (.iconst 0, 1) := by decide +kernel
theorem dX2_refusalOfWall_2 : decode cX2_refusalOfWall 2 = .ok (.iconst 1, 1) := by decide +kernel
theorem dX2_refusalOfWall_3 : decode cX2_refusalOfWall 3 = .ok (.invokestatic 65, 3) := by decide +kernel
theorem dX2_refusalOfWall_6 : decode cX2_refusalOfWall 6 = .ok (.ifCond .eq 26, 3) := by decide +kernel
theorem dX2_refusalOfWall_9 : decode cX2_refusalOfWall 9 = .ok (.iload_n 2, 1) := by decide +kernel
theorem dX2_refusalOfWall_10 : decode cX2_refusalOfWall 10 = .ok (.sipush (-1000), 3) := by decide +kernel
theorem dX2_refusalOfWall_13 : decode cX2_refusalOfWall 13 = .ok (.sipush 3000, 3) := by decide +kernel
theorem dX2_refusalOfWall_16 : decode cX2_refusalOfWall 16 = .ok (.invokestatic 65, 3) := by decide +kernel
theorem dX2_refusalOfWall_19 : decode cX2_refusalOfWall 19 = .ok (.ifCond .eq 13, 3) := by decide +kernel
theorem dX2_refusalOfWall_22 : decode cX2_refusalOfWall 22 = .ok (.iload_n 3, 1) := by decide +kernel
theorem dX2_refusalOfWall_23 : decode cX2_refusalOfWall 23 = .ok (.iconst 0, 1) := by decide +kernel
theorem dX2_refusalOfWall_24 : decode cX2_refusalOfWall 24 = .ok (.bipush 100, 2) := by decide +kernel
theorem dX2_refusalOfWall_26 : decode cX2_refusalOfWall 26 = .ok (.invokestatic 65, 3) := by decide +kernel
theorem dX2_refusalOfWall_29 : decode cX2_refusalOfWall 29 = .ok (.ifCond .ne 5, 3) := by decide +kernel
theorem dX2_refusalOfWall_32 : decode cX2_refusalOfWall 32 = .ok (.iconst 2, 1) := by decide +kernel
theorem dX2_refusalOfWall_33 : decode cX2_refusalOfWall 33 = .ok (.ireturn, 1) := by decide +kernel
theorem dX2_refusalOfWall_34 : decode cX2_refusalOfWall 34 = .ok (.aload_n 0, 1) := by decide +kernel
theorem dX2_refusalOfWall_35 : decode cX2_refusalOfWall 35 = .ok (.getfield 37, 3) := by decide +kernel
theorem dX2_refusalOfWall_38 : decode cX2_refusalOfWall 38 = .ok (.invokevirtual 72, 3) := by decide +kernel
theorem dX2_refusalOfWall_41 : decode cX2_refusalOfWall 41 = .ok (.ifCond .eq 7, 3) := by decide +kernel
theorem dX2_refusalOfWall_44 : decode cX2_refusalOfWall 44 = .ok (.iconst 3, 1) := by decide +kernel
theorem dX2_refusalOfWall_45 : decode cX2_refusalOfWall 45 = .ok (.goto 4, 3) := by decide +kernel
theorem dX2_refusalOfWall_48 : decode cX2_refusalOfWall 48 = .ok (.iconst 0, 1) := by decide +kernel
theorem dX2_refusalOfWall_49 : decode cX2_refusalOfWall 49 = .ok (.ireturn, 1) := by decide +kernel
set_option maxRecDepth 20000 in
theorem ggX2_placeWall_X9_addRow : GoodIn wsX2_placeWall wsX9_addRow := goodIn_r _ [6, 7, 8, 9, 10, 11, 12, 5, 13, 14, 15, 16, 17, 18, 19, 29, 30, 31, 32] (by decide +kernel) (by decide +kernel)
set_option maxRecDepth 20000 in
theorem gX2_placeWall_X9_addRow : GoodIn wsX2_placeWall (wsV RX2 46 RX9 yX9_addRow wsX9_addRow) := goodIn_app (goodIn_of _ (by decide +kernel)) ggX2_placeWall_X9_addRow
set_option maxRecDepth 20000 in
theorem ggX2_placeWall_X9_put : GoodIn wsX2_placeWall wsX9_put := goodIn_r _ [18, 8, 9, 19, 29, 30, 31, 32] (by decide +kernel) (by decide +kernel)
set_option maxRecDepth 20000 in
theorem gX2_placeWall_X9_put : GoodIn wsX2_placeWall (wsV RX2 53 RX9 yX9_put wsX9_put) := goodIn_app (goodIn_of _ (by decide +kernel)) ggX2_placeWall_X9_put
theorem dX2_placeWall_0 : decode cX2_placeWall 0 = .ok (.aload_n 0, 1) := by decide +kernel
theorem dX2_placeWall_1 : decode cX2_placeWall 1 = .ok (.getfield 37, 3) := by decide +kernel
theorem dX2_placeWall_4 : decode cX2_placeWall 4 = .ok (.invokevirtual 46, 3) := by decide +kernel
theorem dX2_placeWall_7 : decode cX2_placeWall 7 = .ok (.istore 4, 2) := by decide +kernel
theorem dX2_placeWall_9 : decode cX2_placeWall 9 = .ok (.aload_n 0, 1) := by decide +kernel
theorem dX2_placeWall_10 : decode cX2_placeWall 10 = .ok (.getfield 37, 3) := by decide +kernel
theorem dX2_placeWall_13 : decode cX2_placeWall 13 = .ok (.iload 4, 2) := by decide +kernel
theorem dX2_placeWall_15 : decode cX2_placeWall 15 = .ok (.iconst 0, 1) := by decide +kernel
theorem dX2_placeWall_16 : decode cX2_placeWall 16 = .ok (.iload_n 1, 1) := by decide +kernel
theorem dX2_placeWall_17 : decode cX2_placeWall 17 = .ok (.invokevirtual 53, 3) := by decide +kernel
theorem dX2_placeWall_20 : decode cX2_placeWall 20 = .ok (.aload_n 0, 1) := by decide +kernel
theorem dX2_placeWall_21 : decode cX2_placeWall 21 = .ok (.getfield 37, 3) := by decide +kernel
theorem dX2_placeWall_24 : decode cX2_placeWall 24 = .ok (.iload 4, 2) := by decide +kernel
theorem dX2_placeWall_26 : decode cX2_placeWall 26 = .ok (.iconst 1, 1) := by decide +kernel
theorem dX2_placeWall_27 : decode cX2_placeWall 27 = .ok (.iload_n 2, 1) := by decide +kernel
theorem dX2_placeWall_28 : decode cX2_placeWall 28 = .ok (.invokevirtual 53, 3) := by decide +kernel
theorem dX2_placeWall_31 : decode cX2_placeWall 31 = .ok (.aload_n 0, 1) := by decide +kernel
theorem dX2_placeWall_32 : decode cX2_placeWall 32 = .ok (.getfield 37, 3) := by decide +kernel
theorem dX2_placeWall_35 : decode cX2_placeWall 35 = .ok (.iload 4, 2) := by decide +kernel
theorem dX2_placeWall_37 : decode cX2_placeWall 37 = .ok (.iconst 2, 1) := by decide +kernel
theorem dX2_placeWall_38 : decode cX2_placeWall 38 = .ok (.iload_n 3, 1) := by decide +kernel
theorem dX2_placeWall_39 : decode cX2_placeWall 39 = .ok (.invokevirtual 53, 3) := by decide +kernel
theorem dX2_placeWall_42 : decode cX2_placeWall 42 = .ok (.iload 4, 2) := by decide +kernel
theorem dX2_placeWall_44 : decode cX2_placeWall 44 = .ok (.ireturn, 1) := by decide +kernel
set_option maxRecDepth 20000 in
theorem ggX2_refusalOfScreen_X11_isBetween : GoodIn wsX2_refusalOfScreen wsX11_isBetween := goodIn_r _ [4] (by decide +kernel) (by decide +kernel)
set_option maxRecDepth 20000 in
theorem gX2_refusalOfScreen_X11_isBetween_n65 : GoodIn wsX2_refusalOfScreen (wsX11_isBetween) := ggX2_refusalOfScreen_X11_isBetween
set_option maxRecDepth 20000 in
theorem ggX2_refusalOfScreen_X9_isFull : GoodIn wsX2_refusalOfScreen wsX9_isFull := goodIn_r _ [9, 10, 11, 20, 21, 22, 23] (by decide +kernel) (by decide +kernel)
set_option maxRecDepth 20000 in
theorem gX2_refusalOfScreen_X9_isFull : GoodIn wsX2_refusalOfScreen (wsV RX2 72 RX9 yX9_isFull wsX9_isFull) := goodIn_app (goodIn_of _ (by decide +kernel)) ggX2_refusalOfScreen_X9_isFull
theorem dX2_refusalOfScreen_0 : decode cX2_refusalOfScreen 0 = .ok (.iload_n 1, 1) := by decide +kernel
theorem dX2_refusalOfScreen_1 : decode cX2_refusalOfScreen 1 = .ok (.iconst 0, 1) := by decide +kernel
theorem dX2_refusalOfScreen_2 : decode cX2_refusalOfScreen 2 = .ok (.iconst 1, 1) := by decide +kernel
theorem dX2_refusalOfScreen_3 : decode cX2_refusalOfScreen 3 = .ok (.invokestatic 65, 3) := by decide +kernel
theorem dX2_refusalOfScreen_6 : decode cX2_refusalOfScreen 6 = .ok (.ifCond .eq 16, 3) := by decide +kernel
theorem dX2_refusalOfScreen_9 : decode cX2_refusalOfScreen 9 = .ok (.iload_n 2, 1) := by decide +kernel
theorem dX2_refusalOfScreen_10 : decode cX2_refusalOfScreen 10 = .ok (.sipush (-1000), 3) := by decide +kernel
theorem dX2_refusalOfScreen_13 : decode cX2_refusalOfScreen 13 = .ok (.sipush 3000, 3) := by decide +kernel
theorem dX2_refusalOfScreen_16 : decode cX2_refusalOfScreen 16 = .ok (.invokestatic 65, 3) := by decide +kernel
theorem dX2_refusalOfScreen_19 : decode cX2_refusalOfScreen 19 = .ok (.ifCond .ne 5, 3) := by decide +kernel
theorem dX2_refusalOfScreen_22 : decode cX2_refusalOfScreen 22 = .ok (.iconst 2, 1) := by decide +kernel
theorem dX2_refusalOfScreen_23 : decode cX2_refusalOfScreen 23 = .ok (.ireturn, 1) := by decide +kernel
theorem dX2_refusalOfScreen_24 : decode cX2_refusalOfScreen 24 = .ok (.iload_n 3, 1) := by decide +kernel
theorem dX2_refusalOfScreen_25 : decode cX2_refusalOfScreen 25 = .ok (.sipush (-1000), 3) := by decide +kernel
theorem dX2_refusalOfScreen_28 : decode cX2_refusalOfScreen 28 = .ok (.sipush 3000, 3) := by decide +kernel
theorem dX2_refusalOfScreen_31 : decode cX2_refusalOfScreen 31 = .ok (.invokestatic 65, 3) := by decide +kernel
theorem dX2_refusalOfScreen_34 : decode cX2_refusalOfScreen 34 = .ok (.ifCond .eq 23, 3) := by decide +kernel
theorem dX2_refusalOfScreen_37 : decode cX2_refusalOfScreen 37 = .ok (.iload 4, 2) := by decide +kernel
theorem dX2_refusalOfScreen_39 : decode cX2_refusalOfScreen 39 = .ok (.sipush (-1000), 3) := by decide +kernel
theorem dX2_refusalOfScreen_42 : decode cX2_refusalOfScreen 42 = .ok (.sipush 3000, 3) := by decide +kernel
theorem dX2_refusalOfScreen_45 : decode cX2_refusalOfScreen 45 = .ok (.invokestatic 65, 3) := by decide +kernel
theorem dX2_refusalOfScreen_48 : decode cX2_refusalOfScreen 48 = .ok (.ifCond .eq 9, 3) := by decide +kernel
theorem dX2_refusalOfScreen_51 : decode cX2_refusalOfScreen 51 = .ok (.iload_n 3, 1) := by decide +kernel
theorem dX2_refusalOfScreen_52 : decode cX2_refusalOfScreen 52 = .ok (.iload 4, 2) := by decide +kernel
theorem dX2_refusalOfScreen_54 : decode cX2_refusalOfScreen 54 = .ok (.if_icmp .lt 5, 3) := by decide +kernel
theorem dX2_refusalOfScreen_57 : decode cX2_refusalOfScreen 57 = .ok (.iconst 2, 1) := by decide +kernel
theorem dX2_refusalOfScreen_58 : decode cX2_refusalOfScreen 58 = .ok (.ireturn, 1) := by decide +kernel
theorem dX2_refusalOfScreen_59 : decode cX2_refusalOfScreen 59 = .ok (.aload_n 0, 1) := by decide +kernel
theorem dX2_refusalOfScreen_60 : decode cX2_refusalOfScreen 60 = .ok (.getfield 40, 3) := by decide +kernel
theorem dX2_refusalOfScreen_63 : decode cX2_refusalOfScreen 63 = .ok (.invokevirtual 72, 3) := by decide +kernel
theorem dX2_refusalOfScreen_66 : decode cX2_refusalOfScreen 66 = .ok (.ifCond .eq 7, 3) := by decide +kernel
theorem dX2_refusalOfScreen_69 : decode cX2_refusalOfScreen 69 = .ok (.iconst 3, 1) := by decide +kernel
theorem dX2_refusalOfScreen_70 : decode cX2_refusalOfScreen 70 = .ok (.goto 4, 3) := by decide +kernel
theorem dX2_refusalOfScreen_73 : decode cX2_refusalOfScreen 73 = .ok (.iconst 0, 1) := by decide +kernel
theorem dX2_refusalOfScreen_74 : decode cX2_refusalOfScreen 74 = .ok (.ireturn, 1) := by decide +kernel
set_option maxRecDepth 20000 in
theorem ggX2_placeScreen_X9_addRow : GoodIn wsX2_placeScreen wsX9_addRow := goodIn_r _ [6, 7, 8, 9, 10, 11, 12, 5, 13, 14, 15, 16, 17, 18, 19, 29, 30, 31, 32] (by decide +kernel) (by decide +kernel)
set_option maxRecDepth 20000 in
theorem gX2_placeScreen_X9_addRow : GoodIn wsX2_placeScreen (wsV RX2 46 RX9 yX9_addRow wsX9_addRow) := goodIn_app (goodIn_of _ (by decide +kernel)) ggX2_placeScreen_X9_addRow
set_option maxRecDepth 20000 in
theorem ggX2_placeScreen_X9_put : GoodIn wsX2_placeScreen wsX9_put := goodIn_r _ [18, 8, 9, 19, 29, 30, 31, 32] (by decide +kernel) (by decide +kernel)
set_option maxRecDepth 20000 in
theorem gX2_placeScreen_X9_put : GoodIn wsX2_placeScreen (wsV RX2 53 RX9 yX9_put wsX9_put) := goodIn_app (goodIn_of _ (by decide +kernel)) ggX2_placeScreen_X9_put
theorem dX2_placeScreen_0 : decode cX2_placeScreen 0 = .ok (.aload_n 0, 1) := by decide +kernel
theorem dX2_placeScreen_1 : decode cX2_placeScreen 1 = .ok (.getfield 40, 3) := by decide +kernel
theorem dX2_placeScreen_4 : decode cX2_placeScreen 4 = .ok (.invokevirtual 46, 3) := by decide +kernel
theorem dX2_placeScreen_7 : decode cX2_placeScreen 7 = .ok (.istore 5, 2) := by decide +kernel
theorem dX2_placeScreen_9 : decode cX2_placeScreen 9 = .ok (.aload_n 0, 1) := by decide +kernel
theorem dX2_placeScreen_10 : decode cX2_placeScreen 10 = .ok (.getfield 40, 3) := by decide +kernel
theorem dX2_placeScreen_13 : decode cX2_placeScreen 13 = .ok (.iload 5, 2) := by decide +kernel
theorem dX2_placeScreen_15 : decode cX2_placeScreen 15 = .ok (.iconst 0, 1) := by decide +kernel
theorem dX2_placeScreen_16 : decode cX2_placeScreen 16 = .ok (.iload_n 1, 1) := by decide +kernel
theorem dX2_placeScreen_17 : decode cX2_placeScreen 17 = .ok (.invokevirtual 53, 3) := by decide +kernel
theorem dX2_placeScreen_20 : decode cX2_placeScreen 20 = .ok (.aload_n 0, 1) := by decide +kernel
theorem dX2_placeScreen_21 : decode cX2_placeScreen 21 = .ok (.getfield 40, 3) := by decide +kernel
theorem dX2_placeScreen_24 : decode cX2_placeScreen 24 = .ok (.iload 5, 2) := by decide +kernel
theorem dX2_placeScreen_26 : decode cX2_placeScreen 26 = .ok (.iconst 1, 1) := by decide +kernel
theorem dX2_placeScreen_27 : decode cX2_placeScreen 27 = .ok (.iload_n 2, 1) := by decide +kernel
theorem dX2_placeScreen_28 : decode cX2_placeScreen 28 = .ok (.invokevirtual 53, 3) := by decide +kernel
theorem dX2_placeScreen_31 : decode cX2_placeScreen 31 = .ok (.aload_n 0, 1) := by decide +kernel
theorem dX2_placeScreen_32 : decode cX2_placeScreen 32 = .ok (.getfield 40, 3) := by decide +kernel
theorem dX2_placeScreen_35 : decode cX2_placeScreen 35 = .ok (.iload 5, 2) := by decide +kernel
theorem dX2_placeScreen_37 : decode cX2_placeScreen 37 = .ok (.iconst 2, 1) := by decide +kernel
theorem dX2_placeScreen_38 : decode cX2_placeScreen 38 = .ok (.iload_n 3, 1) := by decide +kernel
theorem dX2_placeScreen_39 : decode cX2_placeScreen 39 = .ok (.invokevirtual 53, 3) := by decide +kernel
theorem dX2_placeScreen_42 : decode cX2_placeScreen 42 = .ok (.aload_n 0, 1) := by decide +kernel
theorem dX2_placeScreen_43 : decode cX2_placeScreen 43 = .ok (.getfield 40, 3) := by decide +kernel
theorem dX2_placeScreen_46 : decode cX2_placeScreen 46 = .ok (.iload 5, 2) := by decide +kernel
theorem dX2_placeScreen_48 : decode cX2_placeScreen 48 = .ok (.iconst 3, 1) := by decide +kernel
theorem dX2_placeScreen_49 : decode cX2_placeScreen 49 = .ok (.iload 4, 2) := by decide +kernel
theorem dX2_placeScreen_51 : decode cX2_placeScreen 51 = .ok (.invokevirtual 53, 3) := by decide +kernel
theorem dX2_placeScreen_54 : decode cX2_placeScreen 54 = .ok (.iload 5, 2) := by decide +kernel
theorem dX2_placeScreen_56 : decode cX2_placeScreen 56 = .ok (.ireturn, 1) := by decide +kernel
set_option maxRecDepth 20000 in
theorem ggX2_refusalOfSetting_X11_isBetween : GoodIn wsX2_refusalOfSetting wsX11_isBetween := goodIn_r _ [3] (by decide +kernel) (by decide +kernel)
set_option maxRecDepth 20000 in
theorem gX2_refusalOfSetting_X11_isBetween_n65 : GoodIn wsX2_refusalOfSetting (wsX11_isBetween) := ggX2_refusalOfSetting_X11_isBetween
theorem dX2_refusalOfSetting_0 : decode cX2_refusalOfSetting 0 = .ok (.iload_n 1, 1) := by decide +kernel
theorem dX2_refusalOfSetting_1 : decode cX2_refusalOfSetting 1 = .ok (.iconst 0, 1) := by decide +kernel
theorem dX2_refusalOfSetting_2 : decode cX2_refusalOfSetting 2 = .ok (.bipush 6, 2) := by decide +kernel
theorem dX2_refusalOfSetting_4 : decode cX2_refusalOfSetting 4 = .ok (.invokestatic 65, 3) := by decide +kernel
theorem dX2_refusalOfSetting_7 : decode cX2_refusalOfSetting 7 = .ok (.ifCond .ne 5, 3) := by decide +kernel
theorem dX2_refusalOfSetting_10 : decode cX2_refusalOfSetting 10 = .ok (.iconst 2, 1) := by decide +kernel
theorem dX2_refusalOfSetting_11 : decode cX2_refusalOfSetting 11 = .ok (.ireturn, 1) := by decide +kernel
theorem dX2_refusalOfSetting_12 : decode cX2_refusalOfSetting 12 = .ok (.iload_n 2, 1) := by decide +kernel
theorem dX2_refusalOfSetting_13 : decode cX2_refusalOfSetting 13 = .ok (.getstatic 76, 3) := by decide +kernel
theorem dX2_refusalOfSetting_16 : decode cX2_refusalOfSetting 16 = .ok (.iload_n 1, 1) := by decide +kernel
theorem dX2_refusalOfSetting_17 : decode cX2_refusalOfSetting 17 = .ok (.iaload, 1) := by decide +kernel
theorem dX2_refusalOfSetting_18 : decode cX2_refusalOfSetting 18 = .ok (.getstatic 79, 3) := by decide +kernel
theorem dX2_refusalOfSetting_21 : decode cX2_refusalOfSetting 21 = .ok (.iload_n 1, 1) := by decide +kernel
theorem dX2_refusalOfSetting_22 : decode cX2_refusalOfSetting 22 = .ok (.iaload, 1) := by decide +kernel
theorem dX2_refusalOfSetting_23 : decode cX2_refusalOfSetting 23 = .ok (.invokestatic 65, 3) := by decide +kernel
theorem dX2_refusalOfSetting_26 : decode cX2_refusalOfSetting 26 = .ok (.ifCond .eq 7, 3) := by decide +kernel
theorem dX2_refusalOfSetting_29 : decode cX2_refusalOfSetting 29 = .ok (.iconst 0, 1) := by decide +kernel
theorem dX2_refusalOfSetting_30 : decode cX2_refusalOfSetting 30 = .ok (.goto 4, 3) := by decide +kernel
theorem dX2_refusalOfSetting_33 : decode cX2_refusalOfSetting 33 = .ok (.iconst 2, 1) := by decide +kernel
theorem dX2_refusalOfSetting_34 : decode cX2_refusalOfSetting 34 = .ok (.ireturn, 1) := by decide +kernel
set_option maxRecDepth 20000 in
theorem ggX2_changeSetting_X2_setting : GoodIn wsX2_changeSetting wsX2_setting := goodIn_r _ [6, 1, 7, 8, 9, 10, 11, 12, 13, 14, 15, 20, 21, 22, 23, 24, 25, 26, 27, 28, 29, 30, 31] (by decide +kernel) (by decide +kernel)
set_option maxRecDepth 20000 in
theorem gX2_changeSetting_X2_setting : GoodIn wsX2_changeSetting (wsV RX2 82 RX2 yX2_setting wsX2_setting) := goodIn_app (goodIn_of _ (by decide +kernel)) ggX2_changeSetting_X2_setting
set_option maxRecDepth 20000 in
theorem ggX2_changeSetting_X9_put : GoodIn wsX2_changeSetting wsX9_put := goodIn_r _ [19, 12, 13, 15, 28, 29, 30, 31] (by decide +kernel) (by decide +kernel)
set_option maxRecDepth 20000 in
theorem gX2_changeSetting_X9_put : GoodIn wsX2_changeSetting (wsV RX2 53 RX9 yX9_put wsX9_put) := goodIn_app (goodIn_of _ (by decide +kernel)) ggX2_changeSetting_X9_put
theorem dX2_changeSetting_0 : decode cX2_changeSetting 0 = .ok (.aload_n 0, 1) := by decide +kernel
theorem dX2_changeSetting_1 : decode cX2_changeSetting 1 = .ok (.iload_n 1, 1) := by decide +kernel
theorem dX2_changeSetting_2 : decode cX2_changeSetting 2 = .ok (.invokevirtual 82, 3) := by decide +kernel
theorem dX2_changeSetting_5 : decode cX2_changeSetting 5 = .ok (.istore_n 3, 1) := by decide +kernel
theorem dX2_changeSetting_6 : decode cX2_changeSetting 6 = .ok (.aload_n 0, 1) := by decide +kernel
theorem dX2_changeSetting_7 : decode cX2_changeSetting 7 = .ok (.getfield 43, 3) := by decide +kernel
theorem dX2_changeSetting_10 : decode cX2_changeSetting 10 = .ok (.iload_n 1, 1) := by decide +kernel
theorem dX2_changeSetting_11 : decode cX2_changeSetting 11 = .ok (.iconst 0, 1) := by decide +kernel
theorem dX2_changeSetting_12 : decode cX2_changeSetting 12 = .ok (.iload_n 2, 1) := by decide +kernel
theorem dX2_changeSetting_13 : decode cX2_changeSetting 13 = .ok (.invokevirtual 53, 3) := by decide +kernel
theorem dX2_changeSetting_16 : decode cX2_changeSetting 16 = .ok (.iload_n 3, 1) := by decide +kernel
theorem dX2_changeSetting_17 : decode cX2_changeSetting 17 = .ok (.ireturn, 1) := by decide +kernel
set_option maxRecDepth 20000 in
theorem ggX2_refusalOfClick_X11_isClickPlace : GoodIn wsX2_refusalOfClick wsX11_isClickPlace := goodIn_r _ [6, 7, 8, 5, 9] (by decide +kernel) (by decide +kernel)
set_option maxRecDepth 20000 in
theorem gX2_refusalOfClick_X11_isClickPlace_n86 : GoodIn wsX2_refusalOfClick (wsX11_isClickPlace) := ggX2_refusalOfClick_X11_isClickPlace
set_option maxRecDepth 20000 in
theorem ggX2_refusalOfClick_X11_isBetween : GoodIn wsX2_refusalOfClick wsX11_isBetween := goodIn_r _ [9] (by decide +kernel) (by decide +kernel)
set_option maxRecDepth 20000 in
theorem gX2_refusalOfClick_X11_isBetween_n65 : GoodIn wsX2_refusalOfClick (wsX11_isBetween) := ggX2_refusalOfClick_X11_isBetween
theorem dX2_refusalOfClick_0 : decode cX2_refusalOfClick 0 = .ok (.iload_n 1, 1) := by decide +kernel
theorem dX2_refusalOfClick_1 : decode cX2_refusalOfClick 1 = .ok (.iload_n 2, 1) := by decide +kernel
theorem dX2_refusalOfClick_2 : decode cX2_refusalOfClick 2 = .ok (.invokestatic 86, 3) := by decide +kernel
theorem dX2_refusalOfClick_5 : decode cX2_refusalOfClick 5 = .ok (.ifCond .eq 13, 3) := by decide +kernel
theorem dX2_refusalOfClick_8 : decode cX2_refusalOfClick 8 = .ok (.iload_n 3, 1) := by decide +kernel
theorem dX2_refusalOfClick_9 : decode cX2_refusalOfClick 9 = .ok (.iconst 0, 1) := by decide +kernel
theorem dX2_refusalOfClick_10 : decode cX2_refusalOfClick 10 = .ok (.ldc 90, 2) := by decide +kernel
theorem dX2_refusalOfClick_12 : decode cX2_refusalOfClick 12 = .ok (.invokestatic 65, 3) := by decide +kernel
theorem dX2_refusalOfClick_15 : decode cX2_refusalOfClick 15 = .ok (.ifCond .ne 5, 3) := by decide +kernel
theorem dX2_refusalOfClick_18 : decode cX2_refusalOfClick 18 = .ok (.iconst 2, 1) := by decide +kernel
theorem dX2_refusalOfClick_19 : decode cX2_refusalOfClick 19 = .ok (.ireturn, 1) := by decide +kernel
theorem dX2_refusalOfClick_20 : decode cX2_refusalOfClick 20 = .ok (.aload_n 0, 1) := by decide +kernel
theorem dX2_refusalOfClick_21 : decode cX2_refusalOfClick 21 = .ok (.getfield 29, 3) := by decide +kernel
theorem dX2_refusalOfClick_24 : decode cX2_refusalOfClick 24 = .ok (.getfield 69, 3) := by decide +kernel
theorem dX2_refusalOfClick_27 : decode cX2_refusalOfClick 27 = .ok (.ifCond .ne 7, 3) := by decide +kernel
theorem dX2_refusalOfClick_30 : decode cX2_refusalOfClick 30 = .ok (.iconst 3, 1) := by decide +kernel
theorem dX2_refusalOfClick_31 : decode cX2_refusalOfClick 31 = .ok (.goto 4, 3) := by decide +kernel
theorem dX2_refusalOfClick_34 : decode cX2_refusalOfClick 34 = .ok (.iconst 0, 1) := by decide +kernel
theorem dX2_refusalOfClick_35 : decode cX2_refusalOfClick 35 = .ok (.ireturn, 1) := by decide +kernel
set_option maxRecDepth 20000 in
theorem ggX2_hasNoted_X9_at : GoodIn wsX2_hasNoted wsX9_at := goodIn_r _ [7, 8, 9, 10, 11, 20, 21, 22, 23] (by decide +kernel) (by decide +kernel)
set_option maxRecDepth 20000 in
theorem gX2_hasNoted_X9_at : GoodIn wsX2_hasNoted (wsV RX2 61 RX9 yX9_at wsX9_at) := goodIn_app (goodIn_of _ (by decide +kernel)) ggX2_hasNoted_X9_at
theorem dX2_hasNoted_0 : decode cX2_hasNoted 0 = .ok (.aload_n 0, 1) := by decide +kernel
theorem dX2_hasNoted_1 : decode cX2_hasNoted 1 = .ok (.getfield 29, 3) := by decide +kernel
theorem dX2_hasNoted_4 : decode cX2_hasNoted 4 = .ok (.iload_n 1, 1) := by decide +kernel
theorem dX2_hasNoted_5 : decode cX2_hasNoted 5 = .ok (.iconst 4, 1) := by decide +kernel
theorem dX2_hasNoted_6 : decode cX2_hasNoted 6 = .ok (.invokevirtual 61, 3) := by decide +kernel
theorem dX2_hasNoted_9 : decode cX2_hasNoted 9 = .ok (.ldc 91, 2) := by decide +kernel
theorem dX2_hasNoted_11 : decode cX2_hasNoted 11 = .ok (.if_icmp .eq 7, 3) := by decide +kernel
theorem dX2_hasNoted_14 : decode cX2_hasNoted 14 = .ok (.iconst 1, 1) := by decide +kernel
theorem dX2_hasNoted_15 : decode cX2_hasNoted 15 = .ok (.goto 4, 3) := by decide +kernel
theorem dX2_hasNoted_18 : decode cX2_hasNoted 18 = .ok (.iconst 0, 1) := by decide +kernel
theorem dX2_hasNoted_19 : decode cX2_hasNoted 19 = .ok (.ireturn, 1) := by decide +kernel
theorem dX2_cellCount_0 : decode cX2_cellCount 0 = .ok (.aload_n 0, 1) := by decide +kernel
theorem dX2_cellCount_1 : decode cX2_cellCount 1 = .ok (.getfield 9, 3) := by decide +kernel
theorem dX2_cellCount_4 : decode cX2_cellCount 4 = .ok (.aload_n 0, 1) := by decide +kernel
theorem dX2_cellCount_5 : decode cX2_cellCount 5 = .ok (.getfield 15, 3) := by decide +kernel
theorem dX2_cellCount_8 : decode cX2_cellCount 8 = .ok (.imul, 1) := by decide +kernel
theorem dX2_cellCount_9 : decode cX2_cellCount 9 = .ok (.ireturn, 1) := by decide +kernel
theorem dX2_columnOf_0 : decode cX2_columnOf 0 = .ok (.aload_n 0, 1) := by decide +kernel
theorem dX2_columnOf_1 : decode cX2_columnOf 1 = .ok (.getfield 9, 3) := by decide +kernel
theorem dX2_columnOf_4 : decode cX2_columnOf 4 = .ok (.iconst 1, 1) := by decide +kernel
theorem dX2_columnOf_5 : decode cX2_columnOf 5 = .ok (.if_icmp .ge 7, 3) := by decide +kernel
theorem dX2_columnOf_8 : decode cX2_columnOf 8 = .ok (.iconst 0, 1) := by decide +kernel
theorem dX2_columnOf_9 : decode cX2_columnOf 9 = .ok (.goto 9, 3) := by decide +kernel
theorem dX2_columnOf_12 : decode cX2_columnOf 12 = .ok (.iload_n 1, 1) := by decide +kernel
theorem dX2_columnOf_13 : decode cX2_columnOf 13 = .ok (.aload_n 0, 1) := by decide +kernel
theorem dX2_columnOf_14 : decode cX2_columnOf 14 = .ok (.getfield 9, 3) := by decide +kernel
theorem dX2_columnOf_17 : decode cX2_columnOf 17 = .ok (.irem, 1) := by decide +kernel
theorem dX2_columnOf_18 : decode cX2_columnOf 18 = .ok (.ireturn, 1) := by decide +kernel
theorem dX2_rowOf_0 : decode cX2_rowOf 0 = .ok (.aload_n 0, 1) := by decide +kernel
theorem dX2_rowOf_1 : decode cX2_rowOf 1 = .ok (.getfield 9, 3) := by decide +kernel
theorem dX2_rowOf_4 : decode cX2_rowOf 4 = .ok (.iconst 1, 1) := by decide +kernel
theorem dX2_rowOf_5 : decode cX2_rowOf 5 = .ok (.if_icmp .ge 7, 3) := by decide +kernel
theorem dX2_rowOf_8 : decode cX2_rowOf 8 = .ok (.iconst 0, 1) := by decide +kernel
theorem dX2_rowOf_9 : decode cX2_rowOf 9 = .ok (.goto 9, 3) := by decide +kernel
theorem dX2_rowOf_12 : decode cX2_rowOf 12 = .ok (.iload_n 1, 1) := by decide +kernel
theorem dX2_rowOf_13 : decode cX2_rowOf 13 = .ok (.aload_n 0, 1) := by decide +kernel
theorem dX2_rowOf_14 : decode cX2_rowOf 14 = .ok (.getfield 9, 3) := by decide +kernel
theorem dX2_rowOf_17 : decode cX2_rowOf 17 = .ok (.idiv, 1) := by decide +kernel
theorem dX2_rowOf_18 : decode cX2_rowOf 18 = .ok (.ireturn, 1) := by decide +kernel
set_option maxRecDepth 20000 in
theorem ggX2_wayTo_X9_at : GoodIn wsX2_wayTo wsX9_at := goodIn_r _ [6, 7, 8, 9, 10, 24, 25, 26, 27] (by decide +kernel) (by decide +kernel)
set_option maxRecDepth 20000 in
theorem gX2_wayTo_X9_at : GoodIn wsX2_wayTo (wsV RX2 61 RX9 yX9_at wsX9_at) := goodIn_app (goodIn_of _ (by decide +kernel)) ggX2_wayTo_X9_at
set_option maxRecDepth 20000 in
theorem ggX2_wayTo_X7_way : GoodIn wsX2_wayTo wsX7_way := goodIn_r _ [14, 15] (by decide +kernel) (by decide +kernel)
set_option maxRecDepth 20000 in
theorem gX2_wayTo_X7_way : GoodIn wsX2_wayTo (va_wsS RX2 95 yX7_way wsX7_way) := goodIn_app (goodIn_of _ (by decide +kernel)) ggX2_wayTo_X7_way
theorem dX2_wayTo_0 : decode cX2_wayTo 0 = .ok (.aload_n 0, 1) := by decide +kernel
theorem dX2_wayTo_1 : decode cX2_wayTo 1 = .ok (.getfield 29, 3) := by decide +kernel
theorem dX2_wayTo_4 : decode cX2_wayTo 4 = .ok (.iload_n 1, 1) := by decide +kernel
theorem dX2_wayTo_5 : decode cX2_wayTo 5 = .ok (.iconst 0, 1) := by decide +kernel
theorem dX2_wayTo_6 : decode cX2_wayTo 6 = .ok (.invokevirtual 61, 3) := by decide +kernel
theorem dX2_wayTo_9 : decode cX2_wayTo 9 = .ok (.iload_n 2, 1) := by decide +kernel
theorem dX2_wayTo_10 : decode cX2_wayTo 10 = .ok (.isub, 1) := by decide +kernel
theorem dX2_wayTo_11 : decode cX2_wayTo 11 = .ok (.aload_n 0, 1) := by decide +kernel
theorem dX2_wayTo_12 : decode cX2_wayTo 12 = .ok (.getfield 29, 3) := by decide +kernel
theorem dX2_wayTo_15 : decode cX2_wayTo 15 = .ok (.iload_n 1, 1) := by decide +kernel
theorem dX2_wayTo_16 : decode cX2_wayTo 16 = .ok (.iconst 1, 1) := by decide +kernel
theorem dX2_wayTo_17 : decode cX2_wayTo 17 = .ok (.invokevirtual 61, 3) := by decide +kernel
theorem dX2_wayTo_20 : decode cX2_wayTo 20 = .ok (.iload_n 3, 1) := by decide +kernel
theorem dX2_wayTo_21 : decode cX2_wayTo 21 = .ok (.isub, 1) := by decide +kernel
theorem dX2_wayTo_22 : decode cX2_wayTo 22 = .ok (.invokestatic 95, 3) := by decide +kernel
theorem dX2_wayTo_25 : decode cX2_wayTo 25 = .ok (.ireturn, 1) := by decide +kernel
set_option maxRecDepth 20000 in
theorem ggX2_timeFor_X9_at : GoodIn wsX2_timeFor wsX9_at := goodIn_r _ [6, 7, 8, 9, 10, 19, 20, 21, 22] (by decide +kernel) (by decide +kernel)
set_option maxRecDepth 20000 in
theorem gX2_timeFor_X9_at : GoodIn wsX2_timeFor (wsV RX2 61 RX9 yX9_at wsX9_at) := goodIn_app (goodIn_of _ (by decide +kernel)) ggX2_timeFor_X9_at
theorem dX2_timeFor_0 : decode cX2_timeFor 0 = .ok (.aload_n 0, 1) := by decide +kernel
theorem dX2_timeFor_1 : decode cX2_timeFor 1 = .ok (.getfield 43, 3) := by decide +kernel
theorem dX2_timeFor_4 : decode cX2_timeFor 4 = .ok (.iconst 0, 1) := by decide +kernel
theorem dX2_timeFor_5 : decode cX2_timeFor 5 = .ok (.iconst 0, 1) := by decide +kernel
theorem dX2_timeFor_6 : decode cX2_timeFor 6 = .ok (.invokevirtual 61, 3) := by decide +kernel
theorem dX2_timeFor_9 : decode cX2_timeFor 9 = .ok (.istore_n 2, 1) := by decide +kernel
theorem dX2_timeFor_10 : decode cX2_timeFor 10 = .ok (.iload_n 2, 1) := by decide +kernel
theorem dX2_timeFor_11 : decode cX2_timeFor 11 = .ok (.iconst 1, 1) := by decide +kernel
theorem dX2_timeFor_12 : decode cX2_timeFor 12 = .ok (.if_icmp .ge 7, 3) := by decide +kernel
theorem dX2_timeFor_15 : decode cX2_timeFor 15 = .ok (.iconst 0, 1) := by decide +kernel
theorem dX2_timeFor_16 : decode cX2_timeFor 16 = .ok (.goto 10, 3) := by decide +kernel
theorem dX2_timeFor_19 : decode cX2_timeFor 19 = .ok (.iload_n 1, 1) := by decide +kernel
theorem dX2_timeFor_20 : decode cX2_timeFor 20 = .ok (.sipush 1000, 3) := by decide +kernel
theorem dX2_timeFor_23 : decode cX2_timeFor 23 = .ok (.imul, 1) := by decide +kernel
theorem dX2_timeFor_24 : decode cX2_timeFor 24 = .ok (.iload_n 2, 1) := by decide +kernel
theorem dX2_timeFor_25 : decode cX2_timeFor 25 = .ok (.idiv, 1) := by decide +kernel
theorem dX2_timeFor_26 : decode cX2_timeFor 26 = .ok (.ireturn, 1) := by decide +kernel
set_option maxRecDepth 20000 in
theorem ggX2_timeFromCell_X2_columnOf : GoodIn wsX2_timeFromCell wsX2_columnOf := goodIn_r _ [5, 6, 35, 36, 37, 38, 39, 40, 41, 42] (by decide +kernel) (by decide +kernel)
set_option maxRecDepth 20000 in
theorem gX2_timeFromCell_X2_columnOf : GoodIn wsX2_timeFromCell (wsV RX2 100 RX2 yX2_columnOf wsX2_columnOf) := goodIn_app (goodIn_of _ (by decide +kernel)) ggX2_timeFromCell_X2_columnOf
set_option maxRecDepth 20000 in
theorem ggX2_timeFromCell_X2_rowOf : GoodIn wsX2_timeFromCell wsX2_rowOf := goodIn_r _ [10, 6, 35, 36, 37, 38, 39, 40, 41, 42] (by decide +kernel) (by decide +kernel)
set_option maxRecDepth 20000 in
theorem gX2_timeFromCell_X2_rowOf : GoodIn wsX2_timeFromCell (wsV RX2 103 RX2 yX2_rowOf wsX2_rowOf) := goodIn_app (goodIn_of _ (by decide +kernel)) ggX2_timeFromCell_X2_rowOf
set_option maxRecDepth 20000 in
theorem ggX2_timeFromCell_X2_wayTo : GoodIn wsX2_timeFromCell wsX2_wayTo := goodIn_r _ [14, 15, 16, 17, 18, 19, 20, 21, 22, 23, 24, 25, 26, 27, 28, 29, 35, 36, 37, 38, 39, 40, 41, 42, 43, 44, 45, 46] (by decide +kernel) (by decide +kernel)
set_option maxRecDepth 20000 in
theorem gX2_timeFromCell_X2_wayTo : GoodIn wsX2_timeFromCell (wsV RX2 106 RX2 yX2_wayTo wsX2_wayTo) := goodIn_app (goodIn_of _ (by decide +kernel)) ggX2_timeFromCell_X2_wayTo
set_option maxRecDepth 20000 in
theorem ggX2_timeFromCell_X2_timeFor : GoodIn wsX2_timeFromCell wsX2_timeFor := goodIn_r _ [33, 34, 16, 17, 18, 19, 20, 21, 22, 23, 24, 35, 36, 37, 38, 39, 40, 41, 42, 43, 44, 45, 46] (by decide +kernel) (by decide +kernel)
set_option maxRecDepth 20000 in
theorem gX2_timeFromCell_X2_timeFor : GoodIn wsX2_timeFromCell (wsV RX2 110 RX2 yX2_timeFor wsX2_timeFor) := goodIn_app (goodIn_of _ (by decide +kernel)) ggX2_timeFromCell_X2_timeFor
theorem dX2_timeFromCell_0 : decode cX2_timeFromCell 0 = .ok (.aload_n 0, 1) := by decide +kernel
theorem dX2_timeFromCell_1 : decode cX2_timeFromCell 1 = .ok (.aload_n 0, 1) := by decide +kernel
theorem dX2_timeFromCell_2 : decode cX2_timeFromCell 2 = .ok (.iload_n 2, 1) := by decide +kernel
theorem dX2_timeFromCell_3 : decode cX2_timeFromCell 3 = .ok (.bipush 100, 2) := by decide +kernel
theorem dX2_timeFromCell_5 : decode cX2_timeFromCell 5 = .ok (.aload_n 0, 1) := by decide +kernel
theorem dX2_timeFromCell_6 : decode cX2_timeFromCell 6 = .ok (.iload_n 1, 1) := by decide +kernel
theorem dX2_timeFromCell_7 : decode cX2_timeFromCell 7 = .ok (.invokevirtual 100, 3) := by decide +kernel
theorem dX2_timeFromCell_10 : decode cX2_timeFromCell 10 = .ok (.imul, 1) := by decide +kernel
theorem dX2_timeFromCell_11 : decode cX2_timeFromCell 11 = .ok (.bipush 50, 2) := by decide +kernel
theorem dX2_timeFromCell_13 : decode cX2_timeFromCell 13 = .ok (.iadd, 1) := by decide +kernel
theorem dX2_timeFromCell_14 : decode cX2_timeFromCell 14 = .ok (.bipush 100, 2) := by decide +kernel
theorem dX2_timeFromCell_16 : decode cX2_timeFromCell 16 = .ok (.aload_n 0, 1) := by decide +kernel
theorem dX2_timeFromCell_17 : decode cX2_timeFromCell 17 = .ok (.iload_n 1, 1) := by decide +kernel
theorem dX2_timeFromCell_18 : decode cX2_timeFromCell 18 = .ok (.invokevirtual 103, 3) := by decide +kernel
theorem dX2_timeFromCell_21 : decode cX2_timeFromCell 21 = .ok (.imul, 1) := by decide +kernel
theorem dX2_timeFromCell_22 : decode cX2_timeFromCell 22 = .ok (.bipush 50, 2) := by decide +kernel
theorem dX2_timeFromCell_24 : decode cX2_timeFromCell 24 = .ok (.iadd, 1) := by decide +kernel
theorem dX2_timeFromCell_25 : decode cX2_timeFromCell 25 = .ok (.invokevirtual 106, 3) := by decide +kernel
theorem dX2_timeFromCell_28 : decode cX2_timeFromCell 28 = .ok (.invokevirtual 110, 3) := by decide +kernel
theorem dX2_timeFromCell_31 : decode cX2_timeFromCell 31 = .ok (.ireturn, 1) := by decide +kernel
set_option maxRecDepth 20000 in
theorem ggX2_strengthBehind_X9_has : GoodIn wsX2_strengthBehind wsX9_has := goodIn_r _ [6, 7, 23, 24, 25, 26] (by decide +kernel) (by decide +kernel)
set_option maxRecDepth 20000 in
theorem gX2_strengthBehind_X9_has : GoodIn wsX2_strengthBehind (wsV RX2 113 RX9 yX9_has wsX9_has) := goodIn_app (goodIn_of _ (by decide +kernel)) ggX2_strengthBehind_X9_has
set_option maxRecDepth 20000 in
theorem ggX2_strengthBehind_X9_at : GoodIn wsX2_strengthBehind wsX9_at := goodIn_r _ [11, 7, 12, 13, 14, 23, 24, 25, 26] (by decide +kernel) (by decide +kernel)
set_option maxRecDepth 20000 in
theorem gX2_strengthBehind_X9_at : GoodIn wsX2_strengthBehind (wsV RX2 61 RX9 yX9_at wsX9_at) := goodIn_app (goodIn_of _ (by decide +kernel)) ggX2_strengthBehind_X9_at
theorem dX2_strengthBehind_0 : decode cX2_strengthBehind 0 = .ok (.aload_n 0, 1) := by decide +kernel
theorem dX2_strengthBehind_1 : decode cX2_strengthBehind 1 = .ok (.getfield 37, 3) := by decide +kernel
theorem dX2_strengthBehind_4 : decode cX2_strengthBehind 4 = .ok (.iload_n 1, 1) := by decide +kernel
theorem dX2_strengthBehind_5 : decode cX2_strengthBehind 5 = .ok (.invokevirtual 113, 3) := by decide +kernel
theorem dX2_strengthBehind_8 : decode cX2_strengthBehind 8 = .ok (.ifCond .eq 23, 3) := by decide +kernel
theorem dX2_strengthBehind_11 : decode cX2_strengthBehind 11 = .ok (.iload_n 2, 1) := by decide +kernel
theorem dX2_strengthBehind_12 : decode cX2_strengthBehind 12 = .ok (.bipush 100, 2) := by decide +kernel
theorem dX2_strengthBehind_14 : decode cX2_strengthBehind 14 = .ok (.aload_n 0, 1) := by decide +kernel
theorem dX2_strengthBehind_15 : decode cX2_strengthBehind 15 = .ok (.getfield 37, 3) := by decide +kernel
theorem dX2_strengthBehind_18 : decode cX2_strengthBehind 18 = .ok (.iload_n 1, 1) := by decide +kernel
theorem dX2_strengthBehind_19 : decode cX2_strengthBehind 19 = .ok (.iconst 2, 1) := by decide +kernel
theorem dX2_strengthBehind_20 : decode cX2_strengthBehind 20 = .ok (.invokevirtual 61, 3) := by decide +kernel
theorem dX2_strengthBehind_23 : decode cX2_strengthBehind 23 = .ok (.isub, 1) := by decide +kernel
theorem dX2_strengthBehind_24 : decode cX2_strengthBehind 24 = .ok (.imul, 1) := by decide +kernel
theorem dX2_strengthBehind_25 : decode cX2_strengthBehind 25 = .ok (.bipush 100, 2) := by decide +kernel
theorem dX2_strengthBehind_27 : decode cX2_strengthBehind 27 = .ok (.idiv, 1) := by decide +kernel
theorem dX2_strengthBehind_28 : decode cX2_strengthBehind 28 = .ok (.goto 4, 3) := by decide +kernel
theorem dX2_strengthBehind_31 : decode cX2_strengthBehind 31 = .ok (.iload_n 2, 1) := by decide +kernel
theorem dX2_strengthBehind_32 : decode cX2_strengthBehind 32 = .ok (.ireturn, 1) := by decide +kernel
set_option maxRecDepth 20000 in
theorem ggX2_mirroredX_X9_at : GoodIn wsX2_mirroredX wsX9_at := goodIn_r _ [6, 7, 8, 9, 10, 19, 20, 21, 22] (by decide +kernel) (by decide +kernel)
set_option maxRecDepth 20000 in
theorem gX2_mirroredX_X9_at : GoodIn wsX2_mirroredX (wsV RX2 61 RX9 yX9_at wsX9_at) := goodIn_app (goodIn_of _ (by decide +kernel)) ggX2_mirroredX_X9_at
theorem dX2_mirroredX_0 : decode cX2_mirroredX 0 = .ok (.aload_n 0, 1) := by decide +kernel
theorem dX2_mirroredX_1 : decode cX2_mirroredX 1 = .ok (.getfield 37, 3) := by decide +kernel
theorem dX2_mirroredX_4 : decode cX2_mirroredX 4 = .ok (.iload_n 1, 1) := by decide +kernel
theorem dX2_mirroredX_5 : decode cX2_mirroredX 5 = .ok (.iconst 0, 1) := by decide +kernel
theorem dX2_mirroredX_6 : decode cX2_mirroredX 6 = .ok (.invokevirtual 61, 3) := by decide +kernel
theorem dX2_mirroredX_9 : decode cX2_mirroredX 9 = .ok (.ifCond .ne 19, 3) := by decide +kernel
theorem dX2_mirroredX_12 : decode cX2_mirroredX 12 = .ok (.iconst 2, 1) := by decide +kernel
theorem dX2_mirroredX_13 : decode cX2_mirroredX 13 = .ok (.aload_n 0, 1) := by decide +kernel
theorem dX2_mirroredX_14 : decode cX2_mirroredX 14 = .ok (.getfield 37, 3) := by decide +kernel
theorem dX2_mirroredX_17 : decode cX2_mirroredX 17 = .ok (.iload_n 1, 1) := by decide +kernel
theorem dX2_mirroredX_18 : decode cX2_mirroredX 18 = .ok (.iconst 1, 1) := by decide +kernel
theorem dX2_mirroredX_19 : decode cX2_mirroredX 19 = .ok (.invokevirtual 61, 3) := by decide +kernel
theorem dX2_mirroredX_22 : decode cX2_mirroredX 22 = .ok (.imul, 1) := by decide +kernel
theorem dX2_mirroredX_23 : decode cX2_mirroredX 23 = .ok (.iload_n 2, 1) := by decide +kernel
theorem dX2_mirroredX_24 : decode cX2_mirroredX 24 = .ok (.isub, 1) := by decide +kernel
theorem dX2_mirroredX_25 : decode cX2_mirroredX 25 = .ok (.goto 4, 3) := by decide +kernel
theorem dX2_mirroredX_28 : decode cX2_mirroredX 28 = .ok (.iload_n 2, 1) := by decide +kernel
theorem dX2_mirroredX_29 : decode cX2_mirroredX 29 = .ok (.ireturn, 1) := by decide +kernel
set_option maxRecDepth 20000 in
theorem ggX2_mirroredY_X9_at : GoodIn wsX2_mirroredY wsX9_at := goodIn_r _ [6, 7, 8, 9, 10, 19, 20, 21, 22] (by decide +kernel) (by decide +kernel)
set_option maxRecDepth 20000 in
theorem gX2_mirroredY_X9_at : GoodIn wsX2_mirroredY (wsV RX2 61 RX9 yX9_at wsX9_at) := goodIn_app (goodIn_of _ (by decide +kernel)) ggX2_mirroredY_X9_at
theorem dX2_mirroredY_0 : decode cX2_mirroredY 0 = .ok (.aload_n 0, 1) := by decide +kernel
theorem dX2_mirroredY_1 : decode cX2_mirroredY 1 = .ok (.getfield 37, 3) := by decide +kernel
theorem dX2_mirroredY_4 : decode cX2_mirroredY 4 = .ok (.iload_n 1, 1) := by decide +kernel
theorem dX2_mirroredY_5 : decode cX2_mirroredY 5 = .ok (.iconst 0, 1) := by decide +kernel
theorem dX2_mirroredY_6 : decode cX2_mirroredY 6 = .ok (.invokevirtual 61, 3) := by decide +kernel
theorem dX2_mirroredY_9 : decode cX2_mirroredY 9 = .ok (.ifCond .ne 7, 3) := by decide +kernel
theorem dX2_mirroredY_12 : decode cX2_mirroredY 12 = .ok (.iload_n 2, 1) := by decide +kernel
theorem dX2_mirroredY_13 : decode cX2_mirroredY 13 = .ok (.goto 16, 3) := by decide +kernel
theorem dX2_mirroredY_16 : decode cX2_mirroredY 16 = .ok (.iconst 2, 1) := by decide +kernel
theorem dX2_mirroredY_17 : decode cX2_mirroredY 17 = .ok (.aload_n 0, 1) := by decide +kernel
theorem dX2_mirroredY_18 : decode cX2_mirroredY 18 = .ok (.getfield 37, 3) := by decide +kernel
theorem dX2_mirroredY_21 : decode cX2_mirroredY 21 = .ok (.iload_n 1, 1) := by decide +kernel
theorem dX2_mirroredY_22 : decode cX2_mirroredY 22 = .ok (.iconst 1, 1) := by decide +kernel
theorem dX2_mirroredY_23 : decode cX2_mirroredY 23 = .ok (.invokevirtual 61, 3) := by decide +kernel
theorem dX2_mirroredY_26 : decode cX2_mirroredY 26 = .ok (.imul, 1) := by decide +kernel
theorem dX2_mirroredY_27 : decode cX2_mirroredY 27 = .ok (.iload_n 2, 1) := by decide +kernel
theorem dX2_mirroredY_28 : decode cX2_mirroredY 28 = .ok (.isub, 1) := by decide +kernel
theorem dX2_mirroredY_29 : decode cX2_mirroredY 29 = .ok (.ireturn, 1) := by decide +kernel
set_option maxRecDepth 20000 in
theorem ggX2_isScreened_X9_at : GoodIn wsX2_isScreened wsX9_at := goodIn_r _ [8, 9, 10, 11, 12, 38, 39, 40, 41] (by decide +kernel) (by decide +kernel)
set_option maxRecDepth 20000 in
theorem gX2_isScreened_X9_at : GoodIn wsX2_isScreened (wsV RX2 61 RX9 yX9_at wsX9_at) := goodIn_app (goodIn_of _ (by decide +kernel)) ggX2_isScreened_X9_at
set_option maxRecDepth 20000 in
theorem ggX2_isScreened_X7_crosses : GoodIn wsX2_isScreened wsX7_crosses := goodIn_r _ [16, 17, 18, 19, 20, 21, 22, 23, 24, 25, 26, 27, 28, 29] (by decide +kernel) (by decide +kernel)
set_option maxRecDepth 20000 in
theorem gX2_isScreened_X7_crosses : GoodIn wsX2_isScreened (va_wsS RX2 117 yX7_crosses wsX7_crosses) := goodIn_app (goodIn_of _ (by decide +kernel)) ggX2_isScreened_X7_crosses
theorem dX2_isScreened_0 : decode cX2_isScreened 0 = .ok (.aload_n 0, 1) := by decide +kernel
theorem dX2_isScreened_1 : decode cX2_isScreened 1 = .ok (.getfield 29, 3) := by decide +kernel
theorem dX2_isScreened_4 : decode cX2_isScreened 4 = .ok (.iload_n 3, 1) := by decide +kernel
theorem dX2_isScreened_5 : decode cX2_isScreened 5 = .ok (.iconst 0, 1) := by decide +kernel
theorem dX2_isScreened_6 : decode cX2_isScreened 6 = .ok (.invokevirtual 61, 3) := by decide +kernel
theorem dX2_isScreened_9 : decode cX2_isScreened 9 = .ok (.istore 4, 2) := by decide +kernel
theorem dX2_isScreened_11 : decode cX2_isScreened 11 = .ok (.aload_n 0, 1) := by decide +kernel
theorem dX2_isScreened_12 : decode cX2_isScreened 12 = .ok (.getfield 29, 3) := by decide +kernel
theorem dX2_isScreened_15 : decode cX2_isScreened 15 = .ok (.iload_n 3, 1) := by decide +kernel
theorem dX2_isScreened_16 : decode cX2_isScreened 16 = .ok (.iconst 1, 1) := by decide +kernel
theorem dX2_isScreened_17 : decode cX2_isScreened 17 = .ok (.invokevirtual 61, 3) := by decide +kernel
theorem dX2_isScreened_20 : decode cX2_isScreened 20 = .ok (.istore 5, 2) := by decide +kernel
theorem dX2_isScreened_22 : decode cX2_isScreened 22 = .ok (.iconst 0, 1) := by decide +kernel
theorem dX2_isScreened_23 : decode cX2_isScreened 23 = .ok (.istore 6, 2) := by decide +kernel
theorem dX2_isScreened_25 : decode cX2_isScreened 25 = .ok (.iload 6, 2) := by decide +kernel
theorem dX2_isScreened_27 : decode cX2_isScreened 27 = .ok (.aload_n 0, 1) := by decide +kernel
theorem dX2_isScreened_28 : decode cX2_isScreened 28 = .ok (.getfield 40, 3) := by decide +kernel
theorem dX2_isScreened_31 : decode cX2_isScreened 31 = .ok (.getfield 69, 3) := by decide +kernel
theorem dX2_isScreened_34 : decode cX2_isScreened 34 = .ok (.if_icmp .ge 100, 3) := by decide +kernel
theorem dX2_isScreened_37 : decode cX2_isScreened 37 = .ok (.aload_n 0, 1) := by decide +kernel
theorem dX2_isScreened_38 : decode cX2_isScreened 38 = .ok (.getfield 40, 3) := by decide +kernel
theorem dX2_isScreened_41 : decode cX2_isScreened 41 = .ok (.iload 6, 2) := by decide +kernel
theorem dX2_isScreened_43 : decode cX2_isScreened 43 = .ok (.iconst 1, 1) := by decide +kernel
theorem dX2_isScreened_44 : decode cX2_isScreened 44 = .ok (.invokevirtual 61, 3) := by decide +kernel
theorem dX2_isScreened_47 : decode cX2_isScreened 47 = .ok (.istore 7, 2) := by decide +kernel
theorem dX2_isScreened_49 : decode cX2_isScreened 49 = .ok (.aload_n 0, 1) := by decide +kernel
theorem dX2_isScreened_50 : decode cX2_isScreened 50 = .ok (.getfield 40, 3) := by decide +kernel
theorem dX2_isScreened_53 : decode cX2_isScreened 53 = .ok (.iload 6, 2) := by decide +kernel
theorem dX2_isScreened_55 : decode cX2_isScreened 55 = .ok (.iconst 2, 1) := by decide +kernel
theorem dX2_isScreened_56 : decode cX2_isScreened 56 = .ok (.invokevirtual 61, 3) := by decide +kernel
theorem dX2_isScreened_59 : decode cX2_isScreened 59 = .ok (.istore 8, 2) := by decide +kernel
theorem dX2_isScreened_61 : decode cX2_isScreened 61 = .ok (.aload_n 0, 1) := by decide +kernel
theorem dX2_isScreened_62 : decode cX2_isScreened 62 = .ok (.getfield 40, 3) := by decide +kernel
theorem dX2_isScreened_65 : decode cX2_isScreened 65 = .ok (.iload 6, 2) := by decide +kernel
theorem dX2_isScreened_67 : decode cX2_isScreened 67 = .ok (.iconst 3, 1) := by decide +kernel
theorem dX2_isScreened_68 : decode cX2_isScreened 68 = .ok (.invokevirtual 61, 3) := by decide +kernel
theorem dX2_isScreened_71 : decode cX2_isScreened 71 = .ok (.istore 9, 2) := by decide +kernel
theorem dX2_isScreened_73 : decode cX2_isScreened 73 = .ok (.aload_n 0, 1) := by decide +kernel
theorem dX2_isScreened_74 : decode cX2_isScreened 74 = .ok (.getfield 40, 3) := by decide +kernel
theorem dX2_isScreened_77 : decode cX2_isScreened 77 = .ok (.iload 6, 2) := by decide +kernel
theorem dX2_isScreened_79 : decode cX2_isScreened 79 = .ok (.iconst 0, 1) := by decide +kernel
theorem dX2_isScreened_80 : decode cX2_isScreened 80 = .ok (.invokevirtual 61, 3) := by decide +kernel
theorem dX2_isScreened_83 : decode cX2_isScreened 83 = .ok (.ifCond .ne 21, 3) := by decide +kernel
theorem dX2_isScreened_86 : decode cX2_isScreened 86 = .ok (.iload_n 1, 1) := by decide +kernel
theorem dX2_isScreened_87 : decode cX2_isScreened 87 = .ok (.iload_n 2, 1) := by decide +kernel
theorem dX2_isScreened_88 : decode cX2_isScreened 88 = .ok (.iload 4, 2) := by decide +kernel
theorem dX2_isScreened_90 : decode cX2_isScreened 90 = .ok (.iload 5, 2) := by decide +kernel
theorem dX2_isScreened_92 : decode cX2_isScreened 92 = .ok (.iload 7, 2) := by decide +kernel
theorem dX2_isScreened_94 : decode cX2_isScreened 94 = .ok (.iload 8, 2) := by decide +kernel
theorem dX2_isScreened_96 : decode cX2_isScreened 96 = .ok (.iload 9, 2) := by decide +kernel
theorem dX2_isScreened_98 : decode cX2_isScreened 98 = .ok (.invokestatic 117, 3) := by decide +kernel
theorem dX2_isScreened_101 : decode cX2_isScreened 101 = .ok (.goto 18, 3) := by decide +kernel
theorem dX2_isScreened_104 : decode cX2_isScreened 104 = .ok (.iload_n 2, 1) := by decide +kernel
theorem dX2_isScreened_105 : decode cX2_isScreened 105 = .ok (.iload_n 1, 1) := by decide +kernel
theorem dX2_isScreened_106 : decode cX2_isScreened 106 = .ok (.iload 5, 2) := by decide +kernel
theorem dX2_isScreened_108 : decode cX2_isScreened 108 = .ok (.iload 4, 2) := by decide +kernel
theorem dX2_isScreened_110 : decode cX2_isScreened 110 = .ok (.iload 7, 2) := by decide +kernel
theorem dX2_isScreened_112 : decode cX2_isScreened 112 = .ok (.iload 8, 2) := by decide +kernel
theorem dX2_isScreened_114 : decode cX2_isScreened 114 = .ok (.iload 9, 2) := by decide +kernel
theorem dX2_isScreened_116 : decode cX2_isScreened 116 = .ok (.invokestatic 117, 3) := by decide +kernel
theorem dX2_isScreened_119 : decode cX2_isScreened 119 = .ok (.istore 10, 2) := by decide +kernel
theorem dX2_isScreened_121 : decode cX2_isScreened 121 = .ok (.iload 10, 2) := by decide +kernel
theorem dX2_isScreened_123 : decode cX2_isScreened 123 = .ok (.ifCond .eq 5, 3) := by decide +kernel
theorem dX2_isScreened_126 : decode cX2_isScreened 126 = .ok (.iconst 1, 1) := by decide +kernel
theorem dX2_isScreened_127 : decode cX2_isScreened 127 = .ok (.ireturn, 1) := by decide +kernel
theorem dX2_isScreened_128 : decode cX2_isScreened 128 = .ok (.iinc 6 1, 3) := by decide +kernel
theorem dX2_isScreened_131 : decode cX2_isScreened 131 = .ok (.goto (-106), 3) := by decide +kernel
theorem dX2_isScreened_134 : decode cX2_isScreened 134 = .ok (.iconst 0, 1) := by decide +kernel
theorem dX2_isScreened_135 : decode cX2_isScreened 135 = .ok (.ireturn, 1) := by decide +kernel
theorem dX2_draw_0 : decode cX2_draw 0 = .ok (.aload_n 0, 1) := by decide +kernel
theorem dX2_draw_1 : decode cX2_draw 1 = .ok (.ldc2_w 121, 3) := by decide +kernel
theorem dX2_draw_4 : decode cX2_draw 4 = .ok (.aload_n 0, 1) := by decide +kernel
theorem dX2_draw_5 : decode cX2_draw 5 = .ok (.getfield 21, 3) := by decide +kernel
theorem dX2_draw_8 : decode cX2_draw 8 = .ok (.i2l, 1) := by decide +kernel
theorem dX2_draw_9 : decode cX2_draw 9 = .ok (.lmul, 1) := by decide +kernel
theorem dX2_draw_10 : decode cX2_draw 10 = .ok (.ldc2_w 123, 3) := by decide +kernel
theorem dX2_draw_13 : decode cX2_draw 13 = .ok (.ladd, 1) := by decide +kernel
theorem dX2_draw_14 : decode cX2_draw 14 = .ok (.ldc2_w 125, 3) := by decide +kernel
theorem dX2_draw_17 : decode cX2_draw 17 = .ok (.lrem, 1) := by decide +kernel
theorem dX2_draw_18 : decode cX2_draw 18 = .ok (.l2i, 1) := by decide +kernel
theorem dX2_draw_19 : decode cX2_draw 19 = .ok (.putfield 21, 3) := by decide +kernel
theorem dX2_draw_22 : decode cX2_draw 22 = .ok (.iload_n 1, 1) := by decide +kernel
theorem dX2_draw_23 : decode cX2_draw 23 = .ok (.iconst 1, 1) := by decide +kernel
theorem dX2_draw_24 : decode cX2_draw 24 = .ok (.if_icmp .ge 7, 3) := by decide +kernel
theorem dX2_draw_27 : decode cX2_draw 27 = .ok (.iconst 0, 1) := by decide +kernel
theorem dX2_draw_28 : decode cX2_draw 28 = .ok (.goto 12, 3) := by decide +kernel
theorem dX2_draw_31 : decode cX2_draw 31 = .ok (.aload_n 0, 1) := by decide +kernel
theorem dX2_draw_32 : decode cX2_draw 32 = .ok (.getfield 21, 3) := by decide +kernel
theorem dX2_draw_35 : decode cX2_draw 35 = .ok (.ldc 127, 2) := by decide +kernel
theorem dX2_draw_37 : decode cX2_draw 37 = .ok (.idiv, 1) := by decide +kernel
theorem dX2_draw_38 : decode cX2_draw 38 = .ok (.iload_n 1, 1) := by decide +kernel
theorem dX2_draw_39 : decode cX2_draw 39 = .ok (.irem, 1) := by decide +kernel
theorem dX2_draw_40 : decode cX2_draw 40 = .ok (.ireturn, 1) := by decide +kernel
theorem dX4_init_0 : decode cX4_init 0 = .ok (.aload_n 0, 1) := by decide +kernel
theorem dX4_init_1 : decode cX4_init 1 = .ok (.invokespecial 5, 3) := by decide +kernel
theorem dX4_init_4 : decode cX4_init 4 = .ok (.aload_n 0, 1) := by decide +kernel
theorem dX4_init_5 : decode cX4_init 5 = .ok (.bipush 18, 2) := by decide +kernel
theorem dX4_init_7 : decode cX4_init 7 = .ok (.anewarray 13, 3) := by decide +kernel
theorem dX4_init_10 : decode cX4_init 10 = .ok (.putfield 15, 3) := by decide +kernel
theorem dX4_init_13 : decode cX4_init 13 = .ok (.aload_n 0, 1) := by decide +kernel
theorem dX4_init_14 : decode cX4_init 14 = .ok (.bipush 72, 2) := by decide +kernel
theorem dX4_init_16 : decode cX4_init 16 = .ok (.newarray .int, 2) := by decide +kernel
theorem dX4_init_18 : decode cX4_init 18 = .ok (.putfield 19, 3) := by decide +kernel
theorem dX4_init_21 : decode cX4_init 21 = .ok (.aload_n 0, 1) := by decide +kernel
theorem dX4_init_22 : decode cX4_init 22 = .ok (.iconst 0, 1) := by decide +kernel
theorem dX4_init_23 : decode cX4_init 23 = .ok (.putfield 23, 3) := by decide +kernel
theorem dX4_init_26 : decode cX4_init 26 = .ok (.aload_n 0, 1) := by decide +kernel
theorem dX4_init_27 : decode cX4_init 27 = .ok (.iconst 0, 1) := by decide +kernel
theorem dX4_init_28 : decode cX4_init 28 = .ok (.putfield 27, 3) := by decide +kernel
theorem dX4_init_31 : decode cX4_init 31 = .ok (.aload_n 0, 1) := by decide +kernel
theorem dX4_init_32 : decode cX4_init 32 = .ok (.iconst 0, 1) := by decide +kernel
theorem dX4_init_33 : decode cX4_init 33 = .ok (.putfield 30, 3) := by decide +kernel
theorem dX4_init_36 : decode cX4_init 36 = .ok (.aload_n 0, 1) := by decide +kernel
theorem dX4_init_37 : decode cX4_init 37 = .ok (.aconst_null, 1) := by decide +kernel
theorem dX4_init_38 : decode cX4_init 38 = .ok (.putfield 33, 3) := by decide +kernel
theorem dX4_init_41 : decode cX4_init 41 = .ok (.aload_n 0, 1) := by decide +kernel
theorem dX4_init_42 : decode cX4_init 42 = .ok (.iconst 0, 1) := by decide +kernel
theorem dX4_init_43 : decode cX4_init 43 = .ok (.putfield 37, 3) := by decide +kernel
theorem dX4_init_46 : decode cX4_init 46 = .ok (.aload_n 0, 1) := by decide +kernel
theorem dX4_init_47 : decode cX4_init 47 = .ok (.iconst 0, 1) := by decide +kernel
theorem dX4_init_48 : decode cX4_init 48 = .ok (.putfield 40, 3) := by decide +kernel
theorem dX4_init_51 : decode cX4_init 51 = .ok (.return_, 1) := by decide +kernel
theorem dX5_init_0 : decode cX5_init 0 = .ok (.aload_n 0, 1) := by decide +kernel
theorem dX5_init_1 : decode cX5_init 1 = .ok (.invokespecial 3, 3) := by decide +kernel
theorem dX5_init_4 : decode cX5_init 4 = .ok (.aload_n 0, 1) := by decide +kernel
theorem dX5_init_5 : decode cX5_init 5 = .ok (.sipush 150, 3) := by decide +kernel
theorem dX5_init_8 : decode cX5_init 8 = .ok (.newarray .int, 2) := by decide +kernel
theorem dX5_init_10 : decode cX5_init 10 = .ok (.putfield 11, 3) := by decide +kernel
theorem dX5_init_13 : decode cX5_init 13 = .ok (.aload_n 0, 1) := by decide +kernel
theorem dX5_init_14 : decode cX5_init 14 = .ok (.iconst 0, 1) := by decide +kernel
theorem dX5_init_15 : decode cX5_init 15 = .ok (.putfield 15, 3) := by decide +kernel
theorem dX5_init_18 : decode cX5_init 18 = .ok (.return_, 1) := by decide +kernel
set_option maxRecDepth 20000 in
theorem ggX6_init_X1_init : GoodIn wsX6_init wsX1_init := goodIn_r _ [9, 10, 2, 3, 11, 12, 13, 14, 15, 16, 17, 18, 19, 20, 21, 22, 23, 24, 25, 26, 27, 30, 31, 32, 33, 28] (by decide +kernel) (by decide +kernel)
set_option maxRecDepth 20000 in
theorem gX6_init_X1_init_n11 : GoodIn wsX6_init (wsX1_init) := ggX6_init_X1_init
theorem dX6_init_0 : decode cX6_init 0 = .ok (.aload_n 0, 1) := by decide +kernel
theorem dX6_init_1 : decode cX6_init 1 = .ok (.invokespecial 3, 3) := by decide +kernel
theorem dX6_init_4 : decode cX6_init 4 = .ok (.aload_n 0, 1) := by decide +kernel
theorem dX6_init_5 : decode cX6_init 5 = .ok (.new 9, 3) := by decide +kernel
theorem dX6_init_8 : decode cX6_init 8 = .ok (.dup, 1) := by decide +kernel
theorem dX6_init_9 : decode cX6_init 9 = .ok (.invokespecial 11, 3) := by decide +kernel
theorem dX6_init_12 : decode cX6_init 12 = .ok (.putfield 12, 3) := by decide +kernel
theorem dX6_init_15 : decode cX6_init 15 = .ok (.return_, 1) := by decide +kernel
set_option maxRecDepth 20000 in
theorem ggX6_hearClick_X1_collect : GoodIn wsX6_hearClick wsX1_collect := goodIn_r _ [9, 10, 11, 12, 13, 14, 15, 16, 17, 18, 19, 20, 21, 22, 23, 24, 25, 26, 27, 28, 29, 30, 31, 32, 33, 34, 35, 36, 37, 38, 39, 40, 41, 42, 43, 44, 45, 46, 47, 48, 49, 50, 51, 52, 53, 54, 55, 56, 57, 58, 8, 59, 60, 61, 62, 63, 64, 65, 66, 67, 68, 69, 70, 71, 72, 73, 74, 75, 76, 77, 78, 79, 80, 81, 82, 83, 84, 85, 86, 87, 88, 89, 90, 91, 92, 93, 94, 95, 96, 97, 98, 99, 100, 101, 102, 103, 104, 105, 106, 107, 156, 151, 152, 153, 154, 143, 144, 145, 146, 147, 148, 149, 150] (by decide +kernel) (by decide +kernel)
set_option maxRecDepth 20000 in
theorem gX6_hearClick_X1_collect : GoodIn wsX6_hearClick (wsV RX6 30 RX1 yX1_collect wsX1_collect) := goodIn_app (goodIn_of _ (by decide +kernel)) ggX6_hearClick_X1_collect
set_option maxRecDepth 20000 in
theorem ggX6_hearClick_X6_listen : GoodIn wsX6_hearClick wsX6_listen := goodIn_r _ [112, 113, 3, 114, 2, 1, 115, 116, 117, 17, 118, 119, 120, 121, 122, 123, 124, 101, 102, 103, 91, 22, 23, 24, 25, 26, 27, 28, 29, 30, 125, 126, 111, 127, 128, 129, 130, 131, 132, 133, 134, 135, 136, 137, 83, 84, 85, 155, 156, 151, 152, 153, 154, 143, 144, 145, 146, 147, 148, 149, 150] (by decide +kernel) (by decide +kernel)
set_option maxRecDepth 20000 in
theorem gX6_hearClick_X6_listen : GoodIn wsX6_hearClick (wsV RX6 34 RX6 yX6_listen wsX6_listen) := goodIn_app (goodIn_of _ (by decide +kernel)) ggX6_hearClick_X6_listen
set_option maxRecDepth 20000 in
theorem ggX6_hearClick_X2_hasNoted : GoodIn wsX6_hearClick wsX2_hasNoted := goodIn_r _ [141, 19, 142, 22, 23, 24, 25, 26, 27, 28, 29, 30, 143, 144, 145, 146, 147, 148, 149, 150, 151, 152, 153, 154] (by decide +kernel) (by decide +kernel)
set_option maxRecDepth 20000 in
theorem gX6_hearClick_X2_hasNoted : GoodIn wsX6_hearClick (wsV RX6 38 RX2 yX2_hasNoted wsX2_hasNoted) := goodIn_app (goodIn_of _ (by decide +kernel)) ggX6_hearClick_X2_hasNoted
theorem dX6_hearClick_0 : decode cX6_hearClick 0 = .ok (.iconst 0, 1) := by decide +kernel
theorem dX6_hearClick_1 : decode cX6_hearClick 1 = .ok (.istore 5, 2) := by decide +kernel
theorem dX6_hearClick_3 : decode cX6_hearClick 3 = .ok (.iconst 0, 1) := by decide +kernel
theorem dX6_hearClick_4 : decode cX6_hearClick 4 = .ok (.istore 6, 2) := by decide +kernel
theorem dX6_hearClick_6 : decode cX6_hearClick 6 = .ok (.iload 6, 2) := by decide +kernel
theorem dX6_hearClick_8 : decode cX6_hearClick 8 = .ok (.aload_n 1, 1) := by decide +kernel
theorem dX6_hearClick_9 : decode cX6_hearClick 9 = .ok (.getfield 18, 3) := by decide +kernel
theorem dX6_hearClick_12 : decode cX6_hearClick 12 = .ok (.getfield 24, 3) := by decide +kernel
theorem dX6_hearClick_15 : decode cX6_hearClick 15 = .ok (.if_icmp .ge 42, 3) := by decide +kernel
theorem dX6_hearClick_18 : decode cX6_hearClick 18 = .ok (.aload_n 0, 1) := by decide +kernel
theorem dX6_hearClick_19 : decode cX6_hearClick 19 = .ok (.getfield 12, 3) := by decide +kernel
theorem dX6_hearClick_22 : decode cX6_hearClick 22 = .ok (.aload_n 1, 1) := by decide +kernel
theorem dX6_hearClick_23 : decode cX6_hearClick 23 = .ok (.iload_n 2, 1) := by decide +kernel
theorem dX6_hearClick_24 : decode cX6_hearClick 24 = .ok (.iload_n 3, 1) := by decide +kernel
theorem dX6_hearClick_25 : decode cX6_hearClick 25 = .ok (.iload 6, 2) := by decide +kernel
theorem dX6_hearClick_27 : decode cX6_hearClick 27 = .ok (.invokevirtual 30, 3) := by decide +kernel
theorem dX6_hearClick_30 : decode cX6_hearClick 30 = .ok (.aload_n 0, 1) := by decide +kernel
theorem dX6_hearClick_31 : decode cX6_hearClick 31 = .ok (.aload_n 1, 1) := by decide +kernel
theorem dX6_hearClick_32 : decode cX6_hearClick 32 = .ok (.iload 6, 2) := by decide +kernel
theorem dX6_hearClick_34 : decode cX6_hearClick 34 = .ok (.iload 4, 2) := by decide +kernel
theorem dX6_hearClick_36 : decode cX6_hearClick 36 = .ok (.invokevirtual 34, 3) := by decide +kernel
theorem dX6_hearClick_39 : decode cX6_hearClick 39 = .ok (.aload_n 1, 1) := by decide +kernel
theorem dX6_hearClick_40 : decode cX6_hearClick 40 = .ok (.iload 6, 2) := by decide +kernel
theorem dX6_hearClick_42 : decode cX6_hearClick 42 = .ok (.invokevirtual 38, 3) := by decide +kernel
theorem dX6_hearClick_45 : decode cX6_hearClick 45 = .ok (.ifCond .eq 6, 3) := by decide +kernel
theorem dX6_hearClick_48 : decode cX6_hearClick 48 = .ok (.iinc 5 1, 3) := by decide +kernel
theorem dX6_hearClick_51 : decode cX6_hearClick 51 = .ok (.iinc 6 1, 3) := by decide +kernel
theorem dX6_hearClick_54 : decode cX6_hearClick 54 = .ok (.goto (-48), 3) := by decide +kernel
theorem dX6_hearClick_57 : decode cX6_hearClick 57 = .ok (.aload_n 1, 1) := by decide +kernel
theorem dX6_hearClick_58 : decode cX6_hearClick 58 = .ok (.dup, 1) := by decide +kernel
theorem dX6_hearClick_59 : decode cX6_hearClick 59 = .ok (.getfield 42, 3) := by decide +kernel
theorem dX6_hearClick_62 : decode cX6_hearClick 62 = .ok (.iconst 1, 1) := by decide +kernel
theorem dX6_hearClick_63 : decode cX6_hearClick 63 = .ok (.iadd, 1) := by decide +kernel
theorem dX6_hearClick_64 : decode cX6_hearClick 64 = .ok (.putfield 42, 3) := by decide +kernel
theorem dX6_hearClick_67 : decode cX6_hearClick 67 = .ok (.iload 5, 2) := by decide +kernel
theorem dX6_hearClick_69 : decode cX6_hearClick 69 = .ok (.ireturn, 1) := by decide +kernel
set_option maxRecDepth 20000 in
theorem ggX6_hearKnownClick_X9_at : GoodIn wsX6_hearKnownClick wsX9_at := goodIn_r _ [9, 10, 11, 12, 13, 153, 154, 155, 156] (by decide +kernel) (by decide +kernel)
set_option maxRecDepth 20000 in
theorem gX6_hearKnownClick_X9_at : GoodIn wsX6_hearKnownClick (wsV RX6 45 RX9 yX9_at wsX9_at) := goodIn_app (goodIn_of _ (by decide +kernel)) ggX6_hearKnownClick_X9_at
set_option maxRecDepth 20000 in
theorem ggX6_hearKnownClick_X9_put : GoodIn wsX6_hearKnownClick wsX9_put := goodIn_r _ [17, 10, 11, 13, 153, 154, 155, 156] (by decide +kernel) (by decide +kernel)
set_option maxRecDepth 20000 in
theorem gX6_hearKnownClick_X9_put : GoodIn wsX6_hearKnownClick (wsV RX6 49 RX9 yX9_put wsX9_put) := goodIn_app (goodIn_of _ (by decide +kernel)) ggX6_hearKnownClick_X9_put
set_option maxRecDepth 20000 in
theorem ggX6_hearKnownClick_X1_collect : GoodIn wsX6_hearKnownClick wsX1_collect := goodIn_r _ [22, 23, 24, 25, 26, 27, 28, 29, 30, 31, 32, 33, 34, 35, 6, 7, 8, 9, 10, 11, 12, 13, 36, 37, 38, 39, 40, 41, 42, 43, 44, 45, 46, 47, 48, 49, 50, 51, 52, 53, 54, 55, 56, 57, 58, 59, 60, 61, 62, 63, 21, 64, 65, 66, 67, 68, 69, 70, 71, 72, 73, 74, 75, 76, 77, 78, 79, 80, 81, 82, 83, 84, 85, 86, 87, 15, 16, 17, 88, 89, 90, 91, 92, 93, 94, 95, 96, 97, 98, 99, 100, 101, 102, 103, 104, 105, 106, 107, 108, 109, 158, 153, 154, 155, 156, 145, 146, 147, 148, 149, 150, 151, 152] (by decide +kernel) (by decide +kernel)
set_option maxRecDepth 20000 in
theorem gX6_hearKnownClick_X1_collect : GoodIn wsX6_hearKnownClick (wsV RX6 30 RX1 yX1_collect wsX1_collect) := goodIn_app (goodIn_of _ (by decide +kernel)) ggX6_hearKnownClick_X1_collect
set_option maxRecDepth 20000 in
theorem ggX6_hearKnownClick_X6_listen : GoodIn wsX6_hearKnownClick wsX6_listen := goodIn_r _ [114, 115, 3, 116, 2, 1, 117, 118, 119, 30, 120, 121, 122, 123, 124, 125, 126, 103, 104, 105, 93, 35, 6, 7, 8, 9, 10, 11, 12, 13, 127, 128, 113, 129, 5, 130, 131, 132, 133, 134, 135, 136, 137, 14, 15, 16, 17, 157, 158, 153, 154, 155, 156, 145, 146, 147, 148, 149, 150, 151, 152] (by decide +kernel) (by decide +kernel)
set_option maxRecDepth 20000 in
theorem gX6_hearKnownClick_X6_listen : GoodIn wsX6_hearKnownClick (wsV RX6 34 RX6 yX6_listen wsX6_listen) := goodIn_app (goodIn_of _ (by decide +kernel)) ggX6_hearKnownClick_X6_listen
set_option maxRecDepth 20000 in
theorem ggX6_hearKnownClick_X2_hasNoted : GoodIn wsX6_hearKnownClick wsX2_hasNoted := goodIn_r _ [141, 32, 142, 35, 6, 7, 8, 9, 10, 11, 12, 13, 145, 146, 147, 148, 149, 150, 151, 152, 153, 154, 155, 156] (by decide +kernel) (by decide +kernel)
set_option maxRecDepth 20000 in
theorem gX6_hearKnownClick_X2_hasNoted : GoodIn wsX6_hearKnownClick (wsV RX6 38 RX2 yX2_hasNoted wsX2_hasNoted) := goodIn_app (goodIn_of _ (by decide +kernel)) ggX6_hearKnownClick_X2_hasNoted
set_option maxRecDepth 20000 in
theorem ggX6_hearKnownClick_X2_wayTo : GoodIn wsX6_hearKnownClick wsX2_wayTo := goodIn_r _ [56, 32, 35, 6, 7, 8, 9, 10, 11, 12, 13, 57, 58, 38, 59, 60, 145, 146, 147, 148, 149, 150, 151, 152, 153, 154, 155, 156] (by decide +kernel) (by decide +kernel)
set_option maxRecDepth 20000 in
theorem gX6_hearKnownClick_X2_wayTo : GoodIn wsX6_hearKnownClick (wsV RX6 53 RX2 yX2_wayTo wsX2_wayTo) := goodIn_app (goodIn_of _ (by decide +kernel)) ggX6_hearKnownClick_X2_wayTo
set_option maxRecDepth 20000 in
theorem ggX6_hearKnownClick_X2_timeFor : GoodIn wsX6_hearKnownClick wsX2_timeFor := goodIn_r _ [92, 93, 35, 6, 7, 8, 9, 10, 11, 12, 13, 145, 146, 147, 148, 149, 150, 151, 152, 153, 154, 155, 156] (by decide +kernel) (by decide +kernel)
set_option maxRecDepth 20000 in
theorem gX6_hearKnownClick_X2_timeFor : GoodIn wsX6_hearKnownClick (wsV RX6 57 RX2 yX2_timeFor wsX2_timeFor) := goodIn_app (goodIn_of _ (by decide +kernel)) ggX6_hearKnownClick_X2_timeFor
theorem dX6_hearKnownClick_0 : decode cX6_hearKnownClick 0 = .ok (.aload_n 1, 1) := by decide +kernel
theorem dX6_hearKnownClick_1 : decode cX6_hearKnownClick 1 = .ok (.getfield 18, 3) := by decide +kernel
theorem dX6_hearKnownClick_4 : decode cX6_hearKnownClick 4 = .ok (.astore 5, 2) := by decide +kernel
theorem dX6_hearKnownClick_6 : decode cX6_hearKnownClick 6 = .ok (.iconst 0, 1) := by decide +kernel
theorem dX6_hearKnownClick_7 : decode cX6_hearKnownClick 7 = .ok (.istore 6, 2) := by decide +kernel
theorem dX6_hearKnownClick_9 : decode cX6_hearKnownClick 9 = .ok (.iconst 0, 1) := by decide +kernel
theorem dX6_hearKnownClick_10 : decode cX6_hearKnownClick 10 = .ok (.istore 7, 2) := by decide +kernel
theorem dX6_hearKnownClick_12 : decode cX6_hearKnownClick 12 = .ok (.iload 7, 2) := by decide +kernel
theorem dX6_hearKnownClick_14 : decode cX6_hearKnownClick 14 = .ok (.aload 5, 2) := by decide +kernel
theorem dX6_hearKnownClick_16 : decode cX6_hearKnownClick 16 = .ok (.getfield 24, 3) := by decide +kernel
theorem dX6_hearKnownClick_19 : decode cX6_hearKnownClick 19 = .ok (.if_icmp .ge 120, 3) := by decide +kernel
theorem dX6_hearKnownClick_22 : decode cX6_hearKnownClick 22 = .ok (.aload 5, 2) := by decide +kernel
theorem dX6_hearKnownClick_24 : decode cX6_hearKnownClick 24 = .ok (.iload 7, 2) := by decide +kernel
theorem dX6_hearKnownClick_26 : decode cX6_hearKnownClick 26 = .ok (.iconst 3, 1) := by decide +kernel
theorem dX6_hearKnownClick_27 : decode cX6_hearKnownClick 27 = .ok (.invokevirtual 45, 3) := by decide +kernel
theorem dX6_hearKnownClick_30 : decode cX6_hearKnownClick 30 = .ok (.istore 8, 2) := by decide +kernel
theorem dX6_hearKnownClick_32 : decode cX6_hearKnownClick 32 = .ok (.aload 5, 2) := by decide +kernel
theorem dX6_hearKnownClick_34 : decode cX6_hearKnownClick 34 = .ok (.iload 7, 2) := by decide +kernel
theorem dX6_hearKnownClick_36 : decode cX6_hearKnownClick 36 = .ok (.iconst 3, 1) := by decide +kernel
theorem dX6_hearKnownClick_37 : decode cX6_hearKnownClick 37 = .ok (.iconst 0, 1) := by decide +kernel
theorem dX6_hearKnownClick_38 : decode cX6_hearKnownClick 38 = .ok (.invokevirtual 49, 3) := by decide +kernel
theorem dX6_hearKnownClick_41 : decode cX6_hearKnownClick 41 = .ok (.aload_n 0, 1) := by decide +kernel
theorem dX6_hearKnownClick_42 : decode cX6_hearKnownClick 42 = .ok (.getfield 12, 3) := by decide +kernel
theorem dX6_hearKnownClick_45 : decode cX6_hearKnownClick 45 = .ok (.aload_n 1, 1) := by decide +kernel
theorem dX6_hearKnownClick_46 : decode cX6_hearKnownClick 46 = .ok (.iload_n 2, 1) := by decide +kernel
theorem dX6_hearKnownClick_47 : decode cX6_hearKnownClick 47 = .ok (.iload_n 3, 1) := by decide +kernel
theorem dX6_hearKnownClick_48 : decode cX6_hearKnownClick 48 = .ok (.iload 7, 2) := by decide +kernel
theorem dX6_hearKnownClick_50 : decode cX6_hearKnownClick 50 = .ok (.invokevirtual 30, 3) := by decide +kernel
theorem dX6_hearKnownClick_53 : decode cX6_hearKnownClick 53 = .ok (.aload_n 0, 1) := by decide +kernel
theorem dX6_hearKnownClick_54 : decode cX6_hearKnownClick 54 = .ok (.aload_n 1, 1) := by decide +kernel
theorem dX6_hearKnownClick_55 : decode cX6_hearKnownClick 55 = .ok (.iload 7, 2) := by decide +kernel
theorem dX6_hearKnownClick_57 : decode cX6_hearKnownClick 57 = .ok (.iload 4, 2) := by decide +kernel
theorem dX6_hearKnownClick_59 : decode cX6_hearKnownClick 59 = .ok (.invokevirtual 34, 3) := by decide +kernel
theorem dX6_hearKnownClick_62 : decode cX6_hearKnownClick 62 = .ok (.aload_n 1, 1) := by decide +kernel
theorem dX6_hearKnownClick_63 : decode cX6_hearKnownClick 63 = .ok (.iload 7, 2) := by decide +kernel
theorem dX6_hearKnownClick_65 : decode cX6_hearKnownClick 65 = .ok (.invokevirtual 38, 3) := by decide +kernel
theorem dX6_hearKnownClick_68 : decode cX6_hearKnownClick 68 = .ok (.ifCond .eq 49, 3) := by decide +kernel
theorem dX6_hearKnownClick_71 : decode cX6_hearKnownClick 71 = .ok (.iload 4, 2) := by decide +kernel
theorem dX6_hearKnownClick_73 : decode cX6_hearKnownClick 73 = .ok (.aload_n 1, 1) := by decide +kernel
theorem dX6_hearKnownClick_74 : decode cX6_hearKnownClick 74 = .ok (.aload_n 1, 1) := by decide +kernel
theorem dX6_hearKnownClick_75 : decode cX6_hearKnownClick 75 = .ok (.iload 7, 2) := by decide +kernel
theorem dX6_hearKnownClick_77 : decode cX6_hearKnownClick 77 = .ok (.iload_n 2, 1) := by decide +kernel
theorem dX6_hearKnownClick_78 : decode cX6_hearKnownClick 78 = .ok (.iload_n 3, 1) := by decide +kernel
theorem dX6_hearKnownClick_79 : decode cX6_hearKnownClick 79 = .ok (.invokevirtual 53, 3) := by decide +kernel
theorem dX6_hearKnownClick_82 : decode cX6_hearKnownClick 82 = .ok (.invokevirtual 57, 3) := by decide +kernel
theorem dX6_hearKnownClick_85 : decode cX6_hearKnownClick 85 = .ok (.iadd, 1) := by decide +kernel
theorem dX6_hearKnownClick_86 : decode cX6_hearKnownClick 86 = .ok (.istore 9, 2) := by decide +kernel
theorem dX6_hearKnownClick_88 : decode cX6_hearKnownClick 88 = .ok (.aload 5, 2) := by decide +kernel
theorem dX6_hearKnownClick_90 : decode cX6_hearKnownClick 90 = .ok (.iload 7, 2) := by decide +kernel
theorem dX6_hearKnownClick_92 : decode cX6_hearKnownClick 92 = .ok (.iconst 3, 1) := by decide +kernel
theorem dX6_hearKnownClick_93 : decode cX6_hearKnownClick 93 = .ok (.aload 5, 2) := by decide +kernel
theorem dX6_hearKnownClick_95 : decode cX6_hearKnownClick 95 = .ok (.iload 7, 2) := by decide +kernel
theorem dX6_hearKnownClick_97 : decode cX6_hearKnownClick 97 = .ok (.iconst 4, 1) := by decide +kernel
theorem dX6_hearKnownClick_98 : decode cX6_hearKnownClick 98 = .ok (.invokevirtual 45, 3) := by decide +kernel
theorem dX6_hearKnownClick_101 : decode cX6_hearKnownClick 101 = .ok (.iload 9, 2) := by decide +kernel
theorem dX6_hearKnownClick_103 : decode cX6_hearKnownClick 103 = .ok (.isub, 1) := by decide +kernel
theorem dX6_hearKnownClick_104 : decode cX6_hearKnownClick 104 = .ok (.invokevirtual 49, 3) := by decide +kernel
theorem dX6_hearKnownClick_107 : decode cX6_hearKnownClick 107 = .ok (.aload 5, 2) := by decide +kernel
theorem dX6_hearKnownClick_109 : decode cX6_hearKnownClick 109 = .ok (.iload 7, 2) := by decide +kernel
theorem dX6_hearKnownClick_111 : decode cX6_hearKnownClick 111 = .ok (.iconst 4, 1) := by decide +kernel
theorem dX6_hearKnownClick_112 : decode cX6_hearKnownClick 112 = .ok (.iload 9, 2) := by decide +kernel
theorem dX6_hearKnownClick_114 : decode cX6_hearKnownClick 114 = .ok (.invokevirtual 49, 3) := by decide +kernel
theorem dX6_hearKnownClick_117 : decode cX6_hearKnownClick 117 = .ok (.aload 5, 2) := by decide +kernel
theorem dX6_hearKnownClick_119 : decode cX6_hearKnownClick 119 = .ok (.iload 7, 2) := by decide +kernel
theorem dX6_hearKnownClick_121 : decode cX6_hearKnownClick 121 = .ok (.iconst 3, 1) := by decide +kernel
theorem dX6_hearKnownClick_122 : decode cX6_hearKnownClick 122 = .ok (.invokevirtual 45, 3) := by decide +kernel
theorem dX6_hearKnownClick_125 : decode cX6_hearKnownClick 125 = .ok (.iload 8, 2) := by decide +kernel
theorem dX6_hearKnownClick_127 : decode cX6_hearKnownClick 127 = .ok (.if_icmp .eq 6, 3) := by decide +kernel
theorem dX6_hearKnownClick_130 : decode cX6_hearKnownClick 130 = .ok (.iinc 6 1, 3) := by decide +kernel
theorem dX6_hearKnownClick_133 : decode cX6_hearKnownClick 133 = .ok (.iinc 7 1, 3) := by decide +kernel
theorem dX6_hearKnownClick_136 : decode cX6_hearKnownClick 136 = .ok (.goto (-124), 3) := by decide +kernel
theorem dX6_hearKnownClick_139 : decode cX6_hearKnownClick 139 = .ok (.aload_n 1, 1) := by decide +kernel
theorem dX6_hearKnownClick_140 : decode cX6_hearKnownClick 140 = .ok (.dup, 1) := by decide +kernel
theorem dX6_hearKnownClick_141 : decode cX6_hearKnownClick 141 = .ok (.getfield 42, 3) := by decide +kernel
theorem dX6_hearKnownClick_144 : decode cX6_hearKnownClick 144 = .ok (.iconst 1, 1) := by decide +kernel
theorem dX6_hearKnownClick_145 : decode cX6_hearKnownClick 145 = .ok (.iadd, 1) := by decide +kernel
theorem dX6_hearKnownClick_146 : decode cX6_hearKnownClick 146 = .ok (.putfield 42, 3) := by decide +kernel
theorem dX6_hearKnownClick_149 : decode cX6_hearKnownClick 149 = .ok (.iload 6, 2) := by decide +kernel
theorem dX6_hearKnownClick_151 : decode cX6_hearKnownClick 151 = .ok (.ireturn, 1) := by decide +kernel
set_option maxRecDepth 20000 in
theorem ggX6_listen_X2_draw : GoodIn wsX6_listen wsX2_draw := goodIn_r _ [10, 11, 12, 13, 14, 15, 53, 54, 55, 56, 57, 58, 59, 60] (by decide +kernel) (by decide +kernel)
set_option maxRecDepth 20000 in
theorem gX6_listen_X2_draw : GoodIn wsX6_listen (wsV RX6 65 RX2 yX2_draw wsX2_draw) := goodIn_app (goodIn_of _ (by decide +kernel)) ggX6_listen_X2_draw
set_option maxRecDepth 20000 in
theorem ggX6_listen_X2_setting : GoodIn wsX6_listen wsX2_setting := goodIn_r _ [19, 20, 21, 22, 23, 24, 25, 26, 27, 28, 29, 53, 54, 55, 56, 57, 58, 59, 60, 49, 50, 51, 52] (by decide +kernel) (by decide +kernel)
set_option maxRecDepth 20000 in
theorem gX6_listen_X2_setting : GoodIn wsX6_listen (wsV RX6 68 RX2 yX2_setting wsX2_setting) := goodIn_app (goodIn_of _ (by decide +kernel)) ggX6_listen_X2_setting
set_option maxRecDepth 20000 in
theorem ggX6_listen_X6_drawJitter : GoodIn wsX6_listen wsX6_drawJitter := goodIn_r _ [33, 16, 17, 18, 9, 19, 20, 21, 22, 23, 24, 25, 26, 27, 28, 29, 6, 7, 8, 10, 11, 12, 13, 14, 15, 53, 54, 55, 56, 57, 58, 59, 60, 49, 50, 51, 52] (by decide +kernel) (by decide +kernel)
set_option maxRecDepth 20000 in
theorem gX6_listen_X6_drawJitter : GoodIn wsX6_listen (va_wsS RX6 71 yX6_drawJitter wsX6_drawJitter) := goodIn_app (goodIn_of _ (by decide +kernel)) ggX6_listen_X6_drawJitter
set_option maxRecDepth 20000 in
theorem ggX6_listen_X9_at : GoodIn wsX6_listen wsX9_at := goodIn_r _ [25, 26, 27, 28, 29, 49, 50, 51, 52] (by decide +kernel) (by decide +kernel)
set_option maxRecDepth 20000 in
theorem gX6_listen_X9_at : GoodIn wsX6_listen (wsV RX6 45 RX9 yX9_at wsX9_at) := goodIn_app (goodIn_of _ (by decide +kernel)) ggX6_listen_X9_at
set_option maxRecDepth 20000 in
theorem ggX6_listen_X6_isPreferred : GoodIn wsX6_listen wsX6_isPreferred := goodIn_r _ [38, 2, 3, 16, 17, 18, 9, 19, 20, 21, 22, 23, 24, 25, 26, 27, 28, 29, 34, 47, 48, 53, 54, 55, 56, 57, 58, 59, 60, 49, 50, 51, 52] (by decide +kernel) (by decide +kernel)
set_option maxRecDepth 20000 in
theorem gX6_listen_X6_isPreferred : GoodIn wsX6_listen (wsV RX6 75 RX6 yX6_isPreferred wsX6_isPreferred) := goodIn_app (goodIn_of _ (by decide +kernel)) ggX6_listen_X6_isPreferred
set_option maxRecDepth 20000 in
theorem ggX6_listen_X6_write : GoodIn wsX6_listen wsX6_write := goodIn_r _ [42, 1, 2, 3, 34, 22, 23, 24, 25, 26, 27, 28, 29, 43, 44, 45, 46, 47, 48, 49, 50, 51, 52] (by decide +kernel) (by decide +kernel)
set_option maxRecDepth 20000 in
theorem gX6_listen_X6_write : GoodIn wsX6_listen (wsV RX6 79 RX6 yX6_write wsX6_write) := goodIn_app (goodIn_of _ (by decide +kernel)) ggX6_listen_X6_write
theorem dX6_listen_0 : decode cX6_listen 0 = .ok (.ldc 61, 2) := by decide +kernel
theorem dX6_listen_2 : decode cX6_listen 2 = .ok (.istore 4, 2) := by decide +kernel
theorem dX6_listen_4 : decode cX6_listen 4 = .ok (.iconst 0, 1) := by decide +kernel
theorem dX6_listen_5 : decode cX6_listen 5 = .ok (.istore 5, 2) := by decide +kernel
theorem dX6_listen_7 : decode cX6_listen 7 = .ok (.iconst 0, 1) := by decide +kernel
theorem dX6_listen_8 : decode cX6_listen 8 = .ok (.istore 6, 2) := by decide +kernel
theorem dX6_listen_10 : decode cX6_listen 10 = .ok (.iload 6, 2) := by decide +kernel
theorem dX6_listen_12 : decode cX6_listen 12 = .ok (.aload_n 0, 1) := by decide +kernel
theorem dX6_listen_13 : decode cX6_listen 13 = .ok (.getfield 12, 3) := by decide +kernel
theorem dX6_listen_16 : decode cX6_listen 16 = .ok (.getfield 62, 3) := by decide +kernel
theorem dX6_listen_19 : decode cX6_listen 19 = .ok (.getfield 24, 3) := by decide +kernel
theorem dX6_listen_22 : decode cX6_listen 22 = .ok (.if_icmp .ge 125, 3) := by decide +kernel
theorem dX6_listen_25 : decode cX6_listen 25 = .ok (.aload_n 1, 1) := by decide +kernel
theorem dX6_listen_26 : decode cX6_listen 26 = .ok (.bipush 100, 2) := by decide +kernel
theorem dX6_listen_28 : decode cX6_listen 28 = .ok (.invokevirtual 65, 3) := by decide +kernel
theorem dX6_listen_31 : decode cX6_listen 31 = .ok (.aload_n 1, 1) := by decide +kernel
theorem dX6_listen_32 : decode cX6_listen 32 = .ok (.iconst 2, 1) := by decide +kernel
theorem dX6_listen_33 : decode cX6_listen 33 = .ok (.invokevirtual 68, 3) := by decide +kernel
theorem dX6_listen_36 : decode cX6_listen 36 = .ok (.if_icmp .ge 7, 3) := by decide +kernel
theorem dX6_listen_39 : decode cX6_listen 39 = .ok (.iconst 1, 1) := by decide +kernel
theorem dX6_listen_40 : decode cX6_listen 40 = .ok (.goto 4, 3) := by decide +kernel
theorem dX6_listen_43 : decode cX6_listen 43 = .ok (.iconst 0, 1) := by decide +kernel
theorem dX6_listen_44 : decode cX6_listen 44 = .ok (.istore 7, 2) := by decide +kernel
theorem dX6_listen_46 : decode cX6_listen 46 = .ok (.iload 7, 2) := by decide +kernel
theorem dX6_listen_48 : decode cX6_listen 48 = .ok (.ifCond .eq 7, 3) := by decide +kernel
theorem dX6_listen_51 : decode cX6_listen 51 = .ok (.iconst 0, 1) := by decide +kernel
theorem dX6_listen_52 : decode cX6_listen 52 = .ok (.goto 7, 3) := by decide +kernel
theorem dX6_listen_55 : decode cX6_listen 55 = .ok (.aload_n 1, 1) := by decide +kernel
theorem dX6_listen_56 : decode cX6_listen 56 = .ok (.invokestatic 71, 3) := by decide +kernel
theorem dX6_listen_59 : decode cX6_listen 59 = .ok (.istore 8, 2) := by decide +kernel
theorem dX6_listen_61 : decode cX6_listen 61 = .ok (.iload 7, 2) := by decide +kernel
theorem dX6_listen_63 : decode cX6_listen 63 = .ok (.ifCond .ne 78, 3) := by decide +kernel
theorem dX6_listen_66 : decode cX6_listen 66 = .ok (.aload_n 0, 1) := by decide +kernel
theorem dX6_listen_67 : decode cX6_listen 67 = .ok (.getfield 12, 3) := by decide +kernel
theorem dX6_listen_70 : decode cX6_listen 70 = .ok (.getfield 62, 3) := by decide +kernel
theorem dX6_listen_73 : decode cX6_listen 73 = .ok (.iload 6, 2) := by decide +kernel
theorem dX6_listen_75 : decode cX6_listen 75 = .ok (.iconst 3, 1) := by decide +kernel
theorem dX6_listen_76 : decode cX6_listen 76 = .ok (.invokevirtual 45, 3) := by decide +kernel
theorem dX6_listen_79 : decode cX6_listen 79 = .ok (.aload_n 1, 1) := by decide +kernel
theorem dX6_listen_80 : decode cX6_listen 80 = .ok (.iconst 4, 1) := by decide +kernel
theorem dX6_listen_81 : decode cX6_listen 81 = .ok (.invokevirtual 68, 3) := by decide +kernel
theorem dX6_listen_84 : decode cX6_listen 84 = .ok (.if_icmp .ge 6, 3) := by decide +kernel
theorem dX6_listen_87 : decode cX6_listen 87 = .ok (.goto 54, 3) := by decide +kernel
theorem dX6_listen_90 : decode cX6_listen 90 = .ok (.iload_n 3, 1) := by decide +kernel
theorem dX6_listen_91 : decode cX6_listen 91 = .ok (.aload_n 0, 1) := by decide +kernel
theorem dX6_listen_92 : decode cX6_listen 92 = .ok (.getfield 12, 3) := by decide +kernel
theorem dX6_listen_95 : decode cX6_listen 95 = .ok (.getfield 62, 3) := by decide +kernel
theorem dX6_listen_98 : decode cX6_listen 98 = .ok (.iload 6, 2) := by decide +kernel
theorem dX6_listen_100 : decode cX6_listen 100 = .ok (.iconst 2, 1) := by decide +kernel
theorem dX6_listen_101 : decode cX6_listen 101 = .ok (.invokevirtual 45, 3) := by decide +kernel
theorem dX6_listen_104 : decode cX6_listen 104 = .ok (.iadd, 1) := by decide +kernel
theorem dX6_listen_105 : decode cX6_listen 105 = .ok (.iload 8, 2) := by decide +kernel
theorem dX6_listen_107 : decode cX6_listen 107 = .ok (.iadd, 1) := by decide +kernel
theorem dX6_listen_108 : decode cX6_listen 108 = .ok (.istore 9, 2) := by decide +kernel
theorem dX6_listen_110 : decode cX6_listen 110 = .ok (.iload 4, 2) := by decide +kernel
theorem dX6_listen_112 : decode cX6_listen 112 = .ok (.ldc 61, 2) := by decide +kernel
theorem dX6_listen_114 : decode cX6_listen 114 = .ok (.if_icmp .eq 19, 3) := by decide +kernel
theorem dX6_listen_117 : decode cX6_listen 117 = .ok (.aload_n 0, 1) := by decide +kernel
theorem dX6_listen_118 : decode cX6_listen 118 = .ok (.aload_n 1, 1) := by decide +kernel
theorem dX6_listen_119 : decode cX6_listen 119 = .ok (.iload 6, 2) := by decide +kernel
theorem dX6_listen_121 : decode cX6_listen 121 = .ok (.iload 9, 2) := by decide +kernel
theorem dX6_listen_123 : decode cX6_listen 123 = .ok (.iload 4, 2) := by decide +kernel
theorem dX6_listen_125 : decode cX6_listen 125 = .ok (.iload 5, 2) := by decide +kernel
theorem dX6_listen_127 : decode cX6_listen 127 = .ok (.invokevirtual 75, 3) := by decide +kernel
theorem dX6_listen_130 : decode cX6_listen 130 = .ok (.ifCond .eq 11, 3) := by decide +kernel
theorem dX6_listen_133 : decode cX6_listen 133 = .ok (.iload 6, 2) := by decide +kernel
theorem dX6_listen_135 : decode cX6_listen 135 = .ok (.istore 4, 2) := by decide +kernel
theorem dX6_listen_137 : decode cX6_listen 137 = .ok (.iload 9, 2) := by decide +kernel
theorem dX6_listen_139 : decode cX6_listen 139 = .ok (.istore 5, 2) := by decide +kernel
theorem dX6_listen_141 : decode cX6_listen 141 = .ok (.iinc 6 1, 3) := by decide +kernel
theorem dX6_listen_144 : decode cX6_listen 144 = .ok (.goto (-134), 3) := by decide +kernel
theorem dX6_listen_147 : decode cX6_listen 147 = .ok (.aload_n 0, 1) := by decide +kernel
theorem dX6_listen_148 : decode cX6_listen 148 = .ok (.aload_n 1, 1) := by decide +kernel
theorem dX6_listen_149 : decode cX6_listen 149 = .ok (.getfield 18, 3) := by decide +kernel
theorem dX6_listen_152 : decode cX6_listen 152 = .ok (.iload_n 2, 1) := by decide +kernel
theorem dX6_listen_153 : decode cX6_listen 153 = .ok (.iload 4, 2) := by decide +kernel
theorem dX6_listen_155 : decode cX6_listen 155 = .ok (.iload 5, 2) := by decide +kernel
theorem dX6_listen_157 : decode cX6_listen 157 = .ok (.invokevirtual 79, 3) := by decide +kernel
theorem dX6_listen_160 : decode cX6_listen 160 = .ok (.return_, 1) := by decide +kernel
set_option maxRecDepth 20000 in
theorem ggX6_drawJitter_X2_setting : GoodIn wsX6_drawJitter wsX2_setting := goodIn_r _ [5, 6, 7, 8, 9, 10, 11, 12, 13, 14, 15, 25, 26, 27, 28, 29, 30, 31, 32, 33, 34, 35, 36] (by decide +kernel) (by decide +kernel)
set_option maxRecDepth 20000 in
theorem gX6_drawJitter_X2_setting : GoodIn wsX6_drawJitter (wsV RX6 68 RX2 yX2_setting wsX2_setting) := goodIn_app (goodIn_of _ (by decide +kernel)) ggX6_drawJitter_X2_setting
set_option maxRecDepth 20000 in
theorem ggX6_drawJitter_X2_draw : GoodIn wsX6_drawJitter wsX2_draw := goodIn_r _ [19, 20, 21, 22, 23, 24, 25, 26, 27, 28, 29, 30, 31, 32] (by decide +kernel) (by decide +kernel)
set_option maxRecDepth 20000 in
theorem gX6_drawJitter_X2_draw : GoodIn wsX6_drawJitter (wsV RX6 65 RX2 yX2_draw wsX2_draw) := goodIn_app (goodIn_of _ (by decide +kernel)) ggX6_drawJitter_X2_draw
theorem dX6_drawJitter_0 : decode cX6_drawJitter 0 = .ok (.aload_n 0, 1) := by decide +kernel
theorem dX6_drawJitter_1 : decode cX6_drawJitter 1 = .ok (.iconst 3, 1) := by decide +kernel
theorem dX6_drawJitter_2 : decode cX6_drawJitter 2 = .ok (.invokevirtual 68, 3) := by decide +kernel
theorem dX6_drawJitter_5 : decode cX6_drawJitter 5 = .ok (.istore_n 1, 1) := by decide +kernel
theorem dX6_drawJitter_6 : decode cX6_drawJitter 6 = .ok (.iload_n 1, 1) := by decide +kernel
theorem dX6_drawJitter_7 : decode cX6_drawJitter 7 = .ok (.ifCond .le 17, 3) := by decide +kernel
theorem dX6_drawJitter_10 : decode cX6_drawJitter 10 = .ok (.aload_n 0, 1) := by decide +kernel
theorem dX6_drawJitter_11 : decode cX6_drawJitter 11 = .ok (.iconst 2, 1) := by decide +kernel
theorem dX6_drawJitter_12 : decode cX6_drawJitter 12 = .ok (.iload_n 1, 1) := by decide +kernel
theorem dX6_drawJitter_13 : decode cX6_drawJitter 13 = .ok (.imul, 1) := by decide +kernel
theorem dX6_drawJitter_14 : decode cX6_drawJitter 14 = .ok (.iconst 1, 1) := by decide +kernel
theorem dX6_drawJitter_15 : decode cX6_drawJitter 15 = .ok (.iadd, 1) := by decide +kernel
theorem dX6_drawJitter_16 : decode cX6_drawJitter 16 = .ok (.invokevirtual 65, 3) := by decide +kernel
theorem dX6_drawJitter_19 : decode cX6_drawJitter 19 = .ok (.iload_n 1, 1) := by decide +kernel
theorem dX6_drawJitter_20 : decode cX6_drawJitter 20 = .ok (.isub, 1) := by decide +kernel
theorem dX6_drawJitter_21 : decode cX6_drawJitter 21 = .ok (.goto 4, 3) := by decide +kernel
theorem dX6_drawJitter_24 : decode cX6_drawJitter 24 = .ok (.iconst 0, 1) := by decide +kernel
theorem dX6_drawJitter_25 : decode cX6_drawJitter 25 = .ok (.ireturn, 1) := by decide +kernel
set_option maxRecDepth 20000 in
theorem ggX6_isPreferred_X2_setting : GoodIn wsX6_isPreferred wsX2_setting := goodIn_r _ [7, 8, 9, 10, 11, 12, 13, 14, 15, 16, 17, 21, 22, 23, 24, 25, 26, 27, 28, 29, 30, 31, 32] (by decide +kernel) (by decide +kernel)
set_option maxRecDepth 20000 in
theorem gX6_isPreferred_X2_setting : GoodIn wsX6_isPreferred (wsV RX6 68 RX2 yX2_setting wsX2_setting) := goodIn_app (goodIn_of _ (by decide +kernel)) ggX6_isPreferred_X2_setting
set_option maxRecDepth 20000 in
theorem ggX6_isPreferred_X9_at : GoodIn wsX6_isPreferred wsX9_at := goodIn_r _ [13, 14, 15, 16, 17, 29, 30, 31, 32] (by decide +kernel) (by decide +kernel)
set_option maxRecDepth 20000 in
theorem gX6_isPreferred_X9_at : GoodIn wsX6_isPreferred (wsV RX6 45 RX9 yX9_at wsX9_at) := goodIn_app (goodIn_of _ (by decide +kernel)) ggX6_isPreferred_X9_at
theorem dX6_isPreferred_0 : decode cX6_isPreferred 0 = .ok (.aload_n 1, 1) := by decide +kernel
theorem dX6_isPreferred_1 : decode cX6_isPreferred 1 = .ok (.iconst 5, 1) := by decide +kernel
theorem dX6_isPreferred_2 : decode cX6_isPreferred 2 = .ok (.invokevirtual 68, 3) := by decide +kernel
theorem dX6_isPreferred_5 : decode cX6_isPreferred 5 = .ok (.ifCond .ne 15, 3) := by decide +kernel
theorem dX6_isPreferred_8 : decode cX6_isPreferred 8 = .ok (.iload_n 3, 1) := by decide +kernel
theorem dX6_isPreferred_9 : decode cX6_isPreferred 9 = .ok (.iload 5, 2) := by decide +kernel
theorem dX6_isPreferred_11 : decode cX6_isPreferred 11 = .ok (.if_icmp .ge 7, 3) := by decide +kernel
theorem dX6_isPreferred_14 : decode cX6_isPreferred 14 = .ok (.iconst 1, 1) := by decide +kernel
theorem dX6_isPreferred_15 : decode cX6_isPreferred 15 = .ok (.goto 4, 3) := by decide +kernel
theorem dX6_isPreferred_18 : decode cX6_isPreferred 18 = .ok (.iconst 0, 1) := by decide +kernel
theorem dX6_isPreferred_19 : decode cX6_isPreferred 19 = .ok (.ireturn, 1) := by decide +kernel
theorem dX6_isPreferred_20 : decode cX6_isPreferred 20 = .ok (.aload_n 0, 1) := by decide +kernel
theorem dX6_isPreferred_21 : decode cX6_isPreferred 21 = .ok (.getfield 12, 3) := by decide +kernel
theorem dX6_isPreferred_24 : decode cX6_isPreferred 24 = .ok (.getfield 62, 3) := by decide +kernel
theorem dX6_isPreferred_27 : decode cX6_isPreferred 27 = .ok (.iload_n 2, 1) := by decide +kernel
theorem dX6_isPreferred_28 : decode cX6_isPreferred 28 = .ok (.iconst 3, 1) := by decide +kernel
theorem dX6_isPreferred_29 : decode cX6_isPreferred 29 = .ok (.invokevirtual 45, 3) := by decide +kernel
theorem dX6_isPreferred_32 : decode cX6_isPreferred 32 = .ok (.aload_n 0, 1) := by decide +kernel
theorem dX6_isPreferred_33 : decode cX6_isPreferred 33 = .ok (.getfield 12, 3) := by decide +kernel
theorem dX6_isPreferred_36 : decode cX6_isPreferred 36 = .ok (.getfield 62, 3) := by decide +kernel
theorem dX6_isPreferred_39 : decode cX6_isPreferred 39 = .ok (.iload 4, 2) := by decide +kernel
theorem dX6_isPreferred_41 : decode cX6_isPreferred 41 = .ok (.iconst 3, 1) := by decide +kernel
theorem dX6_isPreferred_42 : decode cX6_isPreferred 42 = .ok (.invokevirtual 45, 3) := by decide +kernel
theorem dX6_isPreferred_45 : decode cX6_isPreferred 45 = .ok (.if_icmp .le 7, 3) := by decide +kernel
theorem dX6_isPreferred_48 : decode cX6_isPreferred 48 = .ok (.iconst 1, 1) := by decide +kernel
theorem dX6_isPreferred_49 : decode cX6_isPreferred 49 = .ok (.goto 4, 3) := by decide +kernel
theorem dX6_isPreferred_52 : decode cX6_isPreferred 52 = .ok (.iconst 0, 1) := by decide +kernel
theorem dX6_isPreferred_53 : decode cX6_isPreferred 53 = .ok (.ireturn, 1) := by decide +kernel
set_option maxRecDepth 20000 in
theorem ggX6_write_X9_at : GoodIn wsX6_write wsX9_at := goodIn_r _ [8, 9, 10, 11, 12, 19, 20, 21, 22] (by decide +kernel) (by decide +kernel)
set_option maxRecDepth 20000 in
theorem gX6_write_X9_at : GoodIn wsX6_write (wsV RX6 45 RX9 yX9_at wsX9_at) := goodIn_app (goodIn_of _ (by decide +kernel)) ggX6_write_X9_at
set_option maxRecDepth 20000 in
theorem ggX6_write_X9_put : GoodIn wsX6_write wsX9_put := goodIn_r _ [16, 9, 10, 12, 19, 20, 21, 22] (by decide +kernel) (by decide +kernel)
set_option maxRecDepth 20000 in
theorem gX6_write_X9_put : GoodIn wsX6_write (wsV RX6 49 RX9 yX9_put wsX9_put) := goodIn_app (goodIn_of _ (by decide +kernel)) ggX6_write_X9_put
theorem dX6_write_0 : decode cX6_write 0 = .ok (.aload_n 1, 1) := by decide +kernel
theorem dX6_write_1 : decode cX6_write 1 = .ok (.iload_n 2, 1) := by decide +kernel
theorem dX6_write_2 : decode cX6_write 2 = .ok (.iconst 2, 1) := by decide +kernel
theorem dX6_write_3 : decode cX6_write 3 = .ok (.invokevirtual 45, 3) := by decide +kernel
theorem dX6_write_6 : decode cX6_write 6 = .ok (.aload_n 1, 1) := by decide +kernel
theorem dX6_write_7 : decode cX6_write 7 = .ok (.iload_n 2, 1) := by decide +kernel
theorem dX6_write_8 : decode cX6_write 8 = .ok (.iconst 3, 1) := by decide +kernel
theorem dX6_write_9 : decode cX6_write 9 = .ok (.invokevirtual 45, 3) := by decide +kernel
theorem dX6_write_12 : decode cX6_write 12 = .ok (.isub, 1) := by decide +kernel
theorem dX6_write_13 : decode cX6_write 13 = .ok (.istore 5, 2) := by decide +kernel
theorem dX6_write_15 : decode cX6_write 15 = .ok (.aload_n 1, 1) := by decide +kernel
theorem dX6_write_16 : decode cX6_write 16 = .ok (.iload_n 2, 1) := by decide +kernel
theorem dX6_write_17 : decode cX6_write 17 = .ok (.iconst 4, 1) := by decide +kernel
theorem dX6_write_18 : decode cX6_write 18 = .ok (.iload_n 3, 1) := by decide +kernel
theorem dX6_write_19 : decode cX6_write 19 = .ok (.ldc 61, 2) := by decide +kernel
theorem dX6_write_21 : decode cX6_write 21 = .ok (.if_icmp .ne 8, 3) := by decide +kernel
theorem dX6_write_24 : decode cX6_write 24 = .ok (.ldc 61, 2) := by decide +kernel
theorem dX6_write_26 : decode cX6_write 26 = .ok (.goto 8, 3) := by decide +kernel
theorem dX6_write_29 : decode cX6_write 29 = .ok (.iload 4, 2) := by decide +kernel
theorem dX6_write_31 : decode cX6_write 31 = .ok (.iload 5, 2) := by decide +kernel
theorem dX6_write_33 : decode cX6_write 33 = .ok (.iadd, 1) := by decide +kernel
theorem dX6_write_34 : decode cX6_write 34 = .ok (.invokevirtual 49, 3) := by decide +kernel
theorem dX6_write_37 : decode cX6_write 37 = .ok (.aload_n 1, 1) := by decide +kernel
theorem dX6_write_38 : decode cX6_write 38 = .ok (.iload_n 2, 1) := by decide +kernel
theorem dX6_write_39 : decode cX6_write 39 = .ok (.iconst 5, 1) := by decide +kernel
theorem dX6_write_40 : decode cX6_write 40 = .ok (.aload_n 0, 1) := by decide +kernel
theorem dX6_write_41 : decode cX6_write 41 = .ok (.getfield 12, 3) := by decide +kernel
theorem dX6_write_44 : decode cX6_write 44 = .ok (.getfield 62, 3) := by decide +kernel
theorem dX6_write_47 : decode cX6_write 47 = .ok (.iload_n 3, 1) := by decide +kernel
theorem dX6_write_48 : decode cX6_write 48 = .ok (.iconst 0, 1) := by decide +kernel
theorem dX6_write_49 : decode cX6_write 49 = .ok (.invokevirtual 45, 3) := by decide +kernel
theorem dX6_write_52 : decode cX6_write 52 = .ok (.invokevirtual 49, 3) := by decide +kernel
theorem dX6_write_55 : decode cX6_write 55 = .ok (.aload_n 1, 1) := by decide +kernel
theorem dX6_write_56 : decode cX6_write 56 = .ok (.iload_n 2, 1) := by decide +kernel
theorem dX6_write_57 : decode cX6_write 57 = .ok (.bipush 6, 2) := by decide +kernel
theorem dX6_write_59 : decode cX6_write 59 = .ok (.aload_n 0, 1) := by decide +kernel
theorem dX6_write_60 : decode cX6_write 60 = .ok (.getfield 12, 3) := by decide +kernel
theorem dX6_write_63 : decode cX6_write 63 = .ok (.getfield 62, 3) := by decide +kernel
theorem dX6_write_66 : decode cX6_write 66 = .ok (.iload_n 3, 1) := by decide +kernel
theorem dX6_write_67 : decode cX6_write 67 = .ok (.iconst 3, 1) := by decide +kernel
theorem dX6_write_68 : decode cX6_write 68 = .ok (.invokevirtual 45, 3) := by decide +kernel
theorem dX6_write_71 : decode cX6_write 71 = .ok (.invokevirtual 49, 3) := by decide +kernel
theorem dX6_write_74 : decode cX6_write 74 = .ok (.aload_n 1, 1) := by decide +kernel
theorem dX6_write_75 : decode cX6_write 75 = .ok (.iload_n 2, 1) := by decide +kernel
theorem dX6_write_76 : decode cX6_write 76 = .ok (.bipush 7, 2) := by decide +kernel
theorem dX6_write_78 : decode cX6_write 78 = .ok (.aload_n 0, 1) := by decide +kernel
theorem dX6_write_79 : decode cX6_write 79 = .ok (.getfield 12, 3) := by decide +kernel
theorem dX6_write_82 : decode cX6_write 82 = .ok (.getfield 62, 3) := by decide +kernel
theorem dX6_write_85 : decode cX6_write 85 = .ok (.iload_n 3, 1) := by decide +kernel
theorem dX6_write_86 : decode cX6_write 86 = .ok (.iconst 4, 1) := by decide +kernel
theorem dX6_write_87 : decode cX6_write 87 = .ok (.invokevirtual 45, 3) := by decide +kernel
theorem dX6_write_90 : decode cX6_write 90 = .ok (.invokevirtual 49, 3) := by decide +kernel
theorem dX6_write_93 : decode cX6_write 93 = .ok (.aload_n 1, 1) := by decide +kernel
theorem dX6_write_94 : decode cX6_write 94 = .ok (.iload_n 2, 1) := by decide +kernel
theorem dX6_write_95 : decode cX6_write 95 = .ok (.bipush 8, 2) := by decide +kernel
theorem dX6_write_97 : decode cX6_write 97 = .ok (.aload_n 0, 1) := by decide +kernel
theorem dX6_write_98 : decode cX6_write 98 = .ok (.getfield 12, 3) := by decide +kernel
theorem dX6_write_101 : decode cX6_write 101 = .ok (.getfield 62, 3) := by decide +kernel
theorem dX6_write_104 : decode cX6_write 104 = .ok (.iload_n 3, 1) := by decide +kernel
theorem dX6_write_105 : decode cX6_write 105 = .ok (.iconst 5, 1) := by decide +kernel
theorem dX6_write_106 : decode cX6_write 106 = .ok (.invokevirtual 45, 3) := by decide +kernel
theorem dX6_write_109 : decode cX6_write 109 = .ok (.invokevirtual 49, 3) := by decide +kernel
theorem dX6_write_112 : decode cX6_write 112 = .ok (.return_, 1) := by decide +kernel
theorem dX7_way_0 : decode cX7_way 0 = .ok (.iload_n 0, 1) := by decide +kernel
theorem dX7_way_1 : decode cX7_way 1 = .ok (.i2l, 1) := by decide +kernel
theorem dX7_way_2 : decode cX7_way 2 = .ok (.iload_n 0, 1) := by decide +kernel
theorem dX7_way_3 : decode cX7_way 3 = .ok (.i2l, 1) := by decide +kernel
theorem dX7_way_4 : decode cX7_way 4 = .ok (.lmul, 1) := by decide +kernel
theorem dX7_way_5 : decode cX7_way 5 = .ok (.iload_n 1, 1) := by decide +kernel
theorem dX7_way_6 : decode cX7_way 6 = .ok (.i2l, 1) := by decide +kernel
theorem dX7_way_7 : decode cX7_way 7 = .ok (.iload_n 1, 1) := by decide +kernel
theorem dX7_way_8 : decode cX7_way 8 = .ok (.i2l, 1) := by decide +kernel
theorem dX7_way_9 : decode cX7_way 9 = .ok (.lmul, 1) := by decide +kernel
theorem dX7_way_10 : decode cX7_way 10 = .ok (.ladd, 1) := by decide +kernel
theorem dX7_way_11 : decode cX7_way 11 = .ok (.lstore_n 2, 1) := by decide +kernel
theorem dX7_way_12 : decode cX7_way 12 = .ok (.lconst 0, 1) := by decide +kernel
theorem dX7_way_13 : decode cX7_way 13 = .ok (.lstore 4, 2) := by decide +kernel
theorem dX7_way_15 : decode cX7_way 15 = .ok (.ldc2_w 7, 3) := by decide +kernel
theorem dX7_way_18 : decode cX7_way 18 = .ok (.lstore 6, 2) := by decide +kernel
theorem dX7_way_20 : decode cX7_way 20 = .ok (.lload 6, 2) := by decide +kernel
theorem dX7_way_22 : decode cX7_way 22 = .ok (.lconst 0, 1) := by decide +kernel
theorem dX7_way_23 : decode cX7_way 23 = .ok (.lcmp, 1) := by decide +kernel
theorem dX7_way_24 : decode cX7_way 24 = .ok (.ifCond .le 35, 3) := by decide +kernel
theorem dX7_way_27 : decode cX7_way 27 = .ok (.lload 4, 2) := by decide +kernel
theorem dX7_way_29 : decode cX7_way 29 = .ok (.lload 6, 2) := by decide +kernel
theorem dX7_way_31 : decode cX7_way 31 = .ok (.ladd, 1) := by decide +kernel
theorem dX7_way_32 : decode cX7_way 32 = .ok (.lload 4, 2) := by decide +kernel
theorem dX7_way_34 : decode cX7_way 34 = .ok (.lload 6, 2) := by decide +kernel
theorem dX7_way_36 : decode cX7_way 36 = .ok (.ladd, 1) := by decide +kernel
theorem dX7_way_37 : decode cX7_way 37 = .ok (.lmul, 1) := by decide +kernel
theorem dX7_way_38 : decode cX7_way 38 = .ok (.lload_n 2, 1) := by decide +kernel
theorem dX7_way_39 : decode cX7_way 39 = .ok (.lcmp, 1) := by decide +kernel
theorem dX7_way_40 : decode cX7_way 40 = .ok (.ifCond .gt 10, 3) := by decide +kernel
theorem dX7_way_43 : decode cX7_way 43 = .ok (.lload 4, 2) := by decide +kernel
theorem dX7_way_45 : decode cX7_way 45 = .ok (.lload 6, 2) := by decide +kernel
theorem dX7_way_47 : decode cX7_way 47 = .ok (.ladd, 1) := by decide +kernel
theorem dX7_way_48 : decode cX7_way 48 = .ok (.lstore 4, 2) := by decide +kernel
theorem dX7_way_50 : decode cX7_way 50 = .ok (.lload 6, 2) := by decide +kernel
theorem dX7_way_52 : decode cX7_way 52 = .ok (.iconst 1, 1) := by decide +kernel
theorem dX7_way_53 : decode cX7_way 53 = .ok (.lshr, 1) := by decide +kernel
theorem dX7_way_54 : decode cX7_way 54 = .ok (.lstore 6, 2) := by decide +kernel
theorem dX7_way_56 : decode cX7_way 56 = .ok (.goto (-36), 3) := by decide +kernel
theorem dX7_way_59 : decode cX7_way 59 = .ok (.lload 4, 2) := by decide +kernel
theorem dX7_way_61 : decode cX7_way 61 = .ok (.l2i, 1) := by decide +kernel
theorem dX7_way_62 : decode cX7_way 62 = .ok (.ireturn, 1) := by decide +kernel
theorem dX7_strength_0 : decode cX7_strength 0 = .ok (.iload_n 0, 1) := by decide +kernel
theorem dX7_strength_1 : decode cX7_strength 1 = .ok (.ifCond .ge 7, 3) := by decide +kernel
theorem dX7_strength_4 : decode cX7_strength 4 = .ok (.iconst 0, 1) := by decide +kernel
theorem dX7_strength_5 : decode cX7_strength 5 = .ok (.goto 10, 3) := by decide +kernel
theorem dX7_strength_8 : decode cX7_strength 8 = .ok (.ldc 9, 2) := by decide +kernel
theorem dX7_strength_10 : decode cX7_strength 10 = .ok (.iload_n 0, 1) := by decide +kernel
theorem dX7_strength_11 : decode cX7_strength 11 = .ok (.bipush 100, 2) := by decide +kernel
theorem dX7_strength_13 : decode cX7_strength 13 = .ok (.iadd, 1) := by decide +kernel
theorem dX7_strength_14 : decode cX7_strength 14 = .ok (.idiv, 1) := by decide +kernel
theorem dX7_strength_15 : decode cX7_strength 15 = .ok (.ireturn, 1) := by decide +kernel
theorem dX7_crosses_0 : decode cX7_crosses 0 = .ok (.iload_n 0, 1) := by decide +kernel
theorem dX7_crosses_1 : decode cX7_crosses 1 = .ok (.iload_n 2, 1) := by decide +kernel
theorem dX7_crosses_2 : decode cX7_crosses 2 = .ok (.invokestatic 10, 3) := by decide +kernel
theorem dX7_crosses_5 : decode cX7_crosses 5 = .ok (.iload 4, 2) := by decide +kernel
theorem dX7_crosses_7 : decode cX7_crosses 7 = .ok (.if_icmp .ge 13, 3) := by decide +kernel
theorem dX7_crosses_10 : decode cX7_crosses 10 = .ok (.iload_n 0, 1) := by decide +kernel
theorem dX7_crosses_11 : decode cX7_crosses 11 = .ok (.iload_n 2, 1) := by decide +kernel
theorem dX7_crosses_12 : decode cX7_crosses 12 = .ok (.invokestatic 16, 3) := by decide +kernel
theorem dX7_crosses_15 : decode cX7_crosses 15 = .ok (.iload 4, 2) := by decide +kernel
theorem dX7_crosses_17 : decode cX7_crosses 17 = .ok (.if_icmp .gt 5, 3) := by decide +kernel
theorem dX7_crosses_20 : decode cX7_crosses 20 = .ok (.iconst 0, 1) := by decide +kernel
theorem dX7_crosses_21 : decode cX7_crosses 21 = .ok (.ireturn, 1) := by decide +kernel
theorem dX7_crosses_22 : decode cX7_crosses 22 = .ok (.iload_n 2, 1) := by decide +kernel
theorem dX7_crosses_23 : decode cX7_crosses 23 = .ok (.i2l, 1) := by decide +kernel
theorem dX7_crosses_24 : decode cX7_crosses 24 = .ok (.iload_n 0, 1) := by decide +kernel
theorem dX7_crosses_25 : decode cX7_crosses 25 = .ok (.i2l, 1) := by decide +kernel
theorem dX7_crosses_26 : decode cX7_crosses 26 = .ok (.lsub, 1) := by decide +kernel
theorem dX7_crosses_27 : decode cX7_crosses 27 = .ok (.lstore 7, 2) := by decide +kernel
theorem dX7_crosses_29 : decode cX7_crosses 29 = .ok (.iload_n 1, 1) := by decide +kernel
theorem dX7_crosses_30 : decode cX7_crosses 30 = .ok (.i2l, 1) := by decide +kernel
theorem dX7_crosses_31 : decode cX7_crosses 31 = .ok (.lload 7, 2) := by decide +kernel
theorem dX7_crosses_33 : decode cX7_crosses 33 = .ok (.lmul, 1) := by decide +kernel
theorem dX7_crosses_34 : decode cX7_crosses 34 = .ok (.iload_n 3, 1) := by decide +kernel
theorem dX7_crosses_35 : decode cX7_crosses 35 = .ok (.i2l, 1) := by decide +kernel
theorem dX7_crosses_36 : decode cX7_crosses 36 = .ok (.iload_n 1, 1) := by decide +kernel
theorem dX7_crosses_37 : decode cX7_crosses 37 = .ok (.i2l, 1) := by decide +kernel
theorem dX7_crosses_38 : decode cX7_crosses 38 = .ok (.lsub, 1) := by decide +kernel
theorem dX7_crosses_39 : decode cX7_crosses 39 = .ok (.iload 4, 2) := by decide +kernel
theorem dX7_crosses_41 : decode cX7_crosses 41 = .ok (.i2l, 1) := by decide +kernel
theorem dX7_crosses_42 : decode cX7_crosses 42 = .ok (.iload_n 0, 1) := by decide +kernel
theorem dX7_crosses_43 : decode cX7_crosses 43 = .ok (.i2l, 1) := by decide +kernel
theorem dX7_crosses_44 : decode cX7_crosses 44 = .ok (.lsub, 1) := by decide +kernel
theorem dX7_crosses_45 : decode cX7_crosses 45 = .ok (.lmul, 1) := by decide +kernel
theorem dX7_crosses_46 : decode cX7_crosses 46 = .ok (.ladd, 1) := by decide +kernel
theorem dX7_crosses_47 : decode cX7_crosses 47 = .ok (.lstore 9, 2) := by decide +kernel
theorem dX7_crosses_49 : decode cX7_crosses 49 = .ok (.iload 5, 2) := by decide +kernel
theorem dX7_crosses_51 : decode cX7_crosses 51 = .ok (.i2l, 1) := by decide +kernel
theorem dX7_crosses_52 : decode cX7_crosses 52 = .ok (.lload 7, 2) := by decide +kernel
theorem dX7_crosses_54 : decode cX7_crosses 54 = .ok (.lmul, 1) := by decide +kernel
theorem dX7_crosses_55 : decode cX7_crosses 55 = .ok (.iload 6, 2) := by decide +kernel
theorem dX7_crosses_57 : decode cX7_crosses 57 = .ok (.i2l, 1) := by decide +kernel
theorem dX7_crosses_58 : decode cX7_crosses 58 = .ok (.lload 7, 2) := by decide +kernel
theorem dX7_crosses_60 : decode cX7_crosses 60 = .ok (.lmul, 1) := by decide +kernel
theorem dX7_crosses_61 : decode cX7_crosses 61 = .ok (.invokestatic 19, 3) := by decide +kernel
theorem dX7_crosses_64 : decode cX7_crosses 64 = .ok (.lstore 11, 2) := by decide +kernel
theorem dX7_crosses_66 : decode cX7_crosses 66 = .ok (.iload 5, 2) := by decide +kernel
theorem dX7_crosses_68 : decode cX7_crosses 68 = .ok (.i2l, 1) := by decide +kernel
theorem dX7_crosses_69 : decode cX7_crosses 69 = .ok (.lload 7, 2) := by decide +kernel
theorem dX7_crosses_71 : decode cX7_crosses 71 = .ok (.lmul, 1) := by decide +kernel
theorem dX7_crosses_72 : decode cX7_crosses 72 = .ok (.iload 6, 2) := by decide +kernel
theorem dX7_crosses_74 : decode cX7_crosses 74 = .ok (.i2l, 1) := by decide +kernel
theorem dX7_crosses_75 : decode cX7_crosses 75 = .ok (.lload 7, 2) := by decide +kernel
theorem dX7_crosses_77 : decode cX7_crosses 77 = .ok (.lmul, 1) := by decide +kernel
theorem dX7_crosses_78 : decode cX7_crosses 78 = .ok (.invokestatic 22, 3) := by decide +kernel
theorem dX7_crosses_81 : decode cX7_crosses 81 = .ok (.lstore 13, 2) := by decide +kernel
theorem dX7_crosses_83 : decode cX7_crosses 83 = .ok (.lload 11, 2) := by decide +kernel
theorem dX7_crosses_85 : decode cX7_crosses 85 = .ok (.lload 9, 2) := by decide +kernel
theorem dX7_crosses_87 : decode cX7_crosses 87 = .ok (.lcmp, 1) := by decide +kernel
theorem dX7_crosses_88 : decode cX7_crosses 88 = .ok (.ifCond .gt 15, 3) := by decide +kernel
theorem dX7_crosses_91 : decode cX7_crosses 91 = .ok (.lload 9, 2) := by decide +kernel
theorem dX7_crosses_93 : decode cX7_crosses 93 = .ok (.lload 13, 2) := by decide +kernel
theorem dX7_crosses_95 : decode cX7_crosses 95 = .ok (.lcmp, 1) := by decide +kernel
theorem dX7_crosses_96 : decode cX7_crosses 96 = .ok (.ifCond .gt 7, 3) := by decide +kernel
theorem dX7_crosses_99 : decode cX7_crosses 99 = .ok (.iconst 1, 1) := by decide +kernel
theorem dX7_crosses_100 : decode cX7_crosses 100 = .ok (.goto 4, 3) := by decide +kernel
theorem dX7_crosses_103 : decode cX7_crosses 103 = .ok (.iconst 0, 1) := by decide +kernel
theorem dX7_crosses_104 : decode cX7_crosses 104 = .ok (.ireturn, 1) := by decide +kernel
theorem dX8_init_0 : decode cX8_init 0 = .ok (.aload_n 0, 1) := by decide +kernel
theorem dX8_init_1 : decode cX8_init 1 = .ok (.invokespecial 3, 3) := by decide +kernel
theorem dX8_init_4 : decode cX8_init 4 = .ok (.aload_n 0, 1) := by decide +kernel
theorem dX8_init_5 : decode cX8_init 5 = .ok (.sipush 400, 3) := by decide +kernel
theorem dX8_init_8 : decode cX8_init 8 = .ok (.newarray .int, 2) := by decide +kernel
theorem dX8_init_10 : decode cX8_init 10 = .ok (.putfield 9, 3) := by decide +kernel
theorem dX8_init_13 : decode cX8_init 13 = .ok (.aload_n 0, 1) := by decide +kernel
theorem dX8_init_14 : decode cX8_init 14 = .ok (.sipush 400, 3) := by decide +kernel
theorem dX8_init_17 : decode cX8_init 17 = .ok (.newarray .int, 2) := by decide +kernel
theorem dX8_init_19 : decode cX8_init 19 = .ok (.putfield 15, 3) := by decide +kernel
theorem dX8_init_22 : decode cX8_init 22 = .ok (.aload_n 0, 1) := by decide +kernel
theorem dX8_init_23 : decode cX8_init 23 = .ok (.bipush 8, 2) := by decide +kernel
theorem dX8_init_25 : decode cX8_init 25 = .ok (.newarray .int, 2) := by decide +kernel
theorem dX8_init_27 : decode cX8_init 27 = .ok (.putfield 18, 3) := by decide +kernel
theorem dX8_init_30 : decode cX8_init 30 = .ok (.aload_n 0, 1) := by decide +kernel
theorem dX8_init_31 : decode cX8_init 31 = .ok (.bipush 8, 2) := by decide +kernel
theorem dX8_init_33 : decode cX8_init 33 = .ok (.newarray .int, 2) := by decide +kernel
theorem dX8_init_35 : decode cX8_init 35 = .ok (.putfield 21, 3) := by decide +kernel
theorem dX8_init_38 : decode cX8_init 38 = .ok (.aload_n 0, 1) := by decide +kernel
theorem dX8_init_39 : decode cX8_init 39 = .ok (.iconst 0, 1) := by decide +kernel
theorem dX8_init_40 : decode cX8_init 40 = .ok (.putfield 24, 3) := by decide +kernel
theorem dX8_init_43 : decode cX8_init 43 = .ok (.aload_n 0, 1) := by decide +kernel
theorem dX8_init_44 : decode cX8_init 44 = .ok (.ldc 28, 2) := by decide +kernel
theorem dX8_init_46 : decode cX8_init 46 = .ok (.putfield 29, 3) := by decide +kernel
theorem dX8_init_49 : decode cX8_init 49 = .ok (.aload_n 0, 1) := by decide +kernel
theorem dX8_init_50 : decode cX8_init 50 = .ok (.iconst 0, 1) := by decide +kernel
theorem dX8_init_51 : decode cX8_init 51 = .ok (.putfield 32, 3) := by decide +kernel
theorem dX8_init_54 : decode cX8_init 54 = .ok (.aload_n 0, 1) := by decide +kernel
theorem dX8_init_55 : decode cX8_init 55 = .ok (.iconst 0, 1) := by decide +kernel
theorem dX8_init_56 : decode cX8_init 56 = .ok (.putfield 35, 3) := by decide +kernel
theorem dX8_init_59 : decode cX8_init 59 = .ok (.aload_n 0, 1) := by decide +kernel
theorem dX8_init_60 : decode cX8_init 60 = .ok (.iconst (-1), 1) := by decide +kernel
theorem dX8_init_61 : decode cX8_init 61 = .ok (.putfield 39, 3) := by decide +kernel
theorem dX8_init_64 : decode cX8_init 64 = .ok (.return_, 1) := by decide +kernel
theorem dX8_outdate_0 : decode cX8_outdate 0 = .ok (.aload_n 0, 1) := by decide +kernel
theorem dX8_outdate_1 : decode cX8_outdate 1 = .ok (.iconst 0, 1) := by decide +kernel
theorem dX8_outdate_2 : decode cX8_outdate 2 = .ok (.putfield 35, 3) := by decide +kernel
theorem dX8_outdate_5 : decode cX8_outdate 5 = .ok (.return_, 1) := by decide +kernel
set_option maxRecDepth 20000 in
theorem ggX8_take_X8_gatherHearers : GoodIn wsX8_take wsX8_gatherHearers := goodIn_r _ [11, 12, 13, 14, 3, 4, 5, 6, 2, 15, 16, 17, 18, 19, 20, 21, 22, 23, 24, 25, 26, 27, 28, 29, 30, 31, 98, 99, 100, 101, 102, 103, 104, 105, 106, 107, 108, 109, 110, 111, 112, 113, 114, 115, 116, 117, 118] (by decide +kernel) (by decide +kernel)
set_option maxRecDepth 20000 in
theorem gX8_take_X8_gatherHearers : GoodIn wsX8_take (wsV RX8 42 RX8 yX8_gatherHearers wsX8_gatherHearers) := goodIn_app (goodIn_of _ (by decide +kernel)) ggX8_take_X8_gatherHearers
set_option maxRecDepth 20000 in
theorem ggX8_take_X2_cellCount : GoodIn wsX8_take wsX2_cellCount := goodIn_r _ [35, 36, 37, 107, 108, 109, 110, 111, 112, 113, 114] (by decide +kernel) (by decide +kernel)
set_option maxRecDepth 20000 in
theorem gX8_take_X2_cellCount : GoodIn wsX8_take (wsV RX8 46 RX2 yX2_cellCount wsX2_cellCount) := goodIn_app (goodIn_of _ (by decide +kernel)) ggX8_take_X2_cellCount
set_option maxRecDepth 20000 in
theorem ggX8_take_X8_judge : GoodIn wsX8_take wsX8_judge := goodIn_r _ [41, 12, 42, 43, 44, 45, 46, 10, 47, 15, 48, 13, 49, 24, 25, 26, 27, 28, 29, 30, 31, 50, 51, 52, 19, 53, 54, 55, 56, 57, 36, 58, 59, 60, 61, 62, 63, 64, 65, 21, 23, 66, 67, 68, 69, 70, 71, 72, 73, 74, 75, 76, 77, 78, 79, 80, 81, 82, 83, 84, 85, 5, 86, 98, 99, 100, 101, 102, 103, 104, 105, 106, 107, 108, 109, 110, 111, 112, 113, 114, 115, 116, 117, 118] (by decide +kernel) (by decide +kernel)
set_option maxRecDepth 20000 in
theorem gX8_take_X8_judge : GoodIn wsX8_take (wsV RX8 58 RX8 yX8_judge wsX8_judge) := goodIn_app (goodIn_of _ (by decide +kernel)) ggX8_take_X8_judge
set_option maxRecDepth 20000 in
theorem ggX8_take_X8_choose : GoodIn wsX8_take wsX8_choose := goodIn_r _ [90, 91, 92, 93, 42, 43, 94, 95, 96, 10, 97, 12, 98, 99, 100, 101, 102, 103, 104, 105, 106] (by decide +kernel) (by decide +kernel)
set_option maxRecDepth 20000 in
theorem gX8_take_X8_choose : GoodIn wsX8_take (wsV RX8 62 RX8 yX8_choose wsX8_choose) := goodIn_app (goodIn_of _ (by decide +kernel)) ggX8_take_X8_choose
theorem dX8_take_0 : decode cX8_take 0 = .ok (.aload_n 0, 1) := by decide +kernel
theorem dX8_take_1 : decode cX8_take 1 = .ok (.getfield 35, 3) := by decide +kernel
theorem dX8_take_4 : decode cX8_take 4 = .ok (.ifCond .eq 12, 3) := by decide +kernel
theorem dX8_take_7 : decode cX8_take 7 = .ok (.aload_n 0, 1) := by decide +kernel
theorem dX8_take_8 : decode cX8_take 8 = .ok (.getfield 39, 3) := by decide +kernel
theorem dX8_take_11 : decode cX8_take 11 = .ok (.iload_n 2, 1) := by decide +kernel
theorem dX8_take_12 : decode cX8_take 12 = .ok (.if_icmp .ne 4, 3) := by decide +kernel
theorem dX8_take_15 : decode cX8_take 15 = .ok (.return_, 1) := by decide +kernel
theorem dX8_take_16 : decode cX8_take 16 = .ok (.aload_n 0, 1) := by decide +kernel
theorem dX8_take_17 : decode cX8_take 17 = .ok (.iload_n 2, 1) := by decide +kernel
theorem dX8_take_18 : decode cX8_take 18 = .ok (.putfield 39, 3) := by decide +kernel
theorem dX8_take_21 : decode cX8_take 21 = .ok (.aload_n 0, 1) := by decide +kernel
theorem dX8_take_22 : decode cX8_take 22 = .ok (.iconst 1, 1) := by decide +kernel
theorem dX8_take_23 : decode cX8_take 23 = .ok (.putfield 35, 3) := by decide +kernel
theorem dX8_take_26 : decode cX8_take 26 = .ok (.aload_n 0, 1) := by decide +kernel
theorem dX8_take_27 : decode cX8_take 27 = .ok (.aload_n 1, 1) := by decide +kernel
theorem dX8_take_28 : decode cX8_take 28 = .ok (.invokevirtual 42, 3) := by decide +kernel
theorem dX8_take_31 : decode cX8_take 31 = .ok (.aload_n 1, 1) := by decide +kernel
theorem dX8_take_32 : decode cX8_take 32 = .ok (.invokevirtual 46, 3) := by decide +kernel
theorem dX8_take_35 : decode cX8_take 35 = .ok (.sipush 400, 3) := by decide +kernel
theorem dX8_take_38 : decode cX8_take 38 = .ok (.invokestatic 52, 3) := by decide +kernel
theorem dX8_take_41 : decode cX8_take 41 = .ok (.istore_n 3, 1) := by decide +kernel
theorem dX8_take_42 : decode cX8_take 42 = .ok (.iconst 0, 1) := by decide +kernel
theorem dX8_take_43 : decode cX8_take 43 = .ok (.istore 4, 2) := by decide +kernel
theorem dX8_take_45 : decode cX8_take 45 = .ok (.iload 4, 2) := by decide +kernel
theorem dX8_take_47 : decode cX8_take 47 = .ok (.iload_n 3, 1) := by decide +kernel
theorem dX8_take_48 : decode cX8_take 48 = .ok (.if_icmp .ge 16, 3) := by decide +kernel
theorem dX8_take_51 : decode cX8_take 51 = .ok (.aload_n 0, 1) := by decide +kernel
theorem dX8_take_52 : decode cX8_take 52 = .ok (.aload_n 1, 1) := by decide +kernel
theorem dX8_take_53 : decode cX8_take 53 = .ok (.iload 4, 2) := by decide +kernel
theorem dX8_take_55 : decode cX8_take 55 = .ok (.invokevirtual 58, 3) := by decide +kernel
theorem dX8_take_58 : decode cX8_take 58 = .ok (.iinc 4 1, 3) := by decide +kernel
theorem dX8_take_61 : decode cX8_take 61 = .ok (.goto (-16), 3) := by decide +kernel
theorem dX8_take_64 : decode cX8_take 64 = .ok (.aload_n 0, 1) := by decide +kernel
theorem dX8_take_65 : decode cX8_take 65 = .ok (.iload_n 3, 1) := by decide +kernel
theorem dX8_take_66 : decode cX8_take 66 = .ok (.invokevirtual 62, 3) := by decide +kernel
theorem dX8_take_69 : decode cX8_take 69 = .ok (.return_, 1) := by decide +kernel
theorem dX8_pairCount_0 : decode cX8_pairCount 0 = .ok (.aload_n 0, 1) := by decide +kernel
theorem dX8_pairCount_1 : decode cX8_pairCount 1 = .ok (.getfield 24, 3) := by decide +kernel
theorem dX8_pairCount_4 : decode cX8_pairCount 4 = .ok (.aload_n 0, 1) := by decide +kernel
theorem dX8_pairCount_5 : decode cX8_pairCount 5 = .ok (.getfield 24, 3) := by decide +kernel
theorem dX8_pairCount_8 : decode cX8_pairCount 8 = .ok (.iconst 1, 1) := by decide +kernel
theorem dX8_pairCount_9 : decode cX8_pairCount 9 = .ok (.isub, 1) := by decide +kernel
theorem dX8_pairCount_10 : decode cX8_pairCount 10 = .ok (.imul, 1) := by decide +kernel
theorem dX8_pairCount_11 : decode cX8_pairCount 11 = .ok (.iconst 2, 1) := by decide +kernel
theorem dX8_pairCount_12 : decode cX8_pairCount 12 = .ok (.idiv, 1) := by decide +kernel
theorem dX8_pairCount_13 : decode cX8_pairCount 13 = .ok (.ireturn, 1) := by decide +kernel
set_option maxRecDepth 20000 in
theorem ggX8_votesOf_X11_isBetween : GoodIn wsX8_votesOf wsX11_isBetween := goodIn_r _ [4] (by decide +kernel) (by decide +kernel)
set_option maxRecDepth 20000 in
theorem gX8_votesOf_X11_isBetween_n66 : GoodIn wsX8_votesOf (wsX11_isBetween) := ggX8_votesOf_X11_isBetween
theorem dX8_votesOf_0 : decode cX8_votesOf 0 = .ok (.iload_n 1, 1) := by decide +kernel
theorem dX8_votesOf_1 : decode cX8_votesOf 1 = .ok (.iconst 0, 1) := by decide +kernel
theorem dX8_votesOf_2 : decode cX8_votesOf 2 = .ok (.sipush 399, 3) := by decide +kernel
theorem dX8_votesOf_5 : decode cX8_votesOf 5 = .ok (.invokestatic 66, 3) := by decide +kernel
theorem dX8_votesOf_8 : decode cX8_votesOf 8 = .ok (.ifCond .eq 12, 3) := by decide +kernel
theorem dX8_votesOf_11 : decode cX8_votesOf 11 = .ok (.aload_n 0, 1) := by decide +kernel
theorem dX8_votesOf_12 : decode cX8_votesOf 12 = .ok (.getfield 9, 3) := by decide +kernel
theorem dX8_votesOf_15 : decode cX8_votesOf 15 = .ok (.iload_n 1, 1) := by decide +kernel
theorem dX8_votesOf_16 : decode cX8_votesOf 16 = .ok (.iaload, 1) := by decide +kernel
theorem dX8_votesOf_17 : decode cX8_votesOf 17 = .ok (.goto 4, 3) := by decide +kernel
theorem dX8_votesOf_20 : decode cX8_votesOf 20 = .ok (.iconst 0, 1) := by decide +kernel
theorem dX8_votesOf_21 : decode cX8_votesOf 21 = .ok (.ireturn, 1) := by decide +kernel
set_option maxRecDepth 20000 in
theorem ggX8_gatherHearers_X2_hasNoted : GoodIn wsX8_gatherHearers wsX2_hasNoted := goodIn_r _ [14, 15, 16, 17, 18, 19, 20, 21, 22, 23, 24, 25, 35, 36, 37, 38, 39, 40, 41, 42, 43, 44, 45, 46] (by decide +kernel) (by decide +kernel)
set_option maxRecDepth 20000 in
theorem gX8_gatherHearers_X2_hasNoted : GoodIn wsX8_gatherHearers (wsV RX8 79 RX2 yX2_hasNoted wsX2_hasNoted) := goodIn_app (goodIn_of _ (by decide +kernel)) ggX8_gatherHearers_X2_hasNoted
theorem dX8_gatherHearers_0 : decode cX8_gatherHearers 0 = .ok (.aload_n 0, 1) := by decide +kernel
theorem dX8_gatherHearers_1 : decode cX8_gatherHearers 1 = .ok (.iconst 0, 1) := by decide +kernel
theorem dX8_gatherHearers_2 : decode cX8_gatherHearers 2 = .ok (.putfield 24, 3) := by decide +kernel
theorem dX8_gatherHearers_5 : decode cX8_gatherHearers 5 = .ok (.aload_n 1, 1) := by decide +kernel
theorem dX8_gatherHearers_6 : decode cX8_gatherHearers 6 = .ok (.getfield 70, 3) := by decide +kernel
theorem dX8_gatherHearers_9 : decode cX8_gatherHearers 9 = .ok (.getfield 74, 3) := by decide +kernel
theorem dX8_gatherHearers_12 : decode cX8_gatherHearers 12 = .ok (.bipush 8, 2) := by decide +kernel
theorem dX8_gatherHearers_14 : decode cX8_gatherHearers 14 = .ok (.invokestatic 52, 3) := by decide +kernel
theorem dX8_gatherHearers_17 : decode cX8_gatherHearers 17 = .ok (.istore_n 2, 1) := by decide +kernel
theorem dX8_gatherHearers_18 : decode cX8_gatherHearers 18 = .ok (.iconst 0, 1) := by decide +kernel
theorem dX8_gatherHearers_19 : decode cX8_gatherHearers 19 = .ok (.istore_n 3, 1) := by decide +kernel
theorem dX8_gatherHearers_20 : decode cX8_gatherHearers 20 = .ok (.iload_n 3, 1) := by decide +kernel
theorem dX8_gatherHearers_21 : decode cX8_gatherHearers 21 = .ok (.iload_n 2, 1) := by decide +kernel
theorem dX8_gatherHearers_22 : decode cX8_gatherHearers 22 = .ok (.if_icmp .ge 45, 3) := by decide +kernel
theorem dX8_gatherHearers_25 : decode cX8_gatherHearers 25 = .ok (.iload_n 3, 1) := by decide +kernel
theorem dX8_gatherHearers_26 : decode cX8_gatherHearers 26 = .ok (.aload_n 0, 1) := by decide +kernel
theorem dX8_gatherHearers_27 : decode cX8_gatherHearers 27 = .ok (.getfield 39, 3) := by decide +kernel
theorem dX8_gatherHearers_30 : decode cX8_gatherHearers 30 = .ok (.if_icmp .eq 31, 3) := by decide +kernel
theorem dX8_gatherHearers_33 : decode cX8_gatherHearers 33 = .ok (.aload_n 1, 1) := by decide +kernel
theorem dX8_gatherHearers_34 : decode cX8_gatherHearers 34 = .ok (.iload_n 3, 1) := by decide +kernel
theorem dX8_gatherHearers_35 : decode cX8_gatherHearers 35 = .ok (.invokevirtual 79, 3) := by decide +kernel
theorem dX8_gatherHearers_38 : decode cX8_gatherHearers 38 = .ok (.ifCond .eq 23, 3) := by decide +kernel
theorem dX8_gatherHearers_41 : decode cX8_gatherHearers 41 = .ok (.aload_n 0, 1) := by decide +kernel
theorem dX8_gatherHearers_42 : decode cX8_gatherHearers 42 = .ok (.getfield 18, 3) := by decide +kernel
theorem dX8_gatherHearers_45 : decode cX8_gatherHearers 45 = .ok (.aload_n 0, 1) := by decide +kernel
theorem dX8_gatherHearers_46 : decode cX8_gatherHearers 46 = .ok (.getfield 24, 3) := by decide +kernel
theorem dX8_gatherHearers_49 : decode cX8_gatherHearers 49 = .ok (.iload_n 3, 1) := by decide +kernel
theorem dX8_gatherHearers_50 : decode cX8_gatherHearers 50 = .ok (.iastore, 1) := by decide +kernel
theorem dX8_gatherHearers_51 : decode cX8_gatherHearers 51 = .ok (.aload_n 0, 1) := by decide +kernel
theorem dX8_gatherHearers_52 : decode cX8_gatherHearers 52 = .ok (.dup, 1) := by decide +kernel
theorem dX8_gatherHearers_53 : decode cX8_gatherHearers 53 = .ok (.getfield 24, 3) := by decide +kernel
theorem dX8_gatherHearers_56 : decode cX8_gatherHearers 56 = .ok (.iconst 1, 1) := by decide +kernel
theorem dX8_gatherHearers_57 : decode cX8_gatherHearers 57 = .ok (.iadd, 1) := by decide +kernel
theorem dX8_gatherHearers_58 : decode cX8_gatherHearers 58 = .ok (.putfield 24, 3) := by decide +kernel
theorem dX8_gatherHearers_61 : decode cX8_gatherHearers 61 = .ok (.iinc 3 1, 3) := by decide +kernel
theorem dX8_gatherHearers_64 : decode cX8_gatherHearers 64 = .ok (.goto (-44), 3) := by decide +kernel
theorem dX8_gatherHearers_67 : decode cX8_gatherHearers 67 = .ok (.return_, 1) := by decide +kernel
set_option maxRecDepth 20000 in
theorem ggX8_traceStarts_X9_at : GoodIn wsX8_traceStarts wsX9_at := goodIn_r _ [9, 10, 11, 12, 13, 61, 62, 63, 64] (by decide +kernel) (by decide +kernel)
set_option maxRecDepth 20000 in
theorem gX8_traceStarts_X9_at : GoodIn wsX8_traceStarts (wsV RX8 83 RX9 yX9_at wsX9_at) := goodIn_app (goodIn_of _ (by decide +kernel)) ggX8_traceStarts_X9_at
set_option maxRecDepth 20000 in
theorem ggX8_traceStarts_X2_timeFromCell : GoodIn wsX8_traceStarts wsX2_timeFromCell := goodIn_r _ [18, 19, 20, 21, 17, 22, 23, 24, 25, 26, 27, 28, 29, 30, 31, 32, 33, 6, 7, 8, 9, 10, 11, 12, 13, 34, 35, 36, 37, 38, 39, 40, 41, 42, 43, 53, 54, 55, 56, 57, 58, 59, 60, 61, 62, 63, 64] (by decide +kernel) (by decide +kernel)
set_option maxRecDepth 20000 in
theorem gX8_traceStarts_X2_timeFromCell : GoodIn wsX8_traceStarts (wsV RX8 86 RX2 yX2_timeFromCell wsX2_timeFromCell) := goodIn_app (goodIn_of _ (by decide +kernel)) ggX8_traceStarts_X2_timeFromCell
theorem dX8_traceStarts_0 : decode cX8_traceStarts 0 = .ok (.iconst 0, 1) := by decide +kernel
theorem dX8_traceStarts_1 : decode cX8_traceStarts 1 = .ok (.istore_n 3, 1) := by decide +kernel
theorem dX8_traceStarts_2 : decode cX8_traceStarts 2 = .ok (.iload_n 3, 1) := by decide +kernel
theorem dX8_traceStarts_3 : decode cX8_traceStarts 3 = .ok (.aload_n 0, 1) := by decide +kernel
theorem dX8_traceStarts_4 : decode cX8_traceStarts 4 = .ok (.getfield 24, 3) := by decide +kernel
theorem dX8_traceStarts_7 : decode cX8_traceStarts 7 = .ok (.if_icmp .ge 41, 3) := by decide +kernel
theorem dX8_traceStarts_10 : decode cX8_traceStarts 10 = .ok (.aload_n 0, 1) := by decide +kernel
theorem dX8_traceStarts_11 : decode cX8_traceStarts 11 = .ok (.getfield 18, 3) := by decide +kernel
theorem dX8_traceStarts_14 : decode cX8_traceStarts 14 = .ok (.iload_n 3, 1) := by decide +kernel
theorem dX8_traceStarts_15 : decode cX8_traceStarts 15 = .ok (.iaload, 1) := by decide +kernel
theorem dX8_traceStarts_16 : decode cX8_traceStarts 16 = .ok (.istore 4, 2) := by decide +kernel
theorem dX8_traceStarts_18 : decode cX8_traceStarts 18 = .ok (.aload_n 0, 1) := by decide +kernel
theorem dX8_traceStarts_19 : decode cX8_traceStarts 19 = .ok (.getfield 21, 3) := by decide +kernel
theorem dX8_traceStarts_22 : decode cX8_traceStarts 22 = .ok (.iload_n 3, 1) := by decide +kernel
theorem dX8_traceStarts_23 : decode cX8_traceStarts 23 = .ok (.aload_n 1, 1) := by decide +kernel
theorem dX8_traceStarts_24 : decode cX8_traceStarts 24 = .ok (.getfield 70, 3) := by decide +kernel
theorem dX8_traceStarts_27 : decode cX8_traceStarts 27 = .ok (.iload 4, 2) := by decide +kernel
theorem dX8_traceStarts_29 : decode cX8_traceStarts 29 = .ok (.iconst 4, 1) := by decide +kernel
theorem dX8_traceStarts_30 : decode cX8_traceStarts 30 = .ok (.invokevirtual 83, 3) := by decide +kernel
theorem dX8_traceStarts_33 : decode cX8_traceStarts 33 = .ok (.aload_n 1, 1) := by decide +kernel
theorem dX8_traceStarts_34 : decode cX8_traceStarts 34 = .ok (.iload_n 2, 1) := by decide +kernel
theorem dX8_traceStarts_35 : decode cX8_traceStarts 35 = .ok (.iload 4, 2) := by decide +kernel
theorem dX8_traceStarts_37 : decode cX8_traceStarts 37 = .ok (.invokevirtual 86, 3) := by decide +kernel
theorem dX8_traceStarts_40 : decode cX8_traceStarts 40 = .ok (.isub, 1) := by decide +kernel
theorem dX8_traceStarts_41 : decode cX8_traceStarts 41 = .ok (.iastore, 1) := by decide +kernel
theorem dX8_traceStarts_42 : decode cX8_traceStarts 42 = .ok (.iinc 3 1, 3) := by decide +kernel
theorem dX8_traceStarts_45 : decode cX8_traceStarts 45 = .ok (.goto (-43), 3) := by decide +kernel
theorem dX8_traceStarts_48 : decode cX8_traceStarts 48 = .ok (.return_, 1) := by decide +kernel
theorem dX8_gapOf_0 : decode cX8_gapOf 0 = .ok (.aload_n 0, 1) := by decide +kernel
theorem dX8_gapOf_1 : decode cX8_gapOf 1 = .ok (.getfield 21, 3) := by decide +kernel
theorem dX8_gapOf_4 : decode cX8_gapOf 4 = .ok (.iload_n 1, 1) := by decide +kernel
theorem dX8_gapOf_5 : decode cX8_gapOf 5 = .ok (.iaload, 1) := by decide +kernel
theorem dX8_gapOf_6 : decode cX8_gapOf 6 = .ok (.aload_n 0, 1) := by decide +kernel
theorem dX8_gapOf_7 : decode cX8_gapOf 7 = .ok (.getfield 21, 3) := by decide +kernel
theorem dX8_gapOf_10 : decode cX8_gapOf 10 = .ok (.iload_n 2, 1) := by decide +kernel
theorem dX8_gapOf_11 : decode cX8_gapOf 11 = .ok (.iaload, 1) := by decide +kernel
theorem dX8_gapOf_12 : decode cX8_gapOf 12 = .ok (.isub, 1) := by decide +kernel
theorem dX8_gapOf_13 : decode cX8_gapOf 13 = .ok (.invokestatic 89, 3) := by decide +kernel
theorem dX8_gapOf_16 : decode cX8_gapOf 16 = .ok (.ireturn, 1) := by decide +kernel
set_option maxRecDepth 20000 in
theorem ggX8_judge_X8_traceStarts : GoodIn wsX8_judge wsX8_traceStarts := goodIn_r _ [8, 1, 9, 10, 11, 12, 13, 14, 15, 16, 17, 18, 19, 20, 21, 22, 23, 24, 25, 26, 27, 28, 29, 30, 31, 32, 33, 34, 35, 36, 37, 38, 39, 40, 41, 42, 43, 44, 45, 46, 47, 48, 49, 50, 63, 64, 65, 66, 67, 68, 69, 70, 71, 72, 73, 74, 75, 76, 77, 78, 79, 80, 81, 82, 83] (by decide +kernel) (by decide +kernel)
set_option maxRecDepth 20000 in
theorem gX8_judge_X8_traceStarts : GoodIn wsX8_judge (wsV RX8 93 RX8 yX8_traceStarts wsX8_traceStarts) := goodIn_app (goodIn_of _ (by decide +kernel)) ggX8_judge_X8_traceStarts
set_option maxRecDepth 20000 in
theorem ggX8_judge_X2_setting : GoodIn wsX8_judge wsX2_setting := goodIn_r _ [54, 50, 40, 13, 14, 15, 16, 17, 18, 19, 20, 72, 73, 74, 75, 76, 77, 78, 79, 80, 81, 82, 83] (by decide +kernel) (by decide +kernel)
set_option maxRecDepth 20000 in
theorem gX8_judge_X2_setting : GoodIn wsX8_judge (wsV RX8 96 RX2 yX2_setting wsX2_setting) := goodIn_app (goodIn_of _ (by decide +kernel)) ggX8_judge_X2_setting
set_option maxRecDepth 20000 in
theorem ggX8_judge_X8_gapOf : GoodIn wsX8_judge wsX8_gapOf := goodIn_r _ [58, 10, 59, 60, 61, 62, 63, 64, 65, 66, 67, 68, 69, 70, 71] (by decide +kernel) (by decide +kernel)
set_option maxRecDepth 20000 in
theorem gX8_judge_X8_gapOf : GoodIn wsX8_judge (wsV RX8 99 RX8 yX8_gapOf wsX8_gapOf) := goodIn_app (goodIn_of _ (by decide +kernel)) ggX8_judge_X8_gapOf
theorem dX8_judge_0 : decode cX8_judge 0 = .ok (.aload_n 0, 1) := by decide +kernel
theorem dX8_judge_1 : decode cX8_judge 1 = .ok (.aload_n 1, 1) := by decide +kernel
theorem dX8_judge_2 : decode cX8_judge 2 = .ok (.iload_n 2, 1) := by decide +kernel
theorem dX8_judge_3 : decode cX8_judge 3 = .ok (.invokevirtual 93, 3) := by decide +kernel
theorem dX8_judge_6 : decode cX8_judge 6 = .ok (.aload_n 1, 1) := by decide +kernel
theorem dX8_judge_7 : decode cX8_judge 7 = .ok (.bipush 6, 2) := by decide +kernel
theorem dX8_judge_9 : decode cX8_judge 9 = .ok (.invokevirtual 96, 3) := by decide +kernel
theorem dX8_judge_12 : decode cX8_judge 12 = .ok (.istore_n 3, 1) := by decide +kernel
theorem dX8_judge_13 : decode cX8_judge 13 = .ok (.iconst 0, 1) := by decide +kernel
theorem dX8_judge_14 : decode cX8_judge 14 = .ok (.istore 4, 2) := by decide +kernel
theorem dX8_judge_16 : decode cX8_judge 16 = .ok (.iconst 0, 1) := by decide +kernel
theorem dX8_judge_17 : decode cX8_judge 17 = .ok (.istore 5, 2) := by decide +kernel
theorem dX8_judge_19 : decode cX8_judge 19 = .ok (.iconst 0, 1) := by decide +kernel
theorem dX8_judge_20 : decode cX8_judge 20 = .ok (.istore 6, 2) := by decide +kernel
theorem dX8_judge_22 : decode cX8_judge 22 = .ok (.iload 6, 2) := by decide +kernel
theorem dX8_judge_24 : decode cX8_judge 24 = .ok (.aload_n 0, 1) := by decide +kernel
theorem dX8_judge_25 : decode cX8_judge 25 = .ok (.getfield 24, 3) := by decide +kernel
theorem dX8_judge_28 : decode cX8_judge 28 = .ok (.if_icmp .ge 56, 3) := by decide +kernel
theorem dX8_judge_31 : decode cX8_judge 31 = .ok (.iload 6, 2) := by decide +kernel
theorem dX8_judge_33 : decode cX8_judge 33 = .ok (.iconst 1, 1) := by decide +kernel
theorem dX8_judge_34 : decode cX8_judge 34 = .ok (.iadd, 1) := by decide +kernel
theorem dX8_judge_35 : decode cX8_judge 35 = .ok (.istore 7, 2) := by decide +kernel
theorem dX8_judge_37 : decode cX8_judge 37 = .ok (.iload 7, 2) := by decide +kernel
theorem dX8_judge_39 : decode cX8_judge 39 = .ok (.aload_n 0, 1) := by decide +kernel
theorem dX8_judge_40 : decode cX8_judge 40 = .ok (.getfield 24, 3) := by decide +kernel
theorem dX8_judge_43 : decode cX8_judge 43 = .ok (.if_icmp .ge 35, 3) := by decide +kernel
theorem dX8_judge_46 : decode cX8_judge 46 = .ok (.aload_n 0, 1) := by decide +kernel
theorem dX8_judge_47 : decode cX8_judge 47 = .ok (.iload 6, 2) := by decide +kernel
theorem dX8_judge_49 : decode cX8_judge 49 = .ok (.iload 7, 2) := by decide +kernel
theorem dX8_judge_51 : decode cX8_judge 51 = .ok (.invokevirtual 99, 3) := by decide +kernel
theorem dX8_judge_54 : decode cX8_judge 54 = .ok (.istore 8, 2) := by decide +kernel
theorem dX8_judge_56 : decode cX8_judge 56 = .ok (.iload 5, 2) := by decide +kernel
theorem dX8_judge_58 : decode cX8_judge 58 = .ok (.iload 8, 2) := by decide +kernel
theorem dX8_judge_60 : decode cX8_judge 60 = .ok (.iadd, 1) := by decide +kernel
theorem dX8_judge_61 : decode cX8_judge 61 = .ok (.istore 5, 2) := by decide +kernel
theorem dX8_judge_63 : decode cX8_judge 63 = .ok (.iload 8, 2) := by decide +kernel
theorem dX8_judge_65 : decode cX8_judge 65 = .ok (.iload_n 3, 1) := by decide +kernel
theorem dX8_judge_66 : decode cX8_judge 66 = .ok (.if_icmp .gt 6, 3) := by decide +kernel
theorem dX8_judge_69 : decode cX8_judge 69 = .ok (.iinc 4 1, 3) := by decide +kernel
theorem dX8_judge_72 : decode cX8_judge 72 = .ok (.iinc 7 1, 3) := by decide +kernel
theorem dX8_judge_75 : decode cX8_judge 75 = .ok (.goto (-38), 3) := by decide +kernel
theorem dX8_judge_78 : decode cX8_judge 78 = .ok (.iinc 6 1, 3) := by decide +kernel
theorem dX8_judge_81 : decode cX8_judge 81 = .ok (.goto (-59), 3) := by decide +kernel
theorem dX8_judge_84 : decode cX8_judge 84 = .ok (.aload_n 0, 1) := by decide +kernel
theorem dX8_judge_85 : decode cX8_judge 85 = .ok (.getfield 9, 3) := by decide +kernel
theorem dX8_judge_88 : decode cX8_judge 88 = .ok (.iload_n 2, 1) := by decide +kernel
theorem dX8_judge_89 : decode cX8_judge 89 = .ok (.iload 4, 2) := by decide +kernel
theorem dX8_judge_91 : decode cX8_judge 91 = .ok (.iastore, 1) := by decide +kernel
theorem dX8_judge_92 : decode cX8_judge 92 = .ok (.aload_n 0, 1) := by decide +kernel
theorem dX8_judge_93 : decode cX8_judge 93 = .ok (.getfield 15, 3) := by decide +kernel
theorem dX8_judge_96 : decode cX8_judge 96 = .ok (.iload_n 2, 1) := by decide +kernel
theorem dX8_judge_97 : decode cX8_judge 97 = .ok (.iload 5, 2) := by decide +kernel
theorem dX8_judge_99 : decode cX8_judge 99 = .ok (.iastore, 1) := by decide +kernel
theorem dX8_judge_100 : decode cX8_judge 100 = .ok (.return_, 1) := by decide +kernel
set_option maxRecDepth 20000 in
theorem ggX8_choose_X8_pairCount : GoodIn wsX8_choose wsX8_pairCount := goodIn_r _ [10, 11, 12, 13, 14, 15, 16, 17, 18, 19, 20] (by decide +kernel) (by decide +kernel)
set_option maxRecDepth 20000 in
theorem gX8_choose_X8_pairCount : GoodIn wsX8_choose (wsV RX8 102 RX8 yX8_pairCount wsX8_pairCount) := goodIn_app (goodIn_of _ (by decide +kernel)) ggX8_choose_X8_pairCount
theorem dX8_choose_0 : decode cX8_choose 0 = .ok (.aload_n 0, 1) := by decide +kernel
theorem dX8_choose_1 : decode cX8_choose 1 = .ok (.ldc 28, 2) := by decide +kernel
theorem dX8_choose_3 : decode cX8_choose 3 = .ok (.putfield 29, 3) := by decide +kernel
theorem dX8_choose_6 : decode cX8_choose 6 = .ok (.aload_n 0, 1) := by decide +kernel
theorem dX8_choose_7 : decode cX8_choose 7 = .ok (.iconst 0, 1) := by decide +kernel
theorem dX8_choose_8 : decode cX8_choose 8 = .ok (.putfield 32, 3) := by decide +kernel
theorem dX8_choose_11 : decode cX8_choose 11 = .ok (.aload_n 0, 1) := by decide +kernel
theorem dX8_choose_12 : decode cX8_choose 12 = .ok (.invokevirtual 102, 3) := by decide +kernel
theorem dX8_choose_15 : decode cX8_choose 15 = .ok (.ifCond .ne 4, 3) := by decide +kernel
theorem dX8_choose_18 : decode cX8_choose 18 = .ok (.return_, 1) := by decide +kernel
theorem dX8_choose_19 : decode cX8_choose 19 = .ok (.iconst 0, 1) := by decide +kernel
theorem dX8_choose_20 : decode cX8_choose 20 = .ok (.istore_n 2, 1) := by decide +kernel
theorem dX8_choose_21 : decode cX8_choose 21 = .ok (.iconst 1, 1) := by decide +kernel
theorem dX8_choose_22 : decode cX8_choose 22 = .ok (.istore_n 3, 1) := by decide +kernel
theorem dX8_choose_23 : decode cX8_choose 23 = .ok (.iload_n 3, 1) := by decide +kernel
theorem dX8_choose_24 : decode cX8_choose 24 = .ok (.iload_n 1, 1) := by decide +kernel
theorem dX8_choose_25 : decode cX8_choose 25 = .ok (.if_icmp .ge 80, 3) := by decide +kernel
theorem dX8_choose_28 : decode cX8_choose 28 = .ok (.aload_n 0, 1) := by decide +kernel
theorem dX8_choose_29 : decode cX8_choose 29 = .ok (.getfield 9, 3) := by decide +kernel
theorem dX8_choose_32 : decode cX8_choose 32 = .ok (.iload_n 3, 1) := by decide +kernel
theorem dX8_choose_33 : decode cX8_choose 33 = .ok (.iaload, 1) := by decide +kernel
theorem dX8_choose_34 : decode cX8_choose 34 = .ok (.aload_n 0, 1) := by decide +kernel
theorem dX8_choose_35 : decode cX8_choose 35 = .ok (.getfield 9, 3) := by decide +kernel
theorem dX8_choose_38 : decode cX8_choose 38 = .ok (.iload_n 2, 1) := by decide +kernel
theorem dX8_choose_39 : decode cX8_choose 39 = .ok (.iaload, 1) := by decide +kernel
theorem dX8_choose_40 : decode cX8_choose 40 = .ok (.if_icmp .le 7, 3) := by decide +kernel
theorem dX8_choose_43 : decode cX8_choose 43 = .ok (.iconst 1, 1) := by decide +kernel
theorem dX8_choose_44 : decode cX8_choose 44 = .ok (.goto 4, 3) := by decide +kernel
theorem dX8_choose_47 : decode cX8_choose 47 = .ok (.iconst 0, 1) := by decide +kernel
theorem dX8_choose_48 : decode cX8_choose 48 = .ok (.istore 4, 2) := by decide +kernel
theorem dX8_choose_50 : decode cX8_choose 50 = .ok (.aload_n 0, 1) := by decide +kernel
theorem dX8_choose_51 : decode cX8_choose 51 = .ok (.getfield 9, 3) := by decide +kernel
theorem dX8_choose_54 : decode cX8_choose 54 = .ok (.iload_n 3, 1) := by decide +kernel
theorem dX8_choose_55 : decode cX8_choose 55 = .ok (.iaload, 1) := by decide +kernel
theorem dX8_choose_56 : decode cX8_choose 56 = .ok (.aload_n 0, 1) := by decide +kernel
theorem dX8_choose_57 : decode cX8_choose 57 = .ok (.getfield 9, 3) := by decide +kernel
theorem dX8_choose_60 : decode cX8_choose 60 = .ok (.iload_n 2, 1) := by decide +kernel
theorem dX8_choose_61 : decode cX8_choose 61 = .ok (.iaload, 1) := by decide +kernel
theorem dX8_choose_62 : decode cX8_choose 62 = .ok (.if_icmp .ne 22, 3) := by decide +kernel
theorem dX8_choose_65 : decode cX8_choose 65 = .ok (.aload_n 0, 1) := by decide +kernel
theorem dX8_choose_66 : decode cX8_choose 66 = .ok (.getfield 15, 3) := by decide +kernel
theorem dX8_choose_69 : decode cX8_choose 69 = .ok (.iload_n 3, 1) := by decide +kernel
theorem dX8_choose_70 : decode cX8_choose 70 = .ok (.iaload, 1) := by decide +kernel
theorem dX8_choose_71 : decode cX8_choose 71 = .ok (.aload_n 0, 1) := by decide +kernel
theorem dX8_choose_72 : decode cX8_choose 72 = .ok (.getfield 15, 3) := by decide +kernel
theorem dX8_choose_75 : decode cX8_choose 75 = .ok (.iload_n 2, 1) := by decide +kernel
theorem dX8_choose_76 : decode cX8_choose 76 = .ok (.iaload, 1) := by decide +kernel
theorem dX8_choose_77 : decode cX8_choose 77 = .ok (.if_icmp .ge 7, 3) := by decide +kernel
theorem dX8_choose_80 : decode cX8_choose 80 = .ok (.iconst 1, 1) := by decide +kernel
theorem dX8_choose_81 : decode cX8_choose 81 = .ok (.goto 4, 3) := by decide +kernel
theorem dX8_choose_84 : decode cX8_choose 84 = .ok (.iconst 0, 1) := by decide +kernel
theorem dX8_choose_85 : decode cX8_choose 85 = .ok (.istore 5, 2) := by decide +kernel
theorem dX8_choose_87 : decode cX8_choose 87 = .ok (.iload 4, 2) := by decide +kernel
theorem dX8_choose_89 : decode cX8_choose 89 = .ok (.ifCond .ne 8, 3) := by decide +kernel
theorem dX8_choose_92 : decode cX8_choose 92 = .ok (.iload 5, 2) := by decide +kernel
theorem dX8_choose_94 : decode cX8_choose 94 = .ok (.ifCond .eq 5, 3) := by decide +kernel
theorem dX8_choose_97 : decode cX8_choose 97 = .ok (.iload_n 3, 1) := by decide +kernel
theorem dX8_choose_98 : decode cX8_choose 98 = .ok (.istore_n 2, 1) := by decide +kernel
theorem dX8_choose_99 : decode cX8_choose 99 = .ok (.iinc 3 1, 3) := by decide +kernel
theorem dX8_choose_102 : decode cX8_choose 102 = .ok (.goto (-79), 3) := by decide +kernel
theorem dX8_choose_105 : decode cX8_choose 105 = .ok (.iconst 0, 1) := by decide +kernel
theorem dX8_choose_106 : decode cX8_choose 106 = .ok (.istore_n 3, 1) := by decide +kernel
theorem dX8_choose_107 : decode cX8_choose 107 = .ok (.iload_n 3, 1) := by decide +kernel
theorem dX8_choose_108 : decode cX8_choose 108 = .ok (.iload_n 1, 1) := by decide +kernel
theorem dX8_choose_109 : decode cX8_choose 109 = .ok (.if_icmp .ge 34, 3) := by decide +kernel
theorem dX8_choose_112 : decode cX8_choose 112 = .ok (.aload_n 0, 1) := by decide +kernel
theorem dX8_choose_113 : decode cX8_choose 113 = .ok (.getfield 9, 3) := by decide +kernel
theorem dX8_choose_116 : decode cX8_choose 116 = .ok (.iload_n 3, 1) := by decide +kernel
theorem dX8_choose_117 : decode cX8_choose 117 = .ok (.iaload, 1) := by decide +kernel
theorem dX8_choose_118 : decode cX8_choose 118 = .ok (.aload_n 0, 1) := by decide +kernel
theorem dX8_choose_119 : decode cX8_choose 119 = .ok (.getfield 9, 3) := by decide +kernel
theorem dX8_choose_122 : decode cX8_choose 122 = .ok (.iload_n 2, 1) := by decide +kernel
theorem dX8_choose_123 : decode cX8_choose 123 = .ok (.iaload, 1) := by decide +kernel
theorem dX8_choose_124 : decode cX8_choose 124 = .ok (.if_icmp .ne 13, 3) := by decide +kernel
theorem dX8_choose_127 : decode cX8_choose 127 = .ok (.aload_n 0, 1) := by decide +kernel
theorem dX8_choose_128 : decode cX8_choose 128 = .ok (.dup, 1) := by decide +kernel
theorem dX8_choose_129 : decode cX8_choose 129 = .ok (.getfield 32, 3) := by decide +kernel
theorem dX8_choose_132 : decode cX8_choose 132 = .ok (.iconst 1, 1) := by decide +kernel
theorem dX8_choose_133 : decode cX8_choose 133 = .ok (.iadd, 1) := by decide +kernel
theorem dX8_choose_134 : decode cX8_choose 134 = .ok (.putfield 32, 3) := by decide +kernel
theorem dX8_choose_137 : decode cX8_choose 137 = .ok (.iinc 3 1, 3) := by decide +kernel
theorem dX8_choose_140 : decode cX8_choose 140 = .ok (.goto (-33), 3) := by decide +kernel
theorem dX8_choose_143 : decode cX8_choose 143 = .ok (.aload_n 0, 1) := by decide +kernel
theorem dX8_choose_144 : decode cX8_choose 144 = .ok (.iload_n 2, 1) := by decide +kernel
theorem dX8_choose_145 : decode cX8_choose 145 = .ok (.putfield 29, 3) := by decide +kernel
theorem dX8_choose_148 : decode cX8_choose 148 = .ok (.return_, 1) := by decide +kernel
theorem dX9_init_0 : decode cX9_init 0 = .ok (.aload_n 0, 1) := by decide +kernel
theorem dX9_init_1 : decode cX9_init 1 = .ok (.invokespecial 3, 3) := by decide +kernel
theorem dX9_init_4 : decode cX9_init 4 = .ok (.aload_n 0, 1) := by decide +kernel
theorem dX9_init_5 : decode cX9_init 5 = .ok (.iconst 0, 1) := by decide +kernel
theorem dX9_init_6 : decode cX9_init 6 = .ok (.putfield 9, 3) := by decide +kernel
theorem dX9_init_9 : decode cX9_init 9 = .ok (.aload_n 0, 1) := by decide +kernel
theorem dX9_init_10 : decode cX9_init 10 = .ok (.iload_n 1, 1) := by decide +kernel
theorem dX9_init_11 : decode cX9_init 11 = .ok (.putfield 15, 3) := by decide +kernel
theorem dX9_init_14 : decode cX9_init 14 = .ok (.aload_n 0, 1) := by decide +kernel
theorem dX9_init_15 : decode cX9_init 15 = .ok (.iload_n 2, 1) := by decide +kernel
theorem dX9_init_16 : decode cX9_init 16 = .ok (.putfield 18, 3) := by decide +kernel
theorem dX9_init_19 : decode cX9_init 19 = .ok (.aload_n 0, 1) := by decide +kernel
theorem dX9_init_20 : decode cX9_init 20 = .ok (.iload_n 1, 1) := by decide +kernel
theorem dX9_init_21 : decode cX9_init 21 = .ok (.iload_n 2, 1) := by decide +kernel
theorem dX9_init_22 : decode cX9_init 22 = .ok (.imul, 1) := by decide +kernel
theorem dX9_init_23 : decode cX9_init 23 = .ok (.iconst 0, 1) := by decide +kernel
theorem dX9_init_24 : decode cX9_init 24 = .ok (.invokestatic 21, 3) := by decide +kernel
theorem dX9_init_27 : decode cX9_init 27 = .ok (.newarray .int, 2) := by decide +kernel
theorem dX9_init_29 : decode cX9_init 29 = .ok (.putfield 27, 3) := by decide +kernel
theorem dX9_init_32 : decode cX9_init 32 = .ok (.return_, 1) := by decide +kernel
theorem dX9_has_0 : decode cX9_has 0 = .ok (.iload_n 1, 1) := by decide +kernel
theorem dX9_has_1 : decode cX9_has 1 = .ok (.ifCond .lt 15, 3) := by decide +kernel
theorem dX9_has_4 : decode cX9_has 4 = .ok (.iload_n 1, 1) := by decide +kernel
theorem dX9_has_5 : decode cX9_has 5 = .ok (.aload_n 0, 1) := by decide +kernel
theorem dX9_has_6 : decode cX9_has 6 = .ok (.getfield 9, 3) := by decide +kernel
theorem dX9_has_9 : decode cX9_has 9 = .ok (.if_icmp .ge 7, 3) := by decide +kernel
theorem dX9_has_12 : decode cX9_has 12 = .ok (.iconst 1, 1) := by decide +kernel
theorem dX9_has_13 : decode cX9_has 13 = .ok (.goto 4, 3) := by decide +kernel
theorem dX9_has_16 : decode cX9_has 16 = .ok (.iconst 0, 1) := by decide +kernel
theorem dX9_has_17 : decode cX9_has 17 = .ok (.ireturn, 1) := by decide +kernel
theorem dX9_isFull_0 : decode cX9_isFull 0 = .ok (.aload_n 0, 1) := by decide +kernel
theorem dX9_isFull_1 : decode cX9_isFull 1 = .ok (.getfield 9, 3) := by decide +kernel
theorem dX9_isFull_4 : decode cX9_isFull 4 = .ok (.aload_n 0, 1) := by decide +kernel
theorem dX9_isFull_5 : decode cX9_isFull 5 = .ok (.getfield 15, 3) := by decide +kernel
theorem dX9_isFull_8 : decode cX9_isFull 8 = .ok (.if_icmp .lt 7, 3) := by decide +kernel
theorem dX9_isFull_11 : decode cX9_isFull 11 = .ok (.iconst 1, 1) := by decide +kernel
theorem dX9_isFull_12 : decode cX9_isFull 12 = .ok (.goto 4, 3) := by decide +kernel
theorem dX9_isFull_15 : decode cX9_isFull 15 = .ok (.iconst 0, 1) := by decide +kernel
theorem dX9_isFull_16 : decode cX9_isFull 16 = .ok (.ireturn, 1) := by decide +kernel
theorem dX9_at_0 : decode cX9_at 0 = .ok (.iload_n 1, 1) := by decide +kernel
theorem dX9_at_1 : decode cX9_at 1 = .ok (.ifCond .lt 23, 3) := by decide +kernel
theorem dX9_at_4 : decode cX9_at 4 = .ok (.iload_n 1, 1) := by decide +kernel
theorem dX9_at_5 : decode cX9_at 5 = .ok (.aload_n 0, 1) := by decide +kernel
theorem dX9_at_6 : decode cX9_at 6 = .ok (.getfield 9, 3) := by decide +kernel
theorem dX9_at_9 : decode cX9_at 9 = .ok (.if_icmp .ge 15, 3) := by decide +kernel
theorem dX9_at_12 : decode cX9_at 12 = .ok (.iload_n 2, 1) := by decide +kernel
theorem dX9_at_13 : decode cX9_at 13 = .ok (.ifCond .lt 11, 3) := by decide +kernel
theorem dX9_at_16 : decode cX9_at 16 = .ok (.iload_n 2, 1) := by decide +kernel
theorem dX9_at_17 : decode cX9_at 17 = .ok (.aload_n 0, 1) := by decide +kernel
theorem dX9_at_18 : decode cX9_at 18 = .ok (.getfield 18, 3) := by decide +kernel
theorem dX9_at_21 : decode cX9_at 21 = .ok (.if_icmp .lt 6, 3) := by decide +kernel
theorem dX9_at_24 : decode cX9_at 24 = .ok (.ldc 31, 2) := by decide +kernel
theorem dX9_at_26 : decode cX9_at 26 = .ok (.ireturn, 1) := by decide +kernel
theorem dX9_at_27 : decode cX9_at 27 = .ok (.aload_n 0, 1) := by decide +kernel
theorem dX9_at_28 : decode cX9_at 28 = .ok (.getfield 27, 3) := by decide +kernel
theorem dX9_at_31 : decode cX9_at 31 = .ok (.iload_n 1, 1) := by decide +kernel
theorem dX9_at_32 : decode cX9_at 32 = .ok (.aload_n 0, 1) := by decide +kernel
theorem dX9_at_33 : decode cX9_at 33 = .ok (.getfield 18, 3) := by decide +kernel
theorem dX9_at_36 : decode cX9_at 36 = .ok (.imul, 1) := by decide +kernel
theorem dX9_at_37 : decode cX9_at 37 = .ok (.iload_n 2, 1) := by decide +kernel
theorem dX9_at_38 : decode cX9_at 38 = .ok (.iadd, 1) := by decide +kernel
theorem dX9_at_39 : decode cX9_at 39 = .ok (.iaload, 1) := by decide +kernel
theorem dX9_at_40 : decode cX9_at 40 = .ok (.ireturn, 1) := by decide +kernel
theorem dX9_put_0 : decode cX9_put 0 = .ok (.iload_n 1, 1) := by decide +kernel
theorem dX9_put_1 : decode cX9_put 1 = .ok (.ifCond .lt 23, 3) := by decide +kernel
theorem dX9_put_4 : decode cX9_put 4 = .ok (.iload_n 1, 1) := by decide +kernel
theorem dX9_put_5 : decode cX9_put 5 = .ok (.aload_n 0, 1) := by decide +kernel
theorem dX9_put_6 : decode cX9_put 6 = .ok (.getfield 9, 3) := by decide +kernel
theorem dX9_put_9 : decode cX9_put 9 = .ok (.if_icmp .ge 15, 3) := by decide +kernel
theorem dX9_put_12 : decode cX9_put 12 = .ok (.iload_n 2, 1) := by decide +kernel
theorem dX9_put_13 : decode cX9_put 13 = .ok (.ifCond .lt 11, 3) := by decide +kernel
theorem dX9_put_16 : decode cX9_put 16 = .ok (.iload_n 2, 1) := by decide +kernel
theorem dX9_put_17 : decode cX9_put 17 = .ok (.aload_n 0, 1) := by decide +kernel
theorem dX9_put_18 : decode cX9_put 18 = .ok (.getfield 18, 3) := by decide +kernel
theorem dX9_put_21 : decode cX9_put 21 = .ok (.if_icmp .lt 4, 3) := by decide +kernel
theorem dX9_put_24 : decode cX9_put 24 = .ok (.return_, 1) := by decide +kernel
theorem dX9_put_25 : decode cX9_put 25 = .ok (.aload_n 0, 1) := by decide +kernel
theorem dX9_put_26 : decode cX9_put 26 = .ok (.getfield 27, 3) := by decide +kernel
theorem dX9_put_29 : decode cX9_put 29 = .ok (.iload_n 1, 1) := by decide +kernel
theorem dX9_put_30 : decode cX9_put 30 = .ok (.aload_n 0, 1) := by decide +kernel
theorem dX9_put_31 : decode cX9_put 31 = .ok (.getfield 18, 3) := by decide +kernel
theorem dX9_put_34 : decode cX9_put 34 = .ok (.imul, 1) := by decide +kernel
theorem dX9_put_35 : decode cX9_put 35 = .ok (.iload_n 2, 1) := by decide +kernel
theorem dX9_put_36 : decode cX9_put 36 = .ok (.iadd, 1) := by decide +kernel
theorem dX9_put_37 : decode cX9_put 37 = .ok (.iload_n 3, 1) := by decide +kernel
theorem dX9_put_38 : decode cX9_put 38 = .ok (.iastore, 1) := by decide +kernel
theorem dX9_put_39 : decode cX9_put 39 = .ok (.return_, 1) := by decide +kernel
set_option maxRecDepth 20000 in
theorem ggX9_addRow_X9_isFull : GoodIn wsX9_addRow wsX9_isFull := goodIn_r _ [8, 2, 9, 15, 16, 17, 18] (by decide +kernel) (by decide +kernel)
set_option maxRecDepth 20000 in
theorem gX9_addRow_X9_isFull : GoodIn wsX9_addRow (wsV RX9 32 RX9 yX9_isFull wsX9_isFull) := goodIn_app (goodIn_of _ (by decide +kernel)) ggX9_addRow_X9_isFull
set_option maxRecDepth 20000 in
theorem ggX9_addRow_X9_put : GoodIn wsX9_addRow wsX9_put := goodIn_r _ [13, 2, 3, 14, 15, 16, 17, 18] (by decide +kernel) (by decide +kernel)
set_option maxRecDepth 20000 in
theorem gX9_addRow_X9_put : GoodIn wsX9_addRow (wsV RX9 36 RX9 yX9_put wsX9_put) := goodIn_app (goodIn_of _ (by decide +kernel)) ggX9_addRow_X9_put
theorem dX9_addRow_0 : decode cX9_addRow 0 = .ok (.aload_n 0, 1) := by decide +kernel
theorem dX9_addRow_1 : decode cX9_addRow 1 = .ok (.invokevirtual 32, 3) := by decide +kernel
theorem dX9_addRow_4 : decode cX9_addRow 4 = .ok (.ifCond .eq 6, 3) := by decide +kernel
theorem dX9_addRow_7 : decode cX9_addRow 7 = .ok (.ldc 31, 2) := by decide +kernel
theorem dX9_addRow_9 : decode cX9_addRow 9 = .ok (.ireturn, 1) := by decide +kernel
theorem dX9_addRow_10 : decode cX9_addRow 10 = .ok (.aload_n 0, 1) := by decide +kernel
theorem dX9_addRow_11 : decode cX9_addRow 11 = .ok (.getfield 9, 3) := by decide +kernel
theorem dX9_addRow_14 : decode cX9_addRow 14 = .ok (.istore_n 1, 1) := by decide +kernel
theorem dX9_addRow_15 : decode cX9_addRow 15 = .ok (.aload_n 0, 1) := by decide +kernel
theorem dX9_addRow_16 : decode cX9_addRow 16 = .ok (.dup, 1) := by decide +kernel
theorem dX9_addRow_17 : decode cX9_addRow 17 = .ok (.getfield 9, 3) := by decide +kernel
theorem dX9_addRow_20 : decode cX9_addRow 20 = .ok (.iconst 1, 1) := by decide +kernel
theorem dX9_addRow_21 : decode cX9_addRow 21 = .ok (.iadd, 1) := by decide +kernel
theorem dX9_addRow_22 : decode cX9_addRow 22 = .ok (.putfield 9, 3) := by decide +kernel
theorem dX9_addRow_25 : decode cX9_addRow 25 = .ok (.iconst 0, 1) := by decide +kernel
theorem dX9_addRow_26 : decode cX9_addRow 26 = .ok (.istore_n 2, 1) := by decide +kernel
theorem dX9_addRow_27 : decode cX9_addRow 27 = .ok (.iload_n 2, 1) := by decide +kernel
theorem dX9_addRow_28 : decode cX9_addRow 28 = .ok (.aload_n 0, 1) := by decide +kernel
theorem dX9_addRow_29 : decode cX9_addRow 29 = .ok (.getfield 18, 3) := by decide +kernel
theorem dX9_addRow_32 : decode cX9_addRow 32 = .ok (.if_icmp .ge 17, 3) := by decide +kernel
theorem dX9_addRow_35 : decode cX9_addRow 35 = .ok (.aload_n 0, 1) := by decide +kernel
theorem dX9_addRow_36 : decode cX9_addRow 36 = .ok (.iload_n 1, 1) := by decide +kernel
theorem dX9_addRow_37 : decode cX9_addRow 37 = .ok (.iload_n 2, 1) := by decide +kernel
theorem dX9_addRow_38 : decode cX9_addRow 38 = .ok (.ldc 31, 2) := by decide +kernel
theorem dX9_addRow_40 : decode cX9_addRow 40 = .ok (.invokevirtual 36, 3) := by decide +kernel
theorem dX9_addRow_43 : decode cX9_addRow 43 = .ok (.iinc 2 1, 3) := by decide +kernel
theorem dX9_addRow_46 : decode cX9_addRow 46 = .ok (.goto (-19), 3) := by decide +kernel
theorem dX9_addRow_49 : decode cX9_addRow 49 = .ok (.iload_n 1, 1) := by decide +kernel
theorem dX9_addRow_50 : decode cX9_addRow 50 = .ok (.ireturn, 1) := by decide +kernel
set_option maxRecDepth 20000 in
theorem ggX9_dropRow_X9_has : GoodIn wsX9_dropRow wsX9_has := goodIn_r _ [12, 1, 13, 14, 15, 16] (by decide +kernel) (by decide +kernel)
set_option maxRecDepth 20000 in
theorem gX9_dropRow_X9_has : GoodIn wsX9_dropRow (wsV RX9 40 RX9 yX9_has wsX9_has) := goodIn_app (goodIn_of _ (by decide +kernel)) ggX9_dropRow_X9_has
theorem dX9_dropRow_0 : decode cX9_dropRow 0 = .ok (.aload_n 0, 1) := by decide +kernel
theorem dX9_dropRow_1 : decode cX9_dropRow 1 = .ok (.iload_n 1, 1) := by decide +kernel
theorem dX9_dropRow_2 : decode cX9_dropRow 2 = .ok (.invokevirtual 40, 3) := by decide +kernel
theorem dX9_dropRow_5 : decode cX9_dropRow 5 = .ok (.ifCond .ne 4, 3) := by decide +kernel
theorem dX9_dropRow_8 : decode cX9_dropRow 8 = .ok (.return_, 1) := by decide +kernel
theorem dX9_dropRow_9 : decode cX9_dropRow 9 = .ok (.aload_n 0, 1) := by decide +kernel
theorem dX9_dropRow_10 : decode cX9_dropRow 10 = .ok (.getfield 9, 3) := by decide +kernel
theorem dX9_dropRow_13 : decode cX9_dropRow 13 = .ok (.iload_n 1, 1) := by decide +kernel
theorem dX9_dropRow_14 : decode cX9_dropRow 14 = .ok (.isub, 1) := by decide +kernel
theorem dX9_dropRow_15 : decode cX9_dropRow 15 = .ok (.iconst 1, 1) := by decide +kernel
theorem dX9_dropRow_16 : decode cX9_dropRow 16 = .ok (.isub, 1) := by decide +kernel
theorem dX9_dropRow_17 : decode cX9_dropRow 17 = .ok (.aload_n 0, 1) := by decide +kernel
theorem dX9_dropRow_18 : decode cX9_dropRow 18 = .ok (.getfield 18, 3) := by decide +kernel
theorem dX9_dropRow_21 : decode cX9_dropRow 21 = .ok (.imul, 1) := by decide +kernel
theorem dX9_dropRow_22 : decode cX9_dropRow 22 = .ok (.istore_n 2, 1) := by decide +kernel
theorem dX9_dropRow_23 : decode cX9_dropRow 23 = .ok (.aload_n 0, 1) := by decide +kernel
theorem dX9_dropRow_24 : decode cX9_dropRow 24 = .ok (.getfield 27, 3) := by decide +kernel
theorem dX9_dropRow_27 : decode cX9_dropRow 27 = .ok (.iload_n 1, 1) := by decide +kernel
theorem dX9_dropRow_28 : decode cX9_dropRow 28 = .ok (.iconst 1, 1) := by decide +kernel
theorem dX9_dropRow_29 : decode cX9_dropRow 29 = .ok (.iadd, 1) := by decide +kernel
theorem dX9_dropRow_30 : decode cX9_dropRow 30 = .ok (.aload_n 0, 1) := by decide +kernel
theorem dX9_dropRow_31 : decode cX9_dropRow 31 = .ok (.getfield 18, 3) := by decide +kernel
theorem dX9_dropRow_34 : decode cX9_dropRow 34 = .ok (.imul, 1) := by decide +kernel
theorem dX9_dropRow_35 : decode cX9_dropRow 35 = .ok (.aload_n 0, 1) := by decide +kernel
theorem dX9_dropRow_36 : decode cX9_dropRow 36 = .ok (.getfield 27, 3) := by decide +kernel
theorem dX9_dropRow_39 : decode cX9_dropRow 39 = .ok (.iload_n 1, 1) := by decide +kernel
theorem dX9_dropRow_40 : decode cX9_dropRow 40 = .ok (.aload_n 0, 1) := by decide +kernel
theorem dX9_dropRow_41 : decode cX9_dropRow 41 = .ok (.getfield 18, 3) := by decide +kernel
theorem dX9_dropRow_44 : decode cX9_dropRow 44 = .ok (.imul, 1) := by decide +kernel
theorem dX9_dropRow_45 : decode cX9_dropRow 45 = .ok (.iload_n 2, 1) := by decide +kernel
theorem dX9_dropRow_46 : decode cX9_dropRow 46 = .ok (.invokestatic 44, 3) := by decide +kernel
theorem dX9_dropRow_49 : decode cX9_dropRow 49 = .ok (.aload_n 0, 1) := by decide +kernel
theorem dX9_dropRow_50 : decode cX9_dropRow 50 = .ok (.dup, 1) := by decide +kernel
theorem dX9_dropRow_51 : decode cX9_dropRow 51 = .ok (.getfield 9, 3) := by decide +kernel
theorem dX9_dropRow_54 : decode cX9_dropRow 54 = .ok (.iconst 1, 1) := by decide +kernel
theorem dX9_dropRow_55 : decode cX9_dropRow 55 = .ok (.isub, 1) := by decide +kernel
theorem dX9_dropRow_56 : decode cX9_dropRow 56 = .ok (.putfield 9, 3) := by decide +kernel
theorem dX9_dropRow_59 : decode cX9_dropRow 59 = .ok (.return_, 1) := by decide +kernel
theorem dX9_copyFrom_0 : decode cX9_copyFrom 0 = .ok (.aload_n 1, 1) := by decide +kernel
theorem dX9_copyFrom_1 : decode cX9_copyFrom 1 = .ok (.getfield 27, 3) := by decide +kernel
theorem dX9_copyFrom_4 : decode cX9_copyFrom 4 = .ok (.iconst 0, 1) := by decide +kernel
theorem dX9_copyFrom_5 : decode cX9_copyFrom 5 = .ok (.aload_n 0, 1) := by decide +kernel
theorem dX9_copyFrom_6 : decode cX9_copyFrom 6 = .ok (.getfield 27, 3) := by decide +kernel
theorem dX9_copyFrom_9 : decode cX9_copyFrom 9 = .ok (.iconst 0, 1) := by decide +kernel
theorem dX9_copyFrom_10 : decode cX9_copyFrom 10 = .ok (.aload_n 0, 1) := by decide +kernel
theorem dX9_copyFrom_11 : decode cX9_copyFrom 11 = .ok (.getfield 27, 3) := by decide +kernel
theorem dX9_copyFrom_14 : decode cX9_copyFrom 14 = .ok (.arraylength, 1) := by decide +kernel
theorem dX9_copyFrom_15 : decode cX9_copyFrom 15 = .ok (.aload_n 1, 1) := by decide +kernel
theorem dX9_copyFrom_16 : decode cX9_copyFrom 16 = .ok (.getfield 27, 3) := by decide +kernel
theorem dX9_copyFrom_19 : decode cX9_copyFrom 19 = .ok (.arraylength, 1) := by decide +kernel
theorem dX9_copyFrom_20 : decode cX9_copyFrom 20 = .ok (.invokestatic 50, 3) := by decide +kernel
theorem dX9_copyFrom_23 : decode cX9_copyFrom 23 = .ok (.invokestatic 44, 3) := by decide +kernel
theorem dX9_copyFrom_26 : decode cX9_copyFrom 26 = .ok (.aload_n 0, 1) := by decide +kernel
theorem dX9_copyFrom_27 : decode cX9_copyFrom 27 = .ok (.aload_n 1, 1) := by decide +kernel
theorem dX9_copyFrom_28 : decode cX9_copyFrom 28 = .ok (.getfield 9, 3) := by decide +kernel
theorem dX9_copyFrom_31 : decode cX9_copyFrom 31 = .ok (.putfield 9, 3) := by decide +kernel
theorem dX9_copyFrom_34 : decode cX9_copyFrom 34 = .ok (.return_, 1) := by decide +kernel
set_option maxRecDepth 20000 in
theorem ggX10_init_X2_init : GoodIn wsX10_init wsX2_init := goodIn_r _ [12, 13, 2, 3, 14, 15, 16, 17, 18, 19, 20, 21, 22, 23, 24, 25, 26, 27, 28, 29, 30, 31, 32, 33, 34, 35, 36, 37, 38, 39, 40, 41, 42, 43, 44, 45, 46, 47, 48, 49, 50, 51, 55, 56, 57, 58, 59, 60, 61, 62, 63, 64, 65, 66] (by decide +kernel) (by decide +kernel)
set_option maxRecDepth 20000 in
theorem gX10_init_X2_init : GoodIn wsX10_init (wsX2_init) := ggX10_init_X2_init
theorem dX10_init_0 : decode cX10_init 0 = .ok (.aload_n 0, 1) := by decide +kernel
theorem dX10_init_1 : decode cX10_init 1 = .ok (.invokespecial 3, 3) := by decide +kernel
theorem dX10_init_4 : decode cX10_init 4 = .ok (.aload_n 0, 1) := by decide +kernel
theorem dX10_init_5 : decode cX10_init 5 = .ok (.iconst 4, 1) := by decide +kernel
theorem dX10_init_6 : decode cX10_init 6 = .ok (.anewarray 9, 3) := by decide +kernel
theorem dX10_init_9 : decode cX10_init 9 = .ok (.putfield 11, 3) := by decide +kernel
theorem dX10_init_12 : decode cX10_init 12 = .ok (.aload_n 0, 1) := by decide +kernel
theorem dX10_init_13 : decode cX10_init 13 = .ok (.iconst 0, 1) := by decide +kernel
theorem dX10_init_14 : decode cX10_init 14 = .ok (.putfield 17, 3) := by decide +kernel
theorem dX10_init_17 : decode cX10_init 17 = .ok (.aload_n 0, 1) := by decide +kernel
theorem dX10_init_18 : decode cX10_init 18 = .ok (.iconst 0, 1) := by decide +kernel
theorem dX10_init_19 : decode cX10_init 19 = .ok (.putfield 21, 3) := by decide +kernel
theorem dX10_init_22 : decode cX10_init 22 = .ok (.iconst 0, 1) := by decide +kernel
theorem dX10_init_23 : decode cX10_init 23 = .ok (.istore_n 1, 1) := by decide +kernel
theorem dX10_init_24 : decode cX10_init 24 = .ok (.iload_n 1, 1) := by decide +kernel
theorem dX10_init_25 : decode cX10_init 25 = .ok (.iconst 4, 1) := by decide +kernel
theorem dX10_init_26 : decode cX10_init 26 = .ok (.if_icmp .ge 22, 3) := by decide +kernel
theorem dX10_init_29 : decode cX10_init 29 = .ok (.aload_n 0, 1) := by decide +kernel
theorem dX10_init_30 : decode cX10_init 30 = .ok (.getfield 11, 3) := by decide +kernel
theorem dX10_init_33 : decode cX10_init 33 = .ok (.iload_n 1, 1) := by decide +kernel
theorem dX10_init_34 : decode cX10_init 34 = .ok (.new 9, 3) := by decide +kernel
theorem dX10_init_37 : decode cX10_init 37 = .ok (.dup, 1) := by decide +kernel
theorem dX10_init_38 : decode cX10_init 38 = .ok (.invokespecial 24, 3) := by decide +kernel
theorem dX10_init_41 : decode cX10_init 41 = .ok (.aastore, 1) := by decide +kernel
theorem dX10_init_42 : decode cX10_init 42 = .ok (.iinc 1 1, 3) := by decide +kernel
theorem dX10_init_45 : decode cX10_init 45 = .ok (.goto (-21), 3) := by decide +kernel
theorem dX10_init_48 : decode cX10_init 48 = .ok (.return_, 1) := by decide +kernel
set_option maxRecDepth 20000 in
theorem ggX10_push_X2_copyFrom : GoodIn wsX10_push wsX2_copyFrom := goodIn_r _ [12, 13, 14, 15, 16, 17, 18, 19, 20, 21, 22, 23, 24, 25, 26, 27, 5, 6, 7, 28, 29, 30, 31, 32, 36, 37, 38, 39, 40, 41, 42, 43, 44, 45, 46, 47] (by decide +kernel) (by decide +kernel)
set_option maxRecDepth 20000 in
theorem gX10_push_X2_copyFrom : GoodIn wsX10_push (wsV RX10 25 RX2 yX2_copyFrom wsX2_copyFrom) := goodIn_app (goodIn_of _ (by decide +kernel)) ggX10_push_X2_copyFrom
theorem dX10_push_0 : decode cX10_push 0 = .ok (.aload_n 0, 1) := by decide +kernel
theorem dX10_push_1 : decode cX10_push 1 = .ok (.getfield 11, 3) := by decide +kernel
theorem dX10_push_4 : decode cX10_push 4 = .ok (.aload_n 0, 1) := by decide +kernel
theorem dX10_push_5 : decode cX10_push 5 = .ok (.getfield 17, 3) := by decide +kernel
theorem dX10_push_8 : decode cX10_push 8 = .ok (.aaload, 1) := by decide +kernel
theorem dX10_push_9 : decode cX10_push 9 = .ok (.astore_n 2, 1) := by decide +kernel
theorem dX10_push_10 : decode cX10_push 10 = .ok (.aload_n 2, 1) := by decide +kernel
theorem dX10_push_11 : decode cX10_push 11 = .ok (.ifnull 8, 3) := by decide +kernel
theorem dX10_push_14 : decode cX10_push 14 = .ok (.aload_n 2, 1) := by decide +kernel
theorem dX10_push_15 : decode cX10_push 15 = .ok (.aload_n 1, 1) := by decide +kernel
theorem dX10_push_16 : decode cX10_push 16 = .ok (.invokevirtual 25, 3) := by decide +kernel
theorem dX10_push_19 : decode cX10_push 19 = .ok (.aload_n 0, 1) := by decide +kernel
theorem dX10_push_20 : decode cX10_push 20 = .ok (.aload_n 0, 1) := by decide +kernel
theorem dX10_push_21 : decode cX10_push 21 = .ok (.getfield 17, 3) := by decide +kernel
theorem dX10_push_24 : decode cX10_push 24 = .ok (.iconst 1, 1) := by decide +kernel
theorem dX10_push_25 : decode cX10_push 25 = .ok (.iadd, 1) := by decide +kernel
theorem dX10_push_26 : decode cX10_push 26 = .ok (.iconst 4, 1) := by decide +kernel
theorem dX10_push_27 : decode cX10_push 27 = .ok (.irem, 1) := by decide +kernel
theorem dX10_push_28 : decode cX10_push 28 = .ok (.putfield 17, 3) := by decide +kernel
theorem dX10_push_31 : decode cX10_push 31 = .ok (.aload_n 0, 1) := by decide +kernel
