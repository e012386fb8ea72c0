theorem dX8_init_0 : decode cX8_init 0 = .ok (.aload_n 0, 1) := by decide +kernel
theorem dX8_init_1 : decode cX8_init 1 = .ok (.invokespecial 3, 3) := by decide +kernel
theorem dX8_init_4 : decode cX8_init 4 = .ok (.aload_n 0, 1) := by decide +kernel
theorem dX8_init_5 : decode cX8_init 5 = .ok (.sipush 400, 3) := by decide +kernel
theorem dX8_init_8 : decode cX8_init 8 = .ok (.newarray .int, 2) := by decide +kernel
theorem dX8_init_10 : decode cX8_init 10 = .ok (.putfield 9, 3) := by decide +kernel
theorem dX8_init_13 : decode cX8_init 13 = .ok (.aload_n 0, 1) := by decide +kernel
theorem dX8_init_14 : decode cX8_init 14 = .ok (.sipush 400, 3) := by decide +kernel
theorem dX8_init_17 : decode cX8_init 17 = .ok (.newarray .int, 2) := by decide +kernel
theorem dX8_init_19 : decode cX8_init 19 = .ok (.putfield 15, 3) := by decide +kernel
theorem dX8_init_22 : decode cX8_init 22 = .ok (.aload_n 0, 1) := by decide +kernel
theorem dX8_init_23 : decode cX8_init 23 = .ok (.bipush 8, 2) := by decide +kernel
theorem dX8_init_25 : decode cX8_init 25 = .ok (.newarray .int, 2) := by decide +kernel
theorem dX8_init_27 : decode cX8_init 27 = .ok (.putfield 18, 3) := by decide +kernel
theorem dX8_init_30 : decode cX8_init 30 = .ok (.aload_n 0, 1) := by decide +kernel
theorem dX8_init_31 : decode cX8_init 31 = .ok (.bipush 8, 2) := by decide +kernel
theorem dX8_init_33 : decode cX8_init 33 = .ok (.newarray .int, 2) := by decide +kernel
theorem dX8_init_35 : decode cX8_init 35 = .ok (.putfield 21, 3) := by decide +kernel
theorem dX8_init_38 : decode cX8_init 38 = .ok (.aload_n 0, 1) := by decide +kernel
theorem dX8_init_39 : decode cX8_init 39 = .ok (.iconst 0, 1) := by decide +kernel
theorem dX8_init_40 : decode cX8_init 40 = .ok (.putfield 24, 3) := by decide +kernel
theorem dX8_init_43 : decode cX8_init 43 = .ok (.aload_n 0, 1) := by decide +kernel
theorem dX8_init_44 : decode cX8_init 44 = .ok (.ldc 28, 2) := by decide +kernel
theorem dX8_init_46 : decode cX8_init 46 = .ok (.putfield 29, 3) := by decide +kernel
theorem dX8_init_49 : decode cX8_init 49 = .ok (.aload_n 0, 1) := by decide +kernel
theorem dX8_init_50 : decode cX8_init 50 = .ok (.iconst 0, 1) := by decide +kernel
theorem dX8_init_51 : decode cX8_init 51 = .ok (.putfield 32, 3) := by decide +kernel
theorem dX8_init_54 : decode cX8_init 54 = .ok (.aload_n 0, 1) := by decide +kernel
theorem dX8_init_55 : decode cX8_init 55 = .ok (.iconst 0, 1) := by decide +kernel
theorem dX8_init_56 : decode cX8_init 56 = .ok (.putfield 35, 3) := by decide +kernel
theorem dX8_init_59 : decode cX8_init 59 = .ok (.aload_n 0, 1) := by decide +kernel
theorem dX8_init_60 : decode cX8_init 60 = .ok (.iconst (-1), 1) := by decide +kernel
theorem dX8_init_61 : decode cX8_init 61 = .ok (.putfield 39, 3) := by decide +kernel
theorem dX8_init_64 : decode cX8_init 64 = .ok (.return_, 1) := by decide +kernel
theorem dX8_outdate_0 : decode cX8_outdate 0 = .ok (.aload_n 0, 1) := by decide +kernel
theorem dX8_outdate_1 : decode cX8_outdate 1 = .ok (.iconst 0, 1) := by decide +kernel
theorem dX8_outdate_2 : decode cX8_outdate 2 = .ok (.putfield 35, 3) := by decide +kernel
theorem dX8_outdate_5 : decode cX8_outdate 5 = .ok (.return_, 1) := by decide +kernel
set_option maxRecDepth 20000 in
theorem ggX8_take_X8_gatherHearers : GoodIn wsX8_take wsX8_gatherHearers := goodIn_r _ [11, 12, 13, 14, 3, 4, 5, 6, 2, 15, 16, 17, 18, 19, 20, 21, 22, 23, 24, 25, 26, 27, 28, 29, 30, 31, 98, 99, 100, 101, 102, 103, 104, 105, 106, 107, 108, 109, 110, 111, 112, 113, 114, 115, 116, 117, 118] (by decide +kernel) (by decide +kernel)
set_option maxRecDepth 20000 in
theorem gX8_take_X8_gatherHearers : GoodIn wsX8_take (wsV RX8 42 RX8 yX8_gatherHearers wsX8_gatherHearers) := goodIn_app (goodIn_of _ (by decide +kernel)) ggX8_take_X8_gatherHearers
set_option maxRecDepth 20000 in
theorem ggX8_take_X2_cellCount : GoodIn wsX8_take wsX2_cellCount := goodIn_r _ [35, 36, 37, 107, 108, 109, 110, 111, 112, 113, 114] (by decide +kernel) (by decide +kernel)
set_option maxRecDepth 20000 in
theorem gX8_take_X2_cellCount : GoodIn wsX8_take (wsV RX8 46 RX2 yX2_cellCount wsX2_cellCount) := goodIn_app (goodIn_of _ (by decide +kernel)) ggX8_take_X2_cellCount
set_option maxRecDepth 20000 in
theorem ggX8_take_X8_judge : GoodIn wsX8_take wsX8_judge := goodIn_r _ [41, 12, 42, 43, 44, 45, 46, 10, 47, 15, 48, 13, 49, 24, 25, 26, 27, 28, 29, 30, 31, 50, 51, 52, 19, 53, 54, 55, 56, 57, 36, 58, 59, 60, 61, 62, 63, 64, 65, 21, 23, 66, 67, 68, 69, 70, 71, 72, 73, 74, 75, 76, 77, 78, 79, 80, 81, 82, 83, 84, 85, 5, 86, 98, 99, 100, 101, 102, 103, 104, 105, 106, 107, 108, 109, 110, 111, 112, 113, 114, 115, 116, 117, 118] (by decide +kernel) (by decide +kernel)
set_option maxRecDepth 20000 in
theorem gX8_take_X8_judge : GoodIn wsX8_take (wsV RX8 58 RX8 yX8_judge wsX8_judge) := goodIn_app (goodIn_of _ (by decide +kernel)) ggX8_take_X8_judge
set_option maxRecDepth 20000 in
theorem ggX8_take_X8_choose : GoodIn wsX8_take wsX8_choose := goodIn_r _ [90, 91, 92, 93, 42, 43, 94, 95, 96, 10, 97, 12, 98, 99, 100, 101, 102, 103, 104, 105, 106] (by decide +kernel) (by decide +kernel)
set_option maxRecDepth 20000 in
theorem gX8_take_X8_choose : GoodIn wsX8_take (wsV RX8 62 RX8 yX8_choose wsX8_choose) := goodIn_app (goodIn_of _ (by decide +kernel)) ggX8_take_X8_choose
theorem dX8_take_0 : decode cX8_take 0 = .ok (.aload_n 0, 1) := by decide +kernel
theorem dX8_take_1 : decode cX8_take 1 = .ok (.getfield 35, 3) := by decide +kernel
theorem dX8_take_4 : decode cX8_take 4 = .ok (.ifCond .eq 12, 3) := by decide +kernel
theorem dX8_take_7 : decode cX8_take 7 = .ok (.aload_n 0, 1) := by decide +kernel
theorem dX8_take_8 : decode cX8_take 8 = .ok (.getfield 39, 3) := by decide +kernel
theorem dX8_take_11 : decode cX8_take 11 = .ok (.iload_n 2, 1) := by decide +kernel
theorem dX8_take_12 : decode cX8_take 12 = .ok (.if_icmp .ne 4, 3) := by decide +kernel
theorem dX8_take_15 : decode cX8_take 15 = .ok (.return_, 1) := by decide +kernel
theorem dX8_take_16 : decode cX8_take 16 = .ok (.aload_n 0, 1) := by decide +kernel
theorem dX8_take_17 : decode cX8_take 17 = .ok (.iload_n 2, 1) := by decide +kernel
theorem dX8_take_18 : decode cX8_take 18 = .ok (.putfield 39, 3) := by decide +kernel
theorem dX8_take_21 : decode cX8_take 21 = .ok (.aload_n 0, 1) := by decide +kernel
theorem dX8_take_22 : decode cX8_take 22 = .ok (.iconst 1, 1) := by decide +kernel
theorem dX8_take_23 : decode cX8_take 23 = .ok (.putfield 35, 3) := by decide +kernel
theorem dX8_take_26 : decode cX8_take 26 = .ok (.aload_n 0, 1) := by decide +kernel
theorem dX8_take_27 : decode cX8_take 27 = .ok (.aload_n 1, 1) := by decide +kernel
theorem dX8_take_28 : decode cX8_take 28 = .ok (.invokevirtual 42, 3) := by decide +kernel
theorem dX8_take_31 : decode cX8_take 31 = .ok (.aload_n 1, 1) := by decide +kernel
theorem dX8_take_32 : decode cX8_take 32 = .ok (.invokevirtual 46, 3) := by decide +kernel
theorem dX8_take_35 : decode cX8_take 35 = .ok (.sipush 400, 3) := by decide +kernel
theorem dX8_take_38 : decode cX8_take 38 = .ok (.invokestatic 52, 3) := by decide +kernel
theorem dX8_take_41 : decode cX8_take 41 = .ok (.istore_n 3, 1) := by decide +kernel
theorem dX8_take_42 : decode cX8_take 42 = .ok (.iconst 0, 1) := by decide +kernel
theorem dX8_take_43 : decode cX8_take 43 = .ok (.istore 4, 2) := by decide +kernel
theorem dX8_take_45 : decode cX8_take 45 = .ok (.iload 4, 2) := by decide +kernel
theorem dX8_take_47 : decode cX8_take 47 = .ok (.iload_n 3, 1) := by decide +kernel
theorem dX8_take_48 : decode cX8_take 48 = .ok (.if_icmp .ge 16, 3) := by decide +kernel
theorem dX8_take_51 : decode cX8_take 51 = .ok (.aload_n 0, 1) := by decide +kernel
theorem dX8_take_52 : decode cX8_take 52 = .ok (.aload_n 1, 1) := by decide +kernel
theorem dX8_take_53 : decode cX8_take 53 = .ok (.iload 4, 2) := by decide +kernel
theorem dX8_take_55 : decode cX8_take 55 = .ok (.invokevirtual 58, 3) := by decide +kernel
theorem dX8_take_58 : decode cX8_take 58 = .ok (.iinc 4 1, 3) := by decide +kernel
theorem dX8_take_61 : decode cX8_take 61 = .ok (.goto (-16), 3) := by decide +kernel
theorem dX8_take_64 : decode cX8_take 64 = .ok (.aload_n 0, 1) := by decide +kernel
theorem dX8_take_65 : decode cX8_take 65 = .ok (.iload_n 3, 1) := by decide +kernel
theorem dX8_take_66 : decode cX8_take 66 = .ok (.invokevirtual 62, 3) := by decide +kernel
theorem dX8_take_69 : decode cX8_take 69 = .ok (.return_, 1) := by decide +kernel
theorem dX8_pairCount_0 : decode cX8_pairCount 0 = .ok (.aload_n 0, 1) := by decide +kernel
theorem dX8_pairCount_1 : decode cX8_pairCount 1 = .ok (.getfield 24, 3) := by decide +kernel
theorem dX8_pairCount_4 : decode cX8_pairCount 4 = .ok (.aload_n 0, 1) := by decide +kernel
theorem dX8_pairCount_5 : decode cX8_pairCount 5 = .ok (.getfield 24, 3) := by decide +kernel
theorem dX8_pairCount_8 : decode cX8_pairCount 8 = .ok (.iconst 1, 1) := by decide +kernel
theorem dX8_pairCount_9 : decode cX8_pairCount 9 = .ok (.isub, 1) := by decide +kernel
theorem dX8_pairCount_10 : decode cX8_pairCount 10 = .ok (.imul, 1) := by decide +kernel
theorem dX8_pairCount_11 : decode cX8_pairCount 11 = .ok (.iconst 2, 1) := by decide +kernel
theorem dX8_pairCount_12 : decode cX8_pairCount 12 = .ok (.idiv, 1) := by decide +kernel
theorem dX8_pairCount_13 : decode cX8_pairCount 13 = .ok (.ireturn, 1) := by decide +kernel
set_option maxRecDepth 20000 in
theorem ggX8_votesOf_X11_isBetween : GoodIn wsX8_votesOf wsX11_isBetween := goodIn_r _ [4] (by decide +kernel) (by decide +kernel)
set_option maxRecDepth 20000 in
theorem gX8_votesOf_X11_isBetween_n66 : GoodIn wsX8_votesOf (wsX11_isBetween) := ggX8_votesOf_X11_isBetween
theorem dX8_votesOf_0 : decode cX8_votesOf 0 = .ok (.iload_n 1, 1) := by decide +kernel
theorem dX8_votesOf_1 : decode cX8_votesOf 1 = .ok (.iconst 0, 1) := by decide +kernel
theorem dX8_votesOf_2 : decode cX8_votesOf 2 = .ok (.sipush 399, 3) := by decide +kernel
theorem dX8_votesOf_5 : decode cX8_votesOf 5 = .ok (.invokestatic 66, 3) := by decide +kernel
theorem dX8_votesOf_8 : decode cX8_votesOf 8 = .ok (.ifCond .eq 12, 3) := by decide +kernel
theorem dX8_votesOf_11 : decode cX8_votesOf 11 = .ok (.aload_n 0, 1) := by decide +kernel
theorem dX8_votesOf_12 : decode cX8_votesOf 12 = .ok (.getfield 9, 3) := by decide +kernel
theorem dX8_votesOf_15 : decode cX8_votesOf 15 = .ok (.iload_n 1, 1) := by decide +kernel
theorem dX8_votesOf_16 : decode cX8_votesOf 16 = .ok (.iaload, 1) := by decide +kernel
theorem dX8_votesOf_17 : decode cX8_votesOf 17 = .ok (.goto 4, 3) := by decide +kernel
theorem dX8_votesOf_20 : decode cX8_votesOf 20 = .ok (.iconst 0, 1) := by decide +kernel
theorem dX8_votesOf_21 : decode cX8_votesOf 21 = .ok (.ireturn, 1) := by decide +kernel
set_option maxRecDepth 20000 in
theorem ggX8_errorOf_X11_isBetween : GoodIn wsX8_errorOf wsX11_isBetween := goodIn_r _ [4] (by decide +kernel) (by decide +kernel)
set_option maxRecDepth 20000 in
theorem gX8_errorOf_X11_isBetween_n66 : GoodIn wsX8_errorOf (wsX11_isBetween) := ggX8_errorOf_X11_isBetween
theorem dX8_errorOf_0 : decode cX8_errorOf 0 = .ok (.iload_n 1, 1) := by decide +kernel
theorem dX8_errorOf_1 : decode cX8_errorOf 1 = .ok (.iconst 0, 1) := by decide +kernel
theorem dX8_errorOf_2 : decode cX8_errorOf 2 = .ok (.sipush 399, 3) := by decide +kernel
theorem dX8_errorOf_5 : decode cX8_errorOf 5 = .ok (.invokestatic 66, 3) := by decide +kernel
theorem dX8_errorOf_8 : decode cX8_errorOf 8 = .ok (.ifCond .eq 12, 3) := by decide +kernel
theorem dX8_errorOf_11 : decode cX8_errorOf 11 = .ok (.aload_n 0, 1) := by decide +kernel
theorem dX8_errorOf_12 : decode cX8_errorOf 12 = .ok (.getfield 15, 3) := by decide +kernel
theorem dX8_errorOf_15 : decode cX8_errorOf 15 = .ok (.iload_n 1, 1) := by decide +kernel
theorem dX8_errorOf_16 : decode cX8_errorOf 16 = .ok (.iaload, 1) := by decide +kernel
theorem dX8_errorOf_17 : decode cX8_errorOf 17 = .ok (.goto 4, 3) := by decide +kernel
theorem dX8_errorOf_20 : decode cX8_errorOf 20 = .ok (.iconst 0, 1) := by decide +kernel
theorem dX8_errorOf_21 : decode cX8_errorOf 21 = .ok (.ireturn, 1) := by decide +kernel
set_option maxRecDepth 20000 in
theorem ggX8_gatherHearers_X2_hasNoted : GoodIn wsX8_gatherHearers wsX2_hasNoted := goodIn_r _ [14, 15, 16, 17, 18, 19, 20, 21, 22, 23, 24, 25, 35, 36, 37, 38, 39, 40, 41, 42, 43, 44, 45, 46] (by decide +kernel) (by decide +kernel)
set_option maxRecDepth 20000 in
theorem gX8_gatherHearers_X2_hasNoted : GoodIn wsX8_gatherHearers (wsV RX8 79 RX2 yX2_hasNoted wsX2_hasNoted) := goodIn_app (goodIn_of _ (by decide +kernel)) ggX8_gatherHearers_X2_hasNoted
theorem dX8_gatherHearers_0 : decode cX8_gatherHearers 0 = .ok (.aload_n 0, 1) := by decide +kernel
theorem dX8_gatherHearers_1 : decode cX8_gatherHearers 1 = .ok (.iconst 0, 1) := by decide +kernel
theorem dX8_gatherHearers_2 : decode cX8_gatherHearers 2 = .ok (.putfield 24, 3) := by decide +kernel
theorem dX8_gatherHearers_5 : decode cX8_gatherHearers 5 = .ok (.aload_n 1, 1) := by decide +kernel
theorem dX8_gatherHearers_6 : decode cX8_gatherHearers 6 = .ok (.getfield 70, 3) := by decide +kernel
theorem dX8_gatherHearers_9 : decode cX8_gatherHearers 9 = .ok (.getfield 74, 3) := by decide +kernel
theorem dX8_gatherHearers_12 : decode cX8_gatherHearers 12 = .ok (.bipush 8, 2) := by decide +kernel
theorem dX8_gatherHearers_14 : decode cX8_gatherHearers 14 = .ok (.invokestatic 52, 3) := by decide +kernel
theorem dX8_gatherHearers_17 : decode cX8_gatherHearers 17 = .ok (.istore_n 2, 1) := by decide +kernel
theorem dX8_gatherHearers_18 : decode cX8_gatherHearers 18 = .ok (.iconst 0, 1) := by decide +kernel
theorem dX8_gatherHearers_19 : decode cX8_gatherHearers 19 = .ok (.istore_n 3, 1) := by decide +kernel
theorem dX8_gatherHearers_20 : decode cX8_gatherHearers 20 = .ok (.iload_n 3, 1) := by decide +kernel
theorem dX8_gatherHearers_21 : decode cX8_gatherHearers 21 = .ok (.iload_n 2, 1) := by decide +kernel
theorem dX8_gatherHearers_22 : decode cX8_gatherHearers 22 = .ok (.if_icmp .ge 45, 3) := by decide +kernel
theorem dX8_gatherHearers_25 : decode cX8_gatherHearers 25 = .ok (.iload_n 3, 1) := by decide +kernel
theorem dX8_gatherHearers_26 : decode cX8_gatherHearers 26 = .ok (.aload_n 0, 1) := by decide +kernel
theorem dX8_gatherHearers_27 : decode cX8_gatherHearers 27 = .ok (.getfield 39, 3) := by decide +kernel
theorem dX8_gatherHearers_30 : decode cX8_gatherHearers 30 = .ok (.if_icmp .eq 31, 3) := by decide +kernel
theorem dX8_gatherHearers_33 : decode cX8_gatherHearers 33 = .ok (.aload_n 1, 1) := by decide +kernel
theorem dX8_gatherHearers_34 : decode cX8_gatherHearers 34 = .ok (.iload_n 3, 1) := by decide +kernel
theorem dX8_gatherHearers_35 : decode cX8_gatherHearers 35 = .ok (.invokevirtual 79, 3) := by decide +kernel
theorem dX8_gatherHearers_38 : decode cX8_gatherHearers 38 = .ok (.ifCond .eq 23, 3) := by decide +kernel
theorem dX8_gatherHearers_41 : decode cX8_gatherHearers 41 = .ok (.aload_n 0, 1) := by decide +kernel
theorem dX8_gatherHearers_42 : decode cX8_gatherHearers 42 = .ok (.getfield 18, 3) := by decide +kernel
theorem dX8_gatherHearers_45 : decode cX8_gatherHearers 45 = .ok (.aload_n 0, 1) := by decide +kernel
theorem dX8_gatherHearers_46 : decode cX8_gatherHearers 46 = .ok (.getfield 24, 3) := by decide +kernel
theorem dX8_gatherHearers_49 : decode cX8_gatherHearers 49 = .ok (.iload_n 3, 1) := by decide +kernel
theorem dX8_gatherHearers_50 : decode cX8_gatherHearers 50 = .ok (.iastore, 1) := by decide +kernel
theorem dX8_gatherHearers_51 : decode cX8_gatherHearers 51 = .ok (.aload_n 0, 1) := by decide +kernel
theorem dX8_gatherHearers_52 : decode cX8_gatherHearers 52 = .ok (.dup, 1) := by decide +kernel
theorem dX8_gatherHearers_53 : decode cX8_gatherHearers 53 = .ok (.getfield 24, 3) := by decide +kernel
theorem dX8_gatherHearers_56 : decode cX8_gatherHearers 56 = .ok (.iconst 1, 1) := by decide +kernel
theorem dX8_gatherHearers_57 : decode cX8_gatherHearers 57 = .ok (.iadd, 1) := by decide +kernel
theorem dX8_gatherHearers_58 : decode cX8_gatherHearers 58 = .ok (.putfield 24, 3) := by decide +kernel
theorem dX8_gatherHearers_61 : decode cX8_gatherHearers 61 = .ok (.iinc 3 1, 3) := by decide +kernel
theorem dX8_gatherHearers_64 : decode cX8_gatherHearers 64 = .ok (.goto (-44), 3) := by decide +kernel
theorem dX8_gatherHearers_67 : decode cX8_gatherHearers 67 = .ok (.return_, 1) := by decide +kernel
set_option maxRecDepth 20000 in
theorem ggX8_traceStarts_X9_at : GoodIn wsX8_traceStarts wsX9_at := goodIn_r _ [9, 10, 11, 12, 13, 61, 62, 63, 64] (by decide +kernel) (by decide +kernel)
set_option maxRecDepth 20000 in
theorem gX8_traceStarts_X9_at : GoodIn wsX8_traceStarts (wsV RX8 83 RX9 yX9_at wsX9_at) := goodIn_app (goodIn_of _ (by decide +kernel)) ggX8_traceStarts_X9_at
set_option maxRecDepth 20000 in
theorem ggX8_traceStarts_X2_timeFromCell : GoodIn wsX8_traceStarts wsX2_timeFromCell := goodIn_r _ [18, 19, 20, 21, 17, 22, 23, 24, 25, 26, 27, 28, 29, 30, 31, 32, 33, 6, 7, 8, 9, 10, 11, 12, 13, 34, 35, 36, 37, 38, 39, 40, 41, 42, 43, 53, 54, 55, 56, 57, 58, 59, 60, 61, 62, 63, 64] (by decide +kernel) (by decide +kernel)
set_option maxRecDepth 20000 in
theorem gX8_traceStarts_X2_timeFromCell : GoodIn wsX8_traceStarts (wsV RX8 86 RX2 yX2_timeFromCell wsX2_timeFromCell) := goodIn_app (goodIn_of _ (by decide +kernel)) ggX8_traceStarts_X2_timeFromCell
theorem dX8_traceStarts_0 : decode cX8_traceStarts 0 = .ok (.iconst 0, 1) := by decide +kernel
theorem dX8_traceStarts_1 : decode cX8_traceStarts 1 = .ok (.istore_n 3, 1) := by decide +kernel
theorem dX8_traceStarts_2 : decode cX8_traceStarts 2 = .ok (.iload_n 3, 1) := by decide +kernel
theorem dX8_traceStarts_3 : decode cX8_traceStarts 3 = .ok (.aload_n 0, 1) := by decide +kernel
theorem dX8_traceStarts_4 : decode cX8_traceStarts 4 = .ok (.getfield 24, 3) := by decide +kernel
theorem dX8_traceStarts_7 : decode cX8_traceStarts 7 = .ok (.if_icmp .ge 41, 3) := by decide +kernel
theorem dX8_traceStarts_10 : decode cX8_traceStarts 10 = .ok (.aload_n 0, 1) := by decide +kernel
theorem dX8_traceStarts_11 : decode cX8_traceStarts 11 = .ok (.getfield 18, 3) := by decide +kernel
theorem dX8_traceStarts_14 : decode cX8_traceStarts 14 = .ok (.iload_n 3, 1) := by decide +kernel
theorem dX8_traceStarts_15 : decode cX8_traceStarts 15 = .ok (.iaload, 1) := by decide +kernel
theorem dX8_traceStarts_16 : decode cX8_traceStarts 16 = .ok (.istore 4, 2) := by decide +kernel
theorem dX8_traceStarts_18 : decode cX8_traceStarts 18 = .ok (.aload_n 0, 1) := by decide +kernel
theorem dX8_traceStarts_19 : decode cX8_traceStarts 19 = .ok (.getfield 21, 3) := by decide +kernel
theorem dX8_traceStarts_22 : decode cX8_traceStarts 22 = .ok (.iload_n 3, 1) := by decide +kernel
theorem dX8_traceStarts_23 : decode cX8_traceStarts 23 = .ok (.aload_n 1, 1) := by decide +kernel
theorem dX8_traceStarts_24 : decode cX8_traceStarts 24 = .ok (.getfield 70, 3) := by decide +kernel
theorem dX8_traceStarts_27 : decode cX8_traceStarts 27 = .ok (.iload 4, 2) := by decide +kernel
theorem dX8_traceStarts_29 : decode cX8_traceStarts 29 = .ok (.iconst 4, 1) := by decide +kernel
theorem dX8_traceStarts_30 : decode cX8_traceStarts 30 = .ok (.invokevirtual 83, 3) := by decide +kernel
theorem dX8_traceStarts_33 : decode cX8_traceStarts 33 = .ok (.aload_n 1, 1) := by decide +kernel
theorem dX8_traceStarts_34 : decode cX8_traceStarts 34 = .ok (.iload_n 2, 1) := by decide +kernel
theorem dX8_traceStarts_35 : decode cX8_traceStarts 35 = .ok (.iload 4, 2) := by decide +kernel
theorem dX8_traceStarts_37 : decode cX8_traceStarts 37 = .ok (.invokevirtual 86, 3) := by decide +kernel
theorem dX8_traceStarts_40 : decode cX8_traceStarts 40 = .ok (.isub, 1) := by decide +kernel
theorem dX8_traceStarts_41 : decode cX8_traceStarts 41 = .ok (.iastore, 1) := by decide +kernel
theorem dX8_traceStarts_42 : decode cX8_traceStarts 42 = .ok (.iinc 3 1, 3) := by decide +kernel
theorem dX8_traceStarts_45 : decode cX8_traceStarts 45 = .ok (.goto (-43), 3) := by decide +kernel
theorem dX8_traceStarts_48 : decode cX8_traceStarts 48 = .ok (.return_, 1) := by decide +kernel
theorem dX8_gapOf_0 : decode cX8_gapOf 0 = .ok (.aload_n 0, 1) := by decide +kernel
theorem dX8_gapOf_1 : decode cX8_gapOf 1 = .ok (.getfield 21, 3) := by decide +kernel
theorem dX8_gapOf_4 : decode cX8_gapOf 4 = .ok (.iload_n 1, 1) := by decide +kernel
theorem dX8_gapOf_5 : decode cX8_gapOf 5 = .ok (.iaload, 1) := by decide +kernel
theorem dX8_gapOf_6 : decode cX8_gapOf 6 = .ok (.aload_n 0, 1) := by decide +kernel
theorem dX8_gapOf_7 : decode cX8_gapOf 7 = .ok (.getfield 21, 3) := by decide +kernel
theorem dX8_gapOf_10 : decode cX8_gapOf 10 = .ok (.iload_n 2, 1) := by decide +kernel
theorem dX8_gapOf_11 : decode cX8_gapOf 11 = .ok (.iaload, 1) := by decide +kernel
theorem dX8_gapOf_12 : decode cX8_gapOf 12 = .ok (.isub, 1) := by decide +kernel
theorem dX8_gapOf_13 : decode cX8_gapOf 13 = .ok (.invokestatic 89, 3) := by decide +kernel
theorem dX8_gapOf_16 : decode cX8_gapOf 16 = .ok (.ireturn, 1) := by decide +kernel
set_option maxRecDepth 20000 in
theorem ggX8_judge_X8_traceStarts : GoodIn wsX8_judge wsX8_traceStarts := goodIn_r _ [8, 1, 9, 10, 11, 12, 13, 14, 15, 16, 17, 18, 19, 20, 21, 22, 23, 24, 25, 26, 27, 28, 29, 30, 31, 32, 33, 34, 35, 36, 37, 38, 39, 40, 41, 42, 43, 44, 45, 46, 47, 48, 49, 50, 63, 64, 65, 66, 67, 68, 69, 70, 71, 72, 73, 74, 75, 76, 77, 78, 79, 80, 81, 82, 83] (by decide +kernel) (by decide +kernel)
set_option maxRecDepth 20000 in
theorem gX8_judge_X8_traceStarts : GoodIn wsX8_judge (wsV RX8 93 RX8 yX8_traceStarts wsX8_traceStarts) := goodIn_app (goodIn_of _ (by decide +kernel)) ggX8_judge_X8_traceStarts
set_option maxRecDepth 20000 in
theorem ggX8_judge_X2_setting : GoodIn wsX8_judge wsX2_setting := goodIn_r _ [54, 50, 40, 13, 14, 15, 16, 17, 18, 19, 20, 72, 73, 74, 75, 76, 77, 78, 79, 80, 81, 82, 83] (by decide +kernel) (by decide +kernel)
set_option maxRecDepth 20000 in
theorem gX8_judge_X2_setting : GoodIn wsX8_judge (wsV RX8 96 RX2 yX2_setting wsX2_setting) := goodIn_app (goodIn_of _ (by decide +kernel)) ggX8_judge_X2_setting
set_option maxRecDepth 20000 in
theorem ggX8_judge_X8_gapOf : GoodIn wsX8_judge wsX8_gapOf := goodIn_r _ [58, 10, 59, 60, 61, 62, 63, 64, 65, 66, 67, 68, 69, 70, 71] (by decide +kernel) (by decide +kernel)
set_option maxRecDepth 20000 in
theorem gX8_judge_X8_gapOf : GoodIn wsX8_judge (wsV RX8 99 RX8 yX8_gapOf wsX8_gapOf) := goodIn_app (goodIn_of _ (by decide +kernel)) ggX8_judge_X8_gapOf
theorem dX8_judge_0 : decode cX8_judge 0 = .ok (.aload_n 0, 1) := by decide +kernel
theorem dX8_judge_1 : decode cX8_judge 1 = .ok (.aload_n 1, 1) := by decide +kernel
theorem dX8_judge_2 : decode cX8_judge 2 = .ok (.iload_n 2, 1) := by decide +kernel
theorem dX8_judge_3 : decode cX8_judge 3 = .ok (.invokevirtual 93, 3) := by decide +kernel
theorem dX8_judge_6 : decode cX8_judge 6 = .ok (.aload_n 1, 1) := by decide +kernel
theorem dX8_judge_7 : decode cX8_judge 7 = .ok (.bipush 6, 2) := by decide +kernel
theorem dX8_judge_9 : decode cX8_judge 9 = .ok (.invokevirtual 96, 3) := by decide +kernel
theorem dX8_judge_12 : decode cX8_judge 12 = .ok (.istore_n 3, 1) := by decide +kernel
theorem dX8_judge_13 : decode cX8_judge 13 = .ok (.iconst 0, 1) := by decide +kernel
theorem dX8_judge_14 : decode cX8_judge 14 = .ok (.istore 4, 2) := by decide +kernel
theorem dX8_judge_16 : decode cX8_judge 16 = .ok (.iconst 0, 1) := by decide +kernel
theorem dX8_judge_17 : decode cX8_judge 17 = .ok (.istore 5, 2) := by decide +kernel
theorem dX8_judge_19 : decode cX8_judge 19 = .ok (.iconst 0, 1) := by decide +kernel
theorem dX8_judge_20 : decode cX8_judge 20 = .ok (.istore 6, 2) := by decide +kernel
theorem dX8_judge_22 : decode cX8_judge 22 = .ok (.iload 6, 2) := by decide +kernel
theorem dX8_judge_24 : decode cX8_judge 24 = .ok (.aload_n 0, 1) := by decide +kernel
theorem dX8_judge_25 : decode cX8_judge 25 = .ok (.getfield 24, 3) := by decide +kernel
theorem dX8_judge_28 : decode cX8_judge 28 = .ok (.if_icmp .ge 56, 3) := by decide +kernel
theorem dX8_judge_31 : decode cX8_judge 31 = .ok (.iload 6, 2) := by decide +kernel
theorem dX8_judge_33 : decode cX8_judge 33 = .ok (.iconst 1, 1) := by decide +kernel
theorem dX8_judge_34 : decode cX8_judge 34 = .ok (.iadd, 1) := by decide +kernel
theorem dX8_judge_35 : decode cX8_judge 35 = .ok (.istore 7, 2) := by decide +kernel
theorem dX8_judge_37 : decode cX8_judge 37 = .ok (.iload 7, 2) := by decide +kernel
theorem dX8_judge_39 : decode cX8_judge 39 = .ok (.aload_n 0, 1) := by decide +kernel
theorem dX8_judge_40 : decode cX8_judge 40 = .ok (.getfield 24, 3) := by decide +kernel
theorem dX8_judge_43 : decode cX8_judge 43 = .ok (.if_icmp .ge 35, 3) := by decide +kernel
theorem dX8_judge_46 : decode cX8_judge 46 = .ok (.aload_n 0, 1) := by decide +kernel
theorem dX8_judge_47 : decode cX8_judge 47 = .ok (.iload 6, 2) := by decide +kernel
theorem dX8_judge_49 : decode cX8_judge 49 = .ok (.iload 7, 2) := by decide +kernel
theorem dX8_judge_51 : decode cX8_judge 51 = .ok (.invokevirtual 99, 3) := by decide +kernel
theorem dX8_judge_54 : decode cX8_judge 54 = .ok (.istore 8, 2) := by decide +kernel
theorem dX8_judge_56 : decode cX8_judge 56 = .ok (.iload 5, 2) := by decide +kernel
theorem dX8_judge_58 : decode cX8_judge 58 = .ok (.iload 8, 2) := by decide +kernel
theorem dX8_judge_60 : decode cX8_judge 60 = .ok (.iadd, 1) := by decide +kernel
theorem dX8_judge_61 : decode cX8_judge 61 = .ok (.istore 5, 2) := by decide +kernel
theorem dX8_judge_63 : decode cX8_judge 63 = .ok (.iload 8, 2) := by decide +kernel
theorem dX8_judge_65 : decode cX8_judge 65 = .ok (.iload_n 3, 1) := by decide +kernel
theorem dX8_judge_66 : decode cX8_judge 66 = .ok (.if_icmp .gt 6, 3) := by decide +kernel
theorem dX8_judge_69 : decode cX8_judge 69 = .ok (.iinc 4 1, 3) := by decide +kernel
theorem dX8_judge_72 : decode cX8_judge 72 = .ok (.iinc 7 1, 3) := by decide +kernel
theorem dX8_judge_75 : decode cX8_judge 75 = .ok (.goto (-38), 3) := by decide +kernel
theorem dX8_judge_78 : decode cX8_judge 78 = .ok (.iinc 6 1, 3) := by decide +kernel
theorem dX8_judge_81 : decode cX8_judge 81 = .ok (.goto (-59), 3) := by decide +kernel
theorem dX8_judge_84 : decode cX8_judge 84 = .ok (.aload_n 0, 1) := by decide +kernel
theorem dX8_judge_85 : decode cX8_judge 85 = .ok (.getfield 9, 3) := by decide +kernel
theorem dX8_judge_88 : decode cX8_judge 88 = .ok (.iload_n 2, 1) := by decide +kernel
theorem dX8_judge_89 : decode cX8_judge 89 = .ok (.iload 4, 2) := by decide +kernel
theorem dX8_judge_91 : decode cX8_judge 91 = .ok (.iastore, 1) := by decide +kernel
theorem dX8_judge_92 : decode cX8_judge 92 = .ok (.aload_n 0, 1) := by decide +kernel
theorem dX8_judge_93 : decode cX8_judge 93 = .ok (.getfield 15, 3) := by decide +kernel
theorem dX8_judge_96 : decode cX8_judge 96 = .ok (.iload_n 2, 1) := by decide +kernel
theorem dX8_judge_97 : decode cX8_judge 97 = .ok (.iload 5, 2) := by decide +kernel
theorem dX8_judge_99 : decode cX8_judge 99 = .ok (.iastore, 1) := by decide +kernel
theorem dX8_judge_100 : decode cX8_judge 100 = .ok (.return_, 1) := by decide +kernel
set_option maxRecDepth 20000 in
theorem ggX8_choose_X8_pairCount : GoodIn wsX8_choose wsX8_pairCount := goodIn_r _ [10, 11, 12, 13, 14, 15, 16, 17, 18, 19, 20] (by decide +kernel) (by decide +kernel)
set_option maxRecDepth 20000 in
theorem gX8_choose_X8_pairCount : GoodIn wsX8_choose (wsV RX8 102 RX8 yX8_pairCount wsX8_pairCount) := goodIn_app (goodIn_of _ (by decide +kernel)) ggX8_choose_X8_pairCount
theorem dX8_choose_0 : decode cX8_choose 0 = .ok (.aload_n 0, 1) := by decide +kernel
theorem dX8_choose_1 : decode cX8_choose 1 = .ok (.ldc 28, 2) := by decide +kernel
theorem dX8_choose_3 : decode cX8_choose 3 = .ok (.putfield 29, 3) := by decide +kernel
theorem dX8_choose_6 : decode cX8_choose 6 = .ok (.aload_n 0, 1) := by decide +kernel
theorem dX8_choose_7 : decode cX8_choose 7 = .ok (.iconst 0, 1) := by decide +kernel
theorem dX8_choose_8 : decode cX8_choose 8 = .ok (.putfield 32, 3) := by decide +kernel
theorem dX8_choose_11 : decode cX8_choose 11 = .ok (.aload_n 0, 1) := by decide +kernel
theorem dX8_choose_12 : decode cX8_choose 12 = .ok (.invokevirtual 102, 3) := by decide +kernel
theorem dX8_choose_15 : decode cX8_choose 15 = .ok (.ifCond .ne 4, 3) := by decide +kernel
theorem dX8_choose_18 : decode cX8_choose 18 = .ok (.return_, 1) := by decide +kernel
theorem dX8_choose_19 : decode cX8_choose 19 = .ok (.iconst 0, 1) := by decide +kernel
theorem dX8_choose_20 : decode cX8_choose 20 = .ok (.istore_n 2, 1) := by decide +kernel
theorem dX8_choose_21 : decode cX8_choose 21 = .ok (.iconst 1, 1) := by decide +kernel
theorem dX8_choose_22 : decode cX8_choose 22 = .ok (.istore_n 3, 1) := by decide +kernel
theorem dX8_choose_23 : decode cX8_choose 23 = .ok (.iload_n 3, 1) := by decide +kernel
theorem dX8_choose_24 : decode cX8_choose 24 = .ok (.iload_n 1, 1) := by decide +kernel
theorem dX8_choose_25 : decode cX8_choose 25 = .ok (.if_icmp .ge 80, 3) := by decide +kernel
theorem dX8_choose_28 : decode cX8_choose 28 = .ok (.aload_n 0, 1) := by decide +kernel
theorem dX8_choose_29 : decode cX8_choose 29 = .ok (.getfield 9, 3) := by decide +kernel
theorem dX8_choose_32 : decode cX8_choose 32 = .ok (.iload_n 3, 1) := by decide +kernel
theorem dX8_choose_33 : decode cX8_choose 33 = .ok (.iaload, 1) := by decide +kernel
theorem dX8_choose_34 : decode cX8_choose 34 = .ok (.aload_n 0, 1) := by decide +kernel
theorem dX8_choose_35 : decode cX8_choose 35 = .ok (.getfield 9, 3) := by decide +kernel
theorem dX8_choose_38 : decode cX8_choose 38 = .ok (.iload_n 2, 1) := by decide +kernel
theorem dX8_choose_39 : decode cX8_choose 39 = .ok (.iaload, 1) := by decide +kernel
theorem dX8_choose_40 : decode cX8_choose 40 = .ok (.if_icmp .le 7, 3) := by decide +kernel
theorem dX8_choose_43 : decode cX8_choose 43 = .ok (.iconst 1, 1) := by decide +kernel
theorem dX8_choose_44 : decode cX8_choose 44 = .ok (.goto 4, 3) := by decide +kernel
theorem dX8_choose_47 : decode cX8_choose 47 = .ok (.iconst 0, 1) := by decide +kernel
theorem dX8_choose_48 : decode cX8_choose 48 = .ok (.istore 4, 2) := by decide +kernel
theorem dX8_choose_50 : decode cX8_choose 50 = .ok (.aload_n 0, 1) := by decide +kernel
theorem dX8_choose_51 : decode cX8_choose 51 = .ok (.getfield 9, 3) := by decide +kernel
theorem dX8_choose_54 : decode cX8_choose 54 = .ok (.iload_n 3, 1) := by decide +kernel
theorem dX8_choose_55 : decode cX8_choose 55 = .ok (.iaload, 1) := by decide +kernel
theorem dX8_choose_56 : decode cX8_choose 56 = .ok (.aload_n 0, 1) := by decide +kernel
theorem dX8_choose_57 : decode cX8_choose 57 = .ok (.getfield 9, 3) := by decide +kernel
theorem dX8_choose_60 : decode cX8_choose 60 = .ok (.iload_n 2, 1) := by decide +kernel
theorem dX8_choose_61 : decode cX8_choose 61 = .ok (.iaload, 1) := by decide +kernel
theorem dX8_choose_62 : decode cX8_choose 62 = .ok (.if_icmp .ne 22, 3) := by decide +kernel
theorem dX8_choose_65 : decode cX8_choose 65 = .ok (.aload_n 0, 1) := by decide +kernel
theorem dX8_choose_66 : decode cX8_choose 66 = .ok (.getfield 15, 3) := by decide +kernel
theorem dX8_choose_69 : decode cX8_choose 69 = .ok (.iload_n 3, 1) := by decide +kernel
theorem dX8_choose_70 : decode cX8_choose 70 = .ok (.iaload, 1) := by decide +kernel
theorem dX8_choose_71 : decode cX8_choose 71 = .ok (.aload_n 0, 1) := by decide +kernel
theorem dX8_choose_72 : decode cX8_choose 72 = .ok (.getfield 15, 3) := by decide +kernel
theorem dX8_choose_75 : decode cX8_choose 75 = .ok (.iload_n 2, 1) := by decide +kernel
theorem dX8_choose_76 : decode cX8_choose 76 = .ok (.iaload, 1) := by decide +kernel
theorem dX8_choose_77 : decode cX8_choose 77 = .ok (.if_icmp .ge 7, 3) := by decide +kernel
theorem dX8_choose_80 : decode cX8_choose 80 = .ok (.iconst 1, 1) := by decide +kernel
theorem dX8_choose_81 : decode cX8_choose 81 = .ok (.goto 4, 3) := by decide +kernel
theorem dX8_choose_84 : decode cX8_choose 84 = .ok (.iconst 0, 1) := by decide +kernel
theorem dX8_choose_85 : decode cX8_choose 85 = .ok (.istore 5, 2) := by decide +kernel
theorem dX8_choose_87 : decode cX8_choose 87 = .ok (.iload 4, 2) := by decide +kernel
theorem dX8_choose_89 : decode cX8_choose 89 = .ok (.ifCond .ne 8, 3) := by decide +kernel
theorem dX8_choose_92 : decode cX8_choose 92 = .ok (.iload 5, 2) := by decide +kernel
theorem dX8_choose_94 : decode cX8_choose 94 = .ok (.ifCond .eq 5, 3) := by decide +kernel
theorem dX8_choose_97 : decode cX8_choose 97 = .ok (.iload_n 3, 1) := by decide +kernel
theorem dX8_choose_98 : decode cX8_choose 98 = .ok (.istore_n 2, 1) := by decide +kernel
theorem dX8_choose_99 : decode cX8_choose 99 = .ok (.iinc 3 1, 3) := by decide +kernel
theorem dX8_choose_102 : decode cX8_choose 102 = .ok (.goto (-79), 3) := by decide +kernel
theorem dX8_choose_105 : decode cX8_choose 105 = .ok (.iconst 0, 1) := by decide +kernel
theorem dX8_choose_106 : decode cX8_choose 106 = .ok (.istore_n 3, 1) := by decide +kernel
theorem dX8_choose_107 : decode cX8_choose 107 = .ok (.iload_n 3, 1) := by decide +kernel
theorem dX8_choose_108 : decode cX8_choose 108 = .ok (.iload_n 1, 1) := by decide +kernel
theorem dX8_choose_109 : decode cX8_choose 109 = .ok (.if_icmp .ge 34, 3) := by decide +kernel
theorem dX8_choose_112 : decode cX8_choose 112 = .ok (.aload_n 0, 1) := by decide +kernel
theorem dX8_choose_113 : decode cX8_choose 113 = .ok (.getfield 9, 3) := by decide +kernel
theorem dX8_choose_116 : decode cX8_choose 116 = .ok (.iload_n 3, 1) := by decide +kernel
theorem dX8_choose_117 : decode cX8_choose 117 = .ok (.iaload, 1) := by decide +kernel
theorem dX8_choose_118 : decode cX8_choose 118 = .ok (.aload_n 0, 1) := by decide +kernel
theorem dX8_choose_119 : decode cX8_choose 119 = .ok (.getfield 9, 3) := by decide +kernel
theorem dX8_choose_122 : decode cX8_choose 122 = .ok (.iload_n 2, 1) := by decide +kernel
theorem dX8_choose_123 : decode cX8_choose 123 = .ok (.iaload, 1) := by decide +kernel
theorem dX8_choose_124 : decode cX8_choose 124 = .ok (.if_icmp .ne 13, 3) := by decide +kernel
theorem dX8_choose_127 : decode cX8_choose 127 = .ok (.aload_n 0, 1) := by decide +kernel
theorem dX8_choose_128 : decode cX8_choose 128 = .ok (.dup, 1) := by decide +kernel
theorem dX8_choose_129 : decode cX8_choose 129 = .ok (.getfield 32, 3) := by decide +kernel
theorem dX8_choose_132 : decode cX8_choose 132 = .ok (.iconst 1, 1) := by decide +kernel
theorem dX8_choose_133 : decode cX8_choose 133 = .ok (.iadd, 1) := by decide +kernel
theorem dX8_choose_134 : decode cX8_choose 134 = .ok (.putfield 32, 3) := by decide +kernel
theorem dX8_choose_137 : decode cX8_choose 137 = .ok (.iinc 3 1, 3) := by decide +kernel
theorem dX8_choose_140 : decode cX8_choose 140 = .ok (.goto (-33), 3) := by decide +kernel
theorem dX8_choose_143 : decode cX8_choose 143 = .ok (.aload_n 0, 1) := by decide +kernel
theorem dX8_choose_144 : decode cX8_choose 144 = .ok (.iload_n 2, 1) := by decide +kernel
theorem dX8_choose_145 : decode cX8_choose 145 = .ok (.putfield 29, 3) := by decide +kernel
theorem dX8_choose_148 : decode cX8_choose 148 = .ok (.return_, 1) := by decide +kernel
set_option maxRecDepth 20000 in
theorem ggX8_sumOfTied_X2_cellCount : GoodIn wsX8_sumOfTied wsX2_cellCount := goodIn_r _ [6, 7, 8, 35, 36, 37, 38, 39, 40, 41, 42] (by decide +kernel) (by decide +kernel)
set_option maxRecDepth 20000 in
theorem gX8_sumOfTied_X2_cellCount : GoodIn wsX8_sumOfTied (wsV RX8 46 RX2 yX2_cellCount wsX2_cellCount) := goodIn_app (goodIn_of _ (by decide +kernel)) ggX8_sumOfTied_X2_cellCount
set_option maxRecDepth 20000 in
theorem ggX8_sumOfTied_X8_votesOf : GoodIn wsX8_sumOfTied wsX8_votesOf := goodIn_r _ [13, 14, 15, 16, 17, 26, 27, 28, 29, 30, 31, 32, 33, 34] (by decide +kernel) (by decide +kernel)
set_option maxRecDepth 20000 in
theorem gX8_sumOfTied_X8_votesOf : GoodIn wsX8_sumOfTied (wsV RX8 105 RX8 yX8_votesOf wsX8_votesOf) := goodIn_app (goodIn_of _ (by decide +kernel)) ggX8_sumOfTied_X8_votesOf
set_option maxRecDepth 20000 in
theorem ggX8_sumOfTied_X2_rowOf : GoodIn wsX8_sumOfTied wsX2_rowOf := goodIn_r _ [21, 7, 35, 36, 37, 38, 39, 40, 41, 42] (by decide +kernel) (by decide +kernel)
set_option maxRecDepth 20000 in
theorem gX8_sumOfTied_X2_rowOf : GoodIn wsX8_sumOfTied (wsV RX8 108 RX2 yX2_rowOf wsX2_rowOf) := goodIn_app (goodIn_of _ (by decide +kernel)) ggX8_sumOfTied_X2_rowOf
set_option maxRecDepth 20000 in
theorem ggX8_sumOfTied_X2_columnOf : GoodIn wsX8_sumOfTied wsX2_columnOf := goodIn_r _ [25, 7, 35, 36, 37, 38, 39, 40, 41, 42] (by decide +kernel) (by decide +kernel)
set_option maxRecDepth 20000 in
theorem gX8_sumOfTied_X2_columnOf : GoodIn wsX8_sumOfTied (wsV RX8 111 RX2 yX2_columnOf wsX2_columnOf) := goodIn_app (goodIn_of _ (by decide +kernel)) ggX8_sumOfTied_X2_columnOf
theorem dX8_sumOfTied_0 : decode cX8_sumOfTied 0 = .ok (.iconst 0, 1) := by decide +kernel
theorem dX8_sumOfTied_1 : decode cX8_sumOfTied 1 = .ok (.istore_n 3, 1) := by decide +kernel
theorem dX8_sumOfTied_2 : decode cX8_sumOfTied 2 = .ok (.iconst 0, 1) := by decide +kernel
theorem dX8_sumOfTied_3 : decode cX8_sumOfTied 3 = .ok (.istore 4, 2) := by decide +kernel
theorem dX8_sumOfTied_5 : decode cX8_sumOfTied 5 = .ok (.iload 4, 2) := by decide +kernel
theorem dX8_sumOfTied_7 : decode cX8_sumOfTied 7 = .ok (.aload_n 1, 1) := by decide +kernel
theorem dX8_sumOfTied_8 : decode cX8_sumOfTied 8 = .ok (.invokevirtual 46, 3) := by decide +kernel
theorem dX8_sumOfTied_11 : decode cX8_sumOfTied 11 = .ok (.if_icmp .ge 48, 3) := by decide +kernel
theorem dX8_sumOfTied_14 : decode cX8_sumOfTied 14 = .ok (.aload_n 0, 1) := by decide +kernel
theorem dX8_sumOfTied_15 : decode cX8_sumOfTied 15 = .ok (.iload 4, 2) := by decide +kernel
theorem dX8_sumOfTied_17 : decode cX8_sumOfTied 17 = .ok (.invokevirtual 105, 3) := by decide +kernel
theorem dX8_sumOfTied_20 : decode cX8_sumOfTied 20 = .ok (.aload_n 0, 1) := by decide +kernel
theorem dX8_sumOfTied_21 : decode cX8_sumOfTied 21 = .ok (.aload_n 0, 1) := by decide +kernel
theorem dX8_sumOfTied_22 : decode cX8_sumOfTied 22 = .ok (.getfield 29, 3) := by decide +kernel
theorem dX8_sumOfTied_25 : decode cX8_sumOfTied 25 = .ok (.invokevirtual 105, 3) := by decide +kernel
theorem dX8_sumOfTied_28 : decode cX8_sumOfTied 28 = .ok (.if_icmp .ne 25, 3) := by decide +kernel
theorem dX8_sumOfTied_31 : decode cX8_sumOfTied 31 = .ok (.iload_n 3, 1) := by decide +kernel
theorem dX8_sumOfTied_32 : decode cX8_sumOfTied 32 = .ok (.iload_n 2, 1) := by decide +kernel
theorem dX8_sumOfTied_33 : decode cX8_sumOfTied 33 = .ok (.ifCond .eq 12, 3) := by decide +kernel
theorem dX8_sumOfTied_36 : decode cX8_sumOfTied 36 = .ok (.aload_n 1, 1) := by decide +kernel
theorem dX8_sumOfTied_37 : decode cX8_sumOfTied 37 = .ok (.iload 4, 2) := by decide +kernel
theorem dX8_sumOfTied_39 : decode cX8_sumOfTied 39 = .ok (.invokevirtual 108, 3) := by decide +kernel
theorem dX8_sumOfTied_42 : decode cX8_sumOfTied 42 = .ok (.goto 9, 3) := by decide +kernel
theorem dX8_sumOfTied_45 : decode cX8_sumOfTied 45 = .ok (.aload_n 1, 1) := by decide +kernel
theorem dX8_sumOfTied_46 : decode cX8_sumOfTied 46 = .ok (.iload 4, 2) := by decide +kernel
theorem dX8_sumOfTied_48 : decode cX8_sumOfTied 48 = .ok (.invokevirtual 111, 3) := by decide +kernel
theorem dX8_sumOfTied_51 : decode cX8_sumOfTied 51 = .ok (.iadd, 1) := by decide +kernel
theorem dX8_sumOfTied_52 : decode cX8_sumOfTied 52 = .ok (.istore_n 3, 1) := by decide +kernel
theorem dX8_sumOfTied_53 : decode cX8_sumOfTied 53 = .ok (.iinc 4 1, 3) := by decide +kernel
theorem dX8_sumOfTied_56 : decode cX8_sumOfTied 56 = .ok (.goto (-51), 3) := by decide +kernel
theorem dX8_sumOfTied_59 : decode cX8_sumOfTied 59 = .ok (.iload_n 3, 1) := by decide +kernel
theorem dX8_sumOfTied_60 : decode cX8_sumOfTied 60 = .ok (.ireturn, 1) := by decide +kernel
set_option maxRecDepth 20000 in
theorem ggX8_blameOf_X8_traceStarts : GoodIn wsX8_blameOf wsX8_traceStarts := goodIn_r _ [9, 3, 4, 10, 11, 12, 13, 14, 15, 16, 17, 18, 19, 20, 21, 22, 23, 24, 25, 26, 27, 28, 29, 30, 31, 32, 33, 34, 35, 36, 37, 38, 39, 40, 41, 42, 43, 44, 45, 46, 47, 48, 49, 50, 63, 64, 65, 66, 67, 68, 69, 70, 71, 72, 73, 74, 75, 76, 77, 78, 79, 80, 81, 82, 83] (by decide +kernel) (by decide +kernel)
set_option maxRecDepth 20000 in
theorem gX8_blameOf_X8_traceStarts : GoodIn wsX8_blameOf (wsV RX8 93 RX8 yX8_traceStarts wsX8_traceStarts) := goodIn_app (goodIn_of _ (by decide +kernel)) ggX8_blameOf_X8_traceStarts
set_option maxRecDepth 20000 in
theorem ggX8_blameOf_X2_setting : GoodIn wsX8_blameOf wsX2_setting := goodIn_r _ [54, 50, 40, 13, 14, 15, 16, 17, 18, 19, 20, 72, 73, 74, 75, 76, 77, 78, 79, 80, 81, 82, 83] (by decide +kernel) (by decide +kernel)
set_option maxRecDepth 20000 in
theorem gX8_blameOf_X2_setting : GoodIn wsX8_blameOf (wsV RX8 96 RX2 yX2_setting wsX2_setting) := goodIn_app (goodIn_of _ (by decide +kernel)) ggX8_blameOf_X2_setting
set_option maxRecDepth 20000 in
theorem ggX8_blameOf_X8_gapOf : GoodIn wsX8_blameOf wsX8_gapOf := goodIn_r _ [58, 10, 59, 60, 61, 62, 63, 64, 65, 66, 67, 68, 69, 70, 71] (by decide +kernel) (by decide +kernel)
set_option maxRecDepth 20000 in
theorem gX8_blameOf_X8_gapOf : GoodIn wsX8_blameOf (wsV RX8 99 RX8 yX8_gapOf wsX8_gapOf) := goodIn_app (goodIn_of _ (by decide +kernel)) ggX8_blameOf_X8_gapOf
theorem dX8_blameOf_0 : decode cX8_blameOf 0 = .ok (.aload_n 0, 1) := by decide +kernel
theorem dX8_blameOf_1 : decode cX8_blameOf 1 = .ok (.getfield 29, 3) := by decide +kernel
theorem dX8_blameOf_4 : decode cX8_blameOf 4 = .ok (.ldc 28, 2) := by decide +kernel
theorem dX8_blameOf_6 : decode cX8_blameOf 6 = .ok (.if_icmp .ne 6, 3) := by decide +kernel
theorem dX8_blameOf_9 : decode cX8_blameOf 9 = .ok (.ldc 28, 2) := by decide +kernel
theorem dX8_blameOf_11 : decode cX8_blameOf 11 = .ok (.ireturn, 1) := by decide +kernel
theorem dX8_blameOf_12 : decode cX8_blameOf 12 = .ok (.aload_n 0, 1) := by decide +kernel
theorem dX8_blameOf_13 : decode cX8_blameOf 13 = .ok (.aload_n 1, 1) := by decide +kernel
theorem dX8_blameOf_14 : decode cX8_blameOf 14 = .ok (.aload_n 0, 1) := by decide +kernel
theorem dX8_blameOf_15 : decode cX8_blameOf 15 = .ok (.getfield 29, 3) := by decide +kernel
theorem dX8_blameOf_18 : decode cX8_blameOf 18 = .ok (.invokevirtual 93, 3) := by decide +kernel
theorem dX8_blameOf_21 : decode cX8_blameOf 21 = .ok (.aload_n 1, 1) := by decide +kernel
theorem dX8_blameOf_22 : decode cX8_blameOf 22 = .ok (.bipush 6, 2) := by decide +kernel
theorem dX8_blameOf_24 : decode cX8_blameOf 24 = .ok (.invokevirtual 96, 3) := by decide +kernel
theorem dX8_blameOf_27 : decode cX8_blameOf 27 = .ok (.istore_n 3, 1) := by decide +kernel
theorem dX8_blameOf_28 : decode cX8_blameOf 28 = .ok (.iconst 0, 1) := by decide +kernel
theorem dX8_blameOf_29 : decode cX8_blameOf 29 = .ok (.istore 4, 2) := by decide +kernel
theorem dX8_blameOf_31 : decode cX8_blameOf 31 = .ok (.iconst 0, 1) := by decide +kernel
theorem dX8_blameOf_32 : decode cX8_blameOf 32 = .ok (.istore 5, 2) := by decide +kernel
theorem dX8_blameOf_34 : decode cX8_blameOf 34 = .ok (.iload 5, 2) := by decide +kernel
theorem dX8_blameOf_36 : decode cX8_blameOf 36 = .ok (.aload_n 0, 1) := by decide +kernel
theorem dX8_blameOf_37 : decode cX8_blameOf 37 = .ok (.getfield 24, 3) := by decide +kernel
theorem dX8_blameOf_40 : decode cX8_blameOf 40 = .ok (.if_icmp .ge 79, 3) := by decide +kernel
theorem dX8_blameOf_43 : decode cX8_blameOf 43 = .ok (.iload 5, 2) := by decide +kernel
theorem dX8_blameOf_45 : decode cX8_blameOf 45 = .ok (.iconst 1, 1) := by decide +kernel
theorem dX8_blameOf_46 : decode cX8_blameOf 46 = .ok (.iadd, 1) := by decide +kernel
theorem dX8_blameOf_47 : decode cX8_blameOf 47 = .ok (.istore 6, 2) := by decide +kernel
theorem dX8_blameOf_49 : decode cX8_blameOf 49 = .ok (.iload 6, 2) := by decide +kernel
theorem dX8_blameOf_51 : decode cX8_blameOf 51 = .ok (.aload_n 0, 1) := by decide +kernel
theorem dX8_blameOf_52 : decode cX8_blameOf 52 = .ok (.getfield 24, 3) := by decide +kernel
theorem dX8_blameOf_55 : decode cX8_blameOf 55 = .ok (.if_icmp .ge 58, 3) := by decide +kernel
theorem dX8_blameOf_58 : decode cX8_blameOf 58 = .ok (.aload_n 0, 1) := by decide +kernel
theorem dX8_blameOf_59 : decode cX8_blameOf 59 = .ok (.getfield 18, 3) := by decide +kernel
theorem dX8_blameOf_62 : decode cX8_blameOf 62 = .ok (.iload 5, 2) := by decide +kernel
theorem dX8_blameOf_64 : decode cX8_blameOf 64 = .ok (.iaload, 1) := by decide +kernel
theorem dX8_blameOf_65 : decode cX8_blameOf 65 = .ok (.iload_n 2, 1) := by decide +kernel
theorem dX8_blameOf_66 : decode cX8_blameOf 66 = .ok (.if_icmp .eq 14, 3) := by decide +kernel
theorem dX8_blameOf_69 : decode cX8_blameOf 69 = .ok (.aload_n 0, 1) := by decide +kernel
theorem dX8_blameOf_70 : decode cX8_blameOf 70 = .ok (.getfield 18, 3) := by decide +kernel
theorem dX8_blameOf_73 : decode cX8_blameOf 73 = .ok (.iload 6, 2) := by decide +kernel
theorem dX8_blameOf_75 : decode cX8_blameOf 75 = .ok (.iaload, 1) := by decide +kernel
theorem dX8_blameOf_76 : decode cX8_blameOf 76 = .ok (.iload_n 2, 1) := by decide +kernel
theorem dX8_blameOf_77 : decode cX8_blameOf 77 = .ok (.if_icmp .ne 7, 3) := by decide +kernel
theorem dX8_blameOf_80 : decode cX8_blameOf 80 = .ok (.iconst 1, 1) := by decide +kernel
theorem dX8_blameOf_81 : decode cX8_blameOf 81 = .ok (.goto 4, 3) := by decide +kernel
theorem dX8_blameOf_84 : decode cX8_blameOf 84 = .ok (.iconst 0, 1) := by decide +kernel
theorem dX8_blameOf_85 : decode cX8_blameOf 85 = .ok (.istore 7, 2) := by decide +kernel
theorem dX8_blameOf_87 : decode cX8_blameOf 87 = .ok (.iload 7, 2) := by decide +kernel
theorem dX8_blameOf_89 : decode cX8_blameOf 89 = .ok (.ifCond .eq 18, 3) := by decide +kernel
theorem dX8_blameOf_92 : decode cX8_blameOf 92 = .ok (.aload_n 0, 1) := by decide +kernel
theorem dX8_blameOf_93 : decode cX8_blameOf 93 = .ok (.iload 5, 2) := by decide +kernel
theorem dX8_blameOf_95 : decode cX8_blameOf 95 = .ok (.iload 6, 2) := by decide +kernel
theorem dX8_blameOf_97 : decode cX8_blameOf 97 = .ok (.invokevirtual 99, 3) := by decide +kernel
theorem dX8_blameOf_100 : decode cX8_blameOf 100 = .ok (.iload_n 3, 1) := by decide +kernel
theorem dX8_blameOf_101 : decode cX8_blameOf 101 = .ok (.if_icmp .le 6, 3) := by decide +kernel
theorem dX8_blameOf_104 : decode cX8_blameOf 104 = .ok (.iinc 4 1, 3) := by decide +kernel
theorem dX8_blameOf_107 : decode cX8_blameOf 107 = .ok (.iinc 6 1, 3) := by decide +kernel
theorem dX8_blameOf_110 : decode cX8_blameOf 110 = .ok (.goto (-61), 3) := by decide +kernel
theorem dX8_blameOf_113 : decode cX8_blameOf 113 = .ok (.iinc 5 1, 3) := by decide +kernel
theorem dX8_blameOf_116 : decode cX8_blameOf 116 = .ok (.goto (-82), 3) := by decide +kernel
theorem dX8_blameOf_119 : decode cX8_blameOf 119 = .ok (.iload 4, 2) := by decide +kernel
theorem dX8_blameOf_121 : decode cX8_blameOf 121 = .ok (.ireturn, 1) := by decide +kernel
set_option maxRecDepth 20000 in
theorem ggX8_mostBlamed_X8_blameOf : GoodIn wsX8_mostBlamed wsX8_blameOf := goodIn_r _ [8, 9, 1, 10, 11, 12, 13, 14, 7, 15, 16, 2, 17, 18, 19, 20, 21, 22, 23, 24, 25, 26, 27, 28, 29, 30, 31, 32, 33, 34, 35, 36, 37, 38, 39, 40, 41, 42, 43, 44, 45, 46, 47, 48, 49, 50, 51, 52, 53, 54, 55, 56, 57, 58, 59, 60, 61, 62, 63, 64, 65, 66, 67, 80, 81, 82, 83, 84, 85, 86, 87, 88, 68, 69, 70, 71, 72, 73, 74, 75, 76, 77, 78, 79] (by decide +kernel) (by decide +kernel)
set_option maxRecDepth 20000 in
theorem gX8_mostBlamed_X8_blameOf : GoodIn wsX8_mostBlamed (wsV RX8 114 RX8 yX8_blameOf wsX8_blameOf) := goodIn_app (goodIn_of _ (by decide +kernel)) ggX8_mostBlamed_X8_blameOf
theorem dX8_mostBlamed_0 : decode cX8_mostBlamed 0 = .ok (.ldc 28, 2) := by decide +kernel
theorem dX8_mostBlamed_2 : decode cX8_mostBlamed 2 = .ok (.istore_n 2, 1) := by decide +kernel
theorem dX8_mostBlamed_3 : decode cX8_mostBlamed 3 = .ok (.iconst 0, 1) := by decide +kernel
theorem dX8_mostBlamed_4 : decode cX8_mostBlamed 4 = .ok (.istore_n 3, 1) := by decide +kernel
theorem dX8_mostBlamed_5 : decode cX8_mostBlamed 5 = .ok (.iconst 0, 1) := by decide +kernel
theorem dX8_mostBlamed_6 : decode cX8_mostBlamed 6 = .ok (.istore 4, 2) := by decide +kernel
theorem dX8_mostBlamed_8 : decode cX8_mostBlamed 8 = .ok (.iload 4, 2) := by decide +kernel
theorem dX8_mostBlamed_10 : decode cX8_mostBlamed 10 = .ok (.aload_n 1, 1) := by decide +kernel
theorem dX8_mostBlamed_11 : decode cX8_mostBlamed 11 = .ok (.getfield 70, 3) := by decide +kernel
theorem dX8_mostBlamed_14 : decode cX8_mostBlamed 14 = .ok (.getfield 74, 3) := by decide +kernel
theorem dX8_mostBlamed_17 : decode cX8_mostBlamed 17 = .ok (.if_icmp .ge 30, 3) := by decide +kernel
theorem dX8_mostBlamed_20 : decode cX8_mostBlamed 20 = .ok (.aload_n 0, 1) := by decide +kernel
theorem dX8_mostBlamed_21 : decode cX8_mostBlamed 21 = .ok (.aload_n 1, 1) := by decide +kernel
theorem dX8_mostBlamed_22 : decode cX8_mostBlamed 22 = .ok (.iload 4, 2) := by decide +kernel
theorem dX8_mostBlamed_24 : decode cX8_mostBlamed 24 = .ok (.invokevirtual 114, 3) := by decide +kernel
theorem dX8_mostBlamed_27 : decode cX8_mostBlamed 27 = .ok (.istore 5, 2) := by decide +kernel
theorem dX8_mostBlamed_29 : decode cX8_mostBlamed 29 = .ok (.iload 5, 2) := by decide +kernel
theorem dX8_mostBlamed_31 : decode cX8_mostBlamed 31 = .ok (.iload_n 3, 1) := by decide +kernel
theorem dX8_mostBlamed_32 : decode cX8_mostBlamed 32 = .ok (.if_icmp .le 9, 3) := by decide +kernel
theorem dX8_mostBlamed_35 : decode cX8_mostBlamed 35 = .ok (.iload 4, 2) := by decide +kernel
theorem dX8_mostBlamed_37 : decode cX8_mostBlamed 37 = .ok (.istore_n 2, 1) := by decide +kernel
theorem dX8_mostBlamed_38 : decode cX8_mostBlamed 38 = .ok (.iload 5, 2) := by decide +kernel
theorem dX8_mostBlamed_40 : decode cX8_mostBlamed 40 = .ok (.istore_n 3, 1) := by decide +kernel
theorem dX8_mostBlamed_41 : decode cX8_mostBlamed 41 = .ok (.iinc 4 1, 3) := by decide +kernel
theorem dX8_mostBlamed_44 : decode cX8_mostBlamed 44 = .ok (.goto (-36), 3) := by decide +kernel
theorem dX8_mostBlamed_47 : decode cX8_mostBlamed 47 = .ok (.iload_n 2, 1) := by decide +kernel
theorem dX8_mostBlamed_48 : decode cX8_mostBlamed 48 = .ok (.ireturn, 1) := by decide +kernel
theorem dX9_init_0 : decode cX9_init 0 = .ok (.aload_n 0, 1) := by decide +kernel
theorem dX9_init_1 : decode cX9_init 1 = .ok (.invokespecial 3, 3) := by decide +kernel
theorem dX9_init_4 : decode cX9_init 4 = .ok (.aload_n 0, 1) := by decide +kernel
theorem dX9_init_5 : decode cX9_init 5 = .ok (.iconst 0, 1) := by decide +kernel
theorem dX9_init_6 : decode cX9_init 6 = .ok (.putfield 9, 3) := by decide +kernel
theorem dX9_init_9 : decode cX9_init 9 = .ok (.aload_n 0, 1) := by decide +kernel
theorem dX9_init_10 : decode cX9_init 10 = .ok (.iload_n 1, 1) := by decide +kernel
theorem dX9_init_11 : decode cX9_init 11 = .ok (.putfield 15, 3) := by decide +kernel
theorem dX9_init_14 : decode cX9_init 14 = .ok (.aload_n 0, 1) := by decide +kernel
theorem dX9_init_15 : decode cX9_init 15 = .ok (.iload_n 2, 1) := by decide +kernel
theorem dX9_init_16 : decode cX9_init 16 = .ok (.putfield 18, 3) := by decide +kernel
theorem dX9_init_19 : decode cX9_init 19 = .ok (.aload_n 0, 1) := by decide +kernel
theorem dX9_init_20 : decode cX9_init 20 = .ok (.iload_n 1, 1) := by decide +kernel
theorem dX9_init_21 : decode cX9_init 21 = .ok (.iload_n 2, 1) := by decide +kernel
theorem dX9_init_22 : decode cX9_init 22 = .ok (.imul, 1) := by decide +kernel
theorem dX9_init_23 : decode cX9_init 23 = .ok (.iconst 0, 1) := by decide +kernel
theorem dX9_init_24 : decode cX9_init 24 = .ok (.invokestatic 21, 3) := by decide +kernel
theorem dX9_init_27 : decode cX9_init 27 = .ok (.newarray .int, 2) := by decide +kernel
theorem dX9_init_29 : decode cX9_init 29 = .ok (.putfield 27, 3) := by decide +kernel
theorem dX9_init_32 : decode cX9_init 32 = .ok (.return_, 1) := by decide +kernel
theorem dX9_has_0 : decode cX9_has 0 = .ok (.iload_n 1, 1) := by decide +kernel
theorem dX9_has_1 : decode cX9_has 1 = .ok (.ifCond .lt 15, 3) := by decide +kernel
theorem dX9_has_4 : decode cX9_has 4 = .ok (.iload_n 1, 1) := by decide +kernel
theorem dX9_has_5 : decode cX9_has 5 = .ok (.aload_n 0, 1) := by decide +kernel
theorem dX9_has_6 : decode cX9_has 6 = .ok (.getfield 9, 3) := by decide +kernel
theorem dX9_has_9 : decode cX9_has 9 = .ok (.if_icmp .ge 7, 3) := by decide +kernel
theorem dX9_has_12 : decode cX9_has 12 = .ok (.iconst 1, 1) := by decide +kernel
theorem dX9_has_13 : decode cX9_has 13 = .ok (.goto 4, 3) := by decide +kernel
theorem dX9_has_16 : decode cX9_has 16 = .ok (.iconst 0, 1) := by decide +kernel
theorem dX9_has_17 : decode cX9_has 17 = .ok (.ireturn, 1) := by decide +kernel
theorem dX9_isFull_0 : decode cX9_isFull 0 = .ok (.aload_n 0, 1) := by decide +kernel
theorem dX9_isFull_1 : decode cX9_isFull 1 = .ok (.getfield 9, 3) := by decide +kernel
theorem dX9_isFull_4 : decode cX9_isFull 4 = .ok (.aload_n 0, 1) := by decide +kernel
theorem dX9_isFull_5 : decode cX9_isFull 5 = .ok (.getfield 15, 3) := by decide +kernel
theorem dX9_isFull_8 : decode cX9_isFull 8 = .ok (.if_icmp .lt 7, 3) := by decide +kernel
theorem dX9_isFull_11 : decode cX9_isFull 11 = .ok (.iconst 1, 1) := by decide +kernel
theorem dX9_isFull_12 : decode cX9_isFull 12 = .ok (.goto 4, 3) := by decide +kernel
theorem dX9_isFull_15 : decode cX9_isFull 15 = .ok (.iconst 0, 1) := by decide +kernel
theorem dX9_isFull_16 : decode cX9_isFull 16 = .ok (.ireturn, 1) := by decide +kernel
theorem dX9_at_0 : decode cX9_at 0 = .ok (.iload_n 1, 1) := by decide +kernel
theorem dX9_at_1 : decode cX9_at 1 = .ok (.ifCond .lt 23, 3) := by decide +kernel
theorem dX9_at_4 : decode cX9_at 4 = .ok (.iload_n 1, 1) := by decide +kernel
theorem dX9_at_5 : decode cX9_at 5 = .ok (.aload_n 0, 1) := by decide +kernel
theorem dX9_at_6 : decode cX9_at 6 = .ok (.getfield 9, 3) := by decide +kernel
theorem dX9_at_9 : decode cX9_at 9 = .ok (.if_icmp .ge 15, 3) := by decide +kernel
theorem dX9_at_12 : decode cX9_at 12 = .ok (.iload_n 2, 1) := by decide +kernel
theorem dX9_at_13 : decode cX9_at 13 = .ok (.ifCond .lt 11, 3) := by decide +kernel
theorem dX9_at_16 : decode cX9_at 16 = .ok (.iload_n 2, 1) := by decide +kernel
theorem dX9_at_17 : decode cX9_at 17 = .ok (.aload_n 0, 1) := by decide +kernel
theorem dX9_at_18 : decode cX9_at 18 = .ok (.getfield 18, 3) := by decide +kernel
theorem dX9_at_21 : decode cX9_at 21 = .ok (.if_icmp .lt 6, 3) := by decide +kernel
theorem dX9_at_24 : decode cX9_at 24 = .ok (.ldc 31, 2) := by decide +kernel
theorem dX9_at_26 : decode cX9_at 26 = .ok (.ireturn, 1) := by decide +kernel
theorem dX9_at_27 : decode cX9_at 27 = .ok (.aload_n 0, 1) := by decide +kernel
theorem dX9_at_28 : decode cX9_at 28 = .ok (.getfield 27, 3) := by decide +kernel
theorem dX9_at_31 : decode cX9_at 31 = .ok (.iload_n 1, 1) := by decide +kernel
theorem dX9_at_32 : decode cX9_at 32 = .ok (.aload_n 0, 1) := by decide +kernel
theorem dX9_at_33 : decode cX9_at 33 = .ok (.getfield 18, 3) := by decide +kernel
theorem dX9_at_36 : decode cX9_at 36 = .ok (.imul, 1) := by decide +kernel
theorem dX9_at_37 : decode cX9_at 37 = .ok (.iload_n 2, 1) := by decide +kernel
theorem dX9_at_38 : decode cX9_at 38 = .ok (.iadd, 1) := by decide +kernel
theorem dX9_at_39 : decode cX9_at 39 = .ok (.iaload, 1) := by decide +kernel
theorem dX9_at_40 : decode cX9_at 40 = .ok (.ireturn, 1) := by decide +kernel
theorem dX9_put_0 : decode cX9_put 0 = .ok (.iload_n 1, 1) := by decide +kernel
theorem dX9_put_1 : decode cX9_put 1 = .ok (.ifCond .lt 23, 3) := by decide +kernel
theorem dX9_put_4 : decode cX9_put 4 = .ok (.iload_n 1, 1) := by decide +kernel
theorem dX9_put_5 : decode cX9_put 5 = .ok (.aload_n 0, 1) := by decide +kernel
theorem dX9_put_6 : decode cX9_put 6 = .ok (.getfield 9, 3) := by decide +kernel
theorem dX9_put_9 : decode cX9_put 9 = .ok (.if_icmp .ge 15, 3) := by decide +kernel
theorem dX9_put_12 : decode cX9_put 12 = .ok (.iload_n 2, 1) := by decide +kernel
theorem dX9_put_13 : decode cX9_put 13 = .ok (.ifCond .lt 11, 3) := by decide +kernel
theorem dX9_put_16 : decode cX9_put 16 = .ok (.iload_n 2, 1) := by decide +kernel
theorem dX9_put_17 : decode cX9_put 17 = .ok (.aload_n 0, 1) := by decide +kernel
theorem dX9_put_18 : decode cX9_put 18 = .ok (.getfield 18, 3) := by decide +kernel
theorem dX9_put_21 : decode cX9_put 21 = .ok (.if_icmp .lt 4, 3) := by decide +kernel
theorem dX9_put_24 : decode cX9_put 24 = .ok (.return_, 1) := by decide +kernel
theorem dX9_put_25 : decode cX9_put 25 = .ok (.aload_n 0, 1) := by decide +kernel
theorem dX9_put_26 : decode cX9_put 26 = .ok (.getfield 27, 3) := by decide +kernel
theorem dX9_put_29 : decode cX9_put 29 = .ok (.iload_n 1, 1) := by decide +kernel
theorem dX9_put_30 : decode cX9_put 30 = .ok (.aload_n 0, 1) := by decide +kernel
theorem dX9_put_31 : decode cX9_put 31 = .ok (.getfield 18, 3) := by decide +kernel
theorem dX9_put_34 : decode cX9_put 34 = .ok (.imul, 1) := by decide +kernel
theorem dX9_put_35 : decode cX9_put 35 = .ok (.iload_n 2, 1) := by decide +kernel
theorem dX9_put_36 : decode cX9_put 36 = .ok (.iadd, 1) := by decide +kernel
theorem dX9_put_37 : decode cX9_put 37 = .ok (.iload_n 3, 1) := by decide +kernel
theorem dX9_put_38 : decode cX9_put 38 = .ok (.iastore, 1) := by decide +kernel
theorem dX9_put_39 : decode cX9_put 39 = .ok (.return_, 1) := by decide +kernel
set_option maxRecDepth 20000 in
theorem ggX9_addRow_X9_isFull : GoodIn wsX9_addRow wsX9_isFull := goodIn_r _ [8, 2, 9, 15, 16, 17, 18] (by decide +kernel) (by decide +kernel)
set_option maxRecDepth 20000 in
theorem gX9_addRow_X9_isFull : GoodIn wsX9_addRow (wsV RX9 32 RX9 yX9_isFull wsX9_isFull) := goodIn_app (goodIn_of _ (by decide +kernel)) ggX9_addRow_X9_isFull
set_option maxRecDepth 20000 in
theorem ggX9_addRow_X9_put : GoodIn wsX9_addRow wsX9_put := goodIn_r _ [13, 2, 3, 14, 15, 16, 17, 18] (by decide +kernel) (by decide +kernel)
set_option maxRecDepth 20000 in
theorem gX9_addRow_X9_put : GoodIn wsX9_addRow (wsV RX9 36 RX9 yX9_put wsX9_put) := goodIn_app (goodIn_of _ (by decide +kernel)) ggX9_addRow_X9_put
theorem dX9_addRow_0 : decode cX9_addRow 0 = .ok (.aload_n 0, 1) := by decide +kernel
theorem dX9_addRow_1 : decode cX9_addRow 1 = .ok (.invokevirtual 32, 3) := by decide +kernel
theorem dX9_addRow_4 : decode cX9_addRow 4 = .ok (.ifCond .eq 6, 3) := by decide +kernel
theorem dX9_addRow_7 : decode cX9_addRow 7 = .ok (.ldc 31, 2) := by decide +kernel
theorem dX9_addRow_9 : decode cX9_addRow 9 = .ok (.ireturn, 1) := by decide +kernel
theorem dX9_addRow_10 : decode cX9_addRow 10 = .ok (.aload_n 0, 1) := by decide +kernel
theorem dX9_addRow_11 : decode cX9_addRow 11 = .ok (.getfield 9, 3) := by decide +kernel
theorem dX9_addRow_14 : decode cX9_addRow 14 = .ok (.istore_n 1, 1) := by decide +kernel
theorem dX9_addRow_15 : decode cX9_addRow 15 = .ok (.aload_n 0, 1) := by decide +kernel
theorem dX9_addRow_16 : decode cX9_addRow 16 = .ok (.dup, 1) := by decide +kernel
theorem dX9_addRow_17 : decode cX9_addRow 17 = .ok (.getfield 9, 3) := by decide +kernel
theorem dX9_addRow_20 : decode cX9_addRow 20 = .ok (.iconst 1, 1) := by decide +kernel
theorem dX9_addRow_21 : decode cX9_addRow 21 = .ok (.iadd, 1) := by decide +kernel
theorem dX9_addRow_22 : decode cX9_addRow 22 = .ok (.putfield 9, 3) := by decide +kernel
theorem dX9_addRow_25 : decode cX9_addRow 25 = .ok (.iconst 0, 1) := by decide +kernel
theorem dX9_addRow_26 : decode cX9_addRow 26 = .ok (.istore_n 2, 1) := by decide +kernel
theorem dX9_addRow_27 : decode cX9_addRow 27 = .ok (.iload_n 2, 1) := by decide +kernel
theorem dX9_addRow_28 : decode cX9_addRow 28 = .ok (.aload_n 0, 1) := by decide +kernel
theorem dX9_addRow_29 : decode cX9_addRow 29 = .ok (.getfield 18, 3) := by decide +kernel
theorem dX9_addRow_32 : decode cX9_addRow 32 = .ok (.if_icmp .ge 17, 3) := by decide +kernel
theorem dX9_addRow_35 : decode cX9_addRow 35 = .ok (.aload_n 0, 1) := by decide +kernel
theorem dX9_addRow_36 : decode cX9_addRow 36 = .ok (.iload_n 1, 1) := by decide +kernel
theorem dX9_addRow_37 : decode cX9_addRow 37 = .ok (.iload_n 2, 1) := by decide +kernel
theorem dX9_addRow_38 : decode cX9_addRow 38 = .ok (.ldc 31, 2) := by decide +kernel
theorem dX9_addRow_40 : decode cX9_addRow 40 = .ok (.invokevirtual 36, 3) := by decide +kernel
theorem dX9_addRow_43 : decode cX9_addRow 43 = .ok (.iinc 2 1, 3) := by decide +kernel
theorem dX9_addRow_46 : decode cX9_addRow 46 = .ok (.goto (-19), 3) := by decide +kernel
theorem dX9_addRow_49 : decode cX9_addRow 49 = .ok (.iload_n 1, 1) := by decide +kernel
theorem dX9_addRow_50 : decode cX9_addRow 50 = .ok (.ireturn, 1) := by decide +kernel
set_option maxRecDepth 20000 in
theorem ggX9_dropRow_X9_has : GoodIn wsX9_dropRow wsX9_has := goodIn_r _ [12, 1, 13, 14, 15, 16] (by decide +kernel) (by decide +kernel)
set_option maxRecDepth 20000 in
theorem gX9_dropRow_X9_has : GoodIn wsX9_dropRow (wsV RX9 40 RX9 yX9_has wsX9_has) := goodIn_app (goodIn_of _ (by decide +kernel)) ggX9_dropRow_X9_has
theorem dX9_dropRow_0 : decode cX9_dropRow 0 = .ok (.aload_n 0, 1) := by decide +kernel
theorem dX9_dropRow_1 : decode cX9_dropRow 1 = .ok (.iload_n 1, 1) := by decide +kernel
theorem dX9_dropRow_2 : decode cX9_dropRow 2 = .ok (.invokevirtual 40, 3) := by decide +kernel
theorem dX9_dropRow_5 : decode cX9_dropRow 5 = .ok (.ifCond .ne 4, 3) := by decide +kernel
theorem dX9_dropRow_8 : decode cX9_dropRow 8 = .ok (.return_, 1) := by decide +kernel
theorem dX9_dropRow_9 : decode cX9_dropRow 9 = .ok (.aload_n 0, 1) := by decide +kernel
theorem dX9_dropRow_10 : decode cX9_dropRow 10 = .ok (.getfield 9, 3) := by decide +kernel
theorem dX9_dropRow_13 : decode cX9_dropRow 13 = .ok (.iload_n 1, 1) := by decide +kernel
theorem dX9_dropRow_14 : decode cX9_dropRow 14 = .ok (.isub, 1) := by decide +kernel
theorem dX9_dropRow_15 : decode cX9_dropRow 15 = .ok (.iconst 1, 1) := by decide +kernel
theorem dX9_dropRow_16 : decode cX9_dropRow 16 = .ok (.isub, 1) := by decide +kernel
theorem dX9_dropRow_17 : decode cX9_dropRow 17 = .ok (.aload_n 0, 1) := by decide +kernel
theorem dX9_dropRow_18 : decode cX9_dropRow 18 = .ok (.getfield 18, 3) := by decide +kernel
theorem dX9_dropRow_21 : decode cX9_dropRow 21 = .ok (.imul, 1) := by decide +kernel
theorem dX9_dropRow_22 : decode cX9_dropRow 22 = .ok (.istore_n 2, 1) := by decide +kernel
theorem dX9_dropRow_23 : decode cX9_dropRow 23 = .ok (.aload_n 0, 1) := by decide +kernel
theorem dX9_dropRow_24 : decode cX9_dropRow 24 = .ok (.getfield 27, 3) := by decide +kernel
theorem dX9_dropRow_27 : decode cX9_dropRow 27 = .ok (.iload_n 1, 1) := by decide +kernel
theorem dX9_dropRow_28 : decode cX9_dropRow 28 = .ok (.iconst 1, 1) := by decide +kernel
theorem dX9_dropRow_29 : decode cX9_dropRow 29 = .ok (.iadd, 1) := by decide +kernel
theorem dX9_dropRow_30 : decode cX9_dropRow 30 = .ok (.aload_n 0, 1) := by decide +kernel
theorem dX9_dropRow_31 : decode cX9_dropRow 31 = .ok (.getfield 18, 3) := by decide +kernel
theorem dX9_dropRow_34 : decode cX9_dropRow 34 = .ok (.imul, 1) := by decide +kernel
theorem dX9_dropRow_35 : decode cX9_dropRow 35 = .ok (.aload_n 0, 1) := by decide +kernel
theorem dX9_dropRow_36 : decode cX9_dropRow 36 = .ok (.getfield 27, 3) := by decide +kernel
theorem dX9_dropRow_39 : decode cX9_dropRow 39 = .ok (.iload_n 1, 1) := by decide +kernel
theorem dX9_dropRow_40 : decode cX9_dropRow 40 = .ok (.aload_n 0, 1) := by decide +kernel
theorem dX9_dropRow_41 : decode cX9_dropRow 41 = .ok (.getfield 18, 3) := by decide +kernel
theorem dX9_dropRow_44 : decode cX9_dropRow 44 = .ok (.imul, 1) := by decide +kernel
theorem dX9_dropRow_45 : decode cX9_dropRow 45 = .ok (.iload_n 2, 1) := by decide +kernel
theorem dX9_dropRow_46 : decode cX9_dropRow 46 = .ok (.invokestatic 44, 3) := by decide +kernel
theorem dX9_dropRow_49 : decode cX9_dropRow 49 = .ok (.aload_n 0, 1) := by decide +kernel
theorem dX9_dropRow_50 : decode cX9_dropRow 50 = .ok (.dup, 1) := by decide +kernel
theorem dX9_dropRow_51 : decode cX9_dropRow 51 = .ok (.getfield 9, 3) := by decide +kernel
theorem dX9_dropRow_54 : decode cX9_dropRow 54 = .ok (.iconst 1, 1) := by decide +kernel
theorem dX9_dropRow_55 : decode cX9_dropRow 55 = .ok (.isub, 1) := by decide +kernel
theorem dX9_dropRow_56 : decode cX9_dropRow 56 = .ok (.putfield 9, 3) := by decide +kernel
theorem dX9_dropRow_59 : decode cX9_dropRow 59 = .ok (.return_, 1) := by decide +kernel
theorem dX9_copyFrom_0 : decode cX9_copyFrom 0 = .ok (.aload_n 1, 1) := by decide +kernel
theorem dX9_copyFrom_1 : decode cX9_copyFrom 1 = .ok (.getfield 27, 3) := by decide +kernel
theorem dX9_copyFrom_4 : decode cX9_copyFrom 4 = .ok (.iconst 0, 1) := by decide +kernel
theorem dX9_copyFrom_5 : decode cX9_copyFrom 5 = .ok (.aload_n 0, 1) := by decide +kernel
theorem dX9_copyFrom_6 : decode cX9_copyFrom 6 = .ok (.getfield 27, 3) := by decide +kernel
theorem dX9_copyFrom_9 : decode cX9_copyFrom 9 = .ok (.iconst 0, 1) := by decide +kernel
theorem dX9_copyFrom_10 : decode cX9_copyFrom 10 = .ok (.aload_n 0, 1) := by decide +kernel
theorem dX9_copyFrom_11 : decode cX9_copyFrom 11 = .ok (.getfield 27, 3) := by decide +kernel
theorem dX9_copyFrom_14 : decode cX9_copyFrom 14 = .ok (.arraylength, 1) := by decide +kernel
theorem dX9_copyFrom_15 : decode cX9_copyFrom 15 = .ok (.aload_n 1, 1) := by decide +kernel
theorem dX9_copyFrom_16 : decode cX9_copyFrom 16 = .ok (.getfield 27, 3) := by decide +kernel
theorem dX9_copyFrom_19 : decode cX9_copyFrom 19 = .ok (.arraylength, 1) := by decide +kernel
theorem dX9_copyFrom_20 : decode cX9_copyFrom 20 = .ok (.invokestatic 50, 3) := by decide +kernel
theorem dX9_copyFrom_23 : decode cX9_copyFrom 23 = .ok (.invokestatic 44, 3) := by decide +kernel
theorem dX9_copyFrom_26 : decode cX9_copyFrom 26 = .ok (.aload_n 0, 1) := by decide +kernel
theorem dX9_copyFrom_27 : decode cX9_copyFrom 27 = .ok (.aload_n 1, 1) := by decide +kernel
theorem dX9_copyFrom_28 : decode cX9_copyFrom 28 = .ok (.getfield 9, 3) := by decide +kernel
theorem dX9_copyFrom_31 : decode cX9_copyFrom 31 = .ok (.putfield 9, 3) := by decide +kernel
theorem dX9_copyFrom_34 : decode cX9_copyFrom 34 = .ok (.return_, 1) := by decide +kernel
set_option maxRecDepth 20000 in
theorem ggX10_init_X2_init : GoodIn wsX10_init wsX2_init := goodIn_r _ [12, 13, 2, 3, 14, 15, 16, 17, 18, 19, 20, 21, 22, 23, 24, 25, 26, 27, 28, 29, 30, 31, 32, 33, 34, 35, 36, 37, 38, 39, 40, 41, 42, 43, 44, 45, 46, 47, 48, 49, 50, 51, 55, 56, 57, 58, 59, 60, 61, 62, 63, 64, 65, 66] (by decide +kernel) (by decide +kernel)
set_option maxRecDepth 20000 in
theorem gX10_init_X2_init : GoodIn wsX10_init (wsX2_init) := ggX10_init_X2_init
theorem dX10_init_0 : decode cX10_init 0 = .ok (.aload_n 0, 1) := by decide +kernel
theorem dX10_init_1 : decode cX10_init 1 = .ok (.invokespecial 3, 3) := by decide +kernel
theorem dX10_init_4 : decode cX10_init 4 = .ok (.aload_n 0, 1) := by decide +kernel
theorem dX10_init_5 : decode cX10_init 5 = .ok (.iconst 4, 1) := by decide +kernel
theorem dX10_init_6 : decode cX10_init 6 = .ok (.anewarray 9, 3) := by decide +kernel
theorem dX10_init_9 : decode cX10_init 9 = .ok (.putfield 11, 3) := by decide +kernel
theorem dX10_init_12 : decode cX10_init 12 = .ok (.aload_n 0, 1) := by decide +kernel
theorem dX10_init_13 : decode cX10_init 13 = .ok (.iconst 0, 1) := by decide +kernel
theorem dX10_init_14 : decode cX10_init 14 = .ok (.putfield 17, 3) := by decide +kernel
theorem dX10_init_17 : decode cX10_init 17 = .ok (.aload_n 0, 1) := by decide +kernel
theorem dX10_init_18 : decode cX10_init 18 = .ok (.iconst 0, 1) := by decide +kernel
theorem dX10_init_19 : decode cX10_init 19 = .ok (.putfield 21, 3) := by decide +kernel
theorem dX10_init_22 : decode cX10_init 22 = .ok (.iconst 0, 1) := by decide +kernel
theorem dX10_init_23 : decode cX10_init 23 = .ok (.istore_n 1, 1) := by decide +kernel
theorem dX10_init_24 : decode cX10_init 24 = .ok (.iload_n 1, 1) := by decide +kernel
theorem dX10_init_25 : decode cX10_init 25 = .ok (.iconst 4, 1) := by decide +kernel
theorem dX10_init_26 : decode cX10_init 26 = .ok (.if_icmp .ge 22, 3) := by decide +kernel
theorem dX10_init_29 : decode cX10_init 29 = .ok (.aload_n 0, 1) := by decide +kernel
theorem dX10_init_30 : decode cX10_init 30 = .ok (.getfield 11, 3) := by decide +kernel
theorem dX10_init_33 : decode cX10_init 33 = .ok (.iload_n 1, 1) := by decide +kernel
theorem dX10_init_34 : decode cX10_init 34 = .ok (.new 9, 3) := by decide +kernel
theorem dX10_init_37 : decode cX10_init 37 = .ok (.dup, 1) := by decide +kernel
theorem dX10_init_38 : decode cX10_init 38 = .ok (.invokespecial 24, 3) := by decide +kernel
theorem dX10_init_41 : decode cX10_init 41 = .ok (.aastore, 1) := by decide +kernel
theorem dX10_init_42 : decode cX10_init 42 = .ok (.iinc 1 1, 3) := by decide +kernel
theorem dX10_init_45 : decode cX10_init 45 = .ok (.goto (-21), 3) := by decide +kernel
theorem dX10_init_48 : decode cX10_init 48 = .ok (.return_, 1) := by decide +kernel
set_option maxRecDepth 20000 in
theorem ggX10_push_X2_copyFrom : GoodIn wsX10_push wsX2_copyFrom := goodIn_r _ [12, 13, 14, 15, 16, 17, 18, 19, 20, 21, 22, 23, 24, 25, 26, 27, 5, 6, 7, 28, 29, 30, 31, 32, 36, 37, 38, 39, 40, 41, 42, 43, 44, 45, 46, 47] (by decide +kernel) (by decide +kernel)
set_option maxRecDepth 20000 in
theorem gX10_push_X2_copyFrom : GoodIn wsX10_push (wsV RX10 25 RX2 yX2_copyFrom wsX2_copyFrom) := goodIn_app (goodIn_of _ (by decide +kernel)) ggX10_push_X2_copyFrom
theorem dX10_push_0 : decode cX10_push 0 = .ok (.aload_n 0, 1) := by decide +kernel
theorem dX10_push_1 : decode cX10_push 1 = .ok (.getfield 11, 3) := by decide +kernel
theorem dX10_push_4 : decode cX10_push 4 = .ok (.aload_n 0, 1) := by decide +kernel
theorem dX10_push_5 : decode cX10_push 5 = .ok (.getfield 17, 3) := by decide +kernel
theorem dX10_push_8 : decode cX10_push 8 = .ok (.aaload, 1) := by decide +kernel
theorem dX10_push_9 : decode cX10_push 9 = .ok (.astore_n 2, 1) := by decide +kernel
theorem dX10_push_10 : decode cX10_push 10 = .ok (.aload_n 2, 1) := by decide +kernel
theorem dX10_push_11 : decode cX10_push 11 = .ok (.ifnull 8, 3) := by decide +kernel
theorem dX10_push_14 : decode cX10_push 14 = .ok (.aload_n 2, 1) := by decide +kernel
theorem dX10_push_15 : decode cX10_push 15 = .ok (.aload_n 1, 1) := by decide +kernel
theorem dX10_push_16 : decode cX10_push 16 = .ok (.invokevirtual 25, 3) := by decide +kernel
theorem dX10_push_19 : decode cX10_push 19 = .ok (.aload_n 0, 1) := by decide +kernel
theorem dX10_push_20 : decode cX10_push 20 = .ok (.aload_n 0, 1) := by decide +kernel
theorem dX10_push_21 : decode cX10_push 21 = .ok (.getfield 17, 3) := by decide +kernel
theorem dX10_push_24 : decode cX10_push 24 = .ok (.iconst 1, 1) := by decide +kernel
theorem dX10_push_25 : decode cX10_push 25 = .ok (.iadd, 1) := by decide +kernel
theorem dX10_push_26 : decode cX10_push 26 = .ok (.iconst 4, 1) := by decide +kernel
theorem dX10_push_27 : decode cX10_push 27 = .ok (.irem, 1) := by decide +kernel
theorem dX10_push_28 : decode cX10_push 28 = .ok (.putfield 17, 3) := by decide +kernel
theorem dX10_push_31 : decode cX10_push 31 = .ok (.aload_n 0, 1) := by decide +kernel
theorem dX10_push_32 : decode cX10_push 32 = .ok (.aload_n 0, 1) := by decide +kernel
theorem dX10_push_33 : decode cX10_push 33 = .ok (.getfield 21, 3) := by decide +kernel
theorem dX10_push_36 : decode cX10_push 36 = .ok (.iconst 1, 1) := by decide +kernel
theorem dX10_push_37 : decode cX10_push 37 = .ok (.iadd, 1) := by decide +kernel
theorem dX10_push_38 : decode cX10_push 38 = .ok (.iconst 4, 1) := by decide +kernel
theorem dX10_push_39 : decode cX10_push 39 = .ok (.invokestatic 29, 3) := by decide +kernel
theorem dX10_push_42 : decode cX10_push 42 = .ok (.putfield 21, 3) := by decide +kernel
theorem dX10_push_45 : decode cX10_push 45 = .ok (.return_, 1) := by decide +kernel
set_option maxRecDepth 20000 in
theorem ggX10_pop_X2_copyFrom : GoodIn wsX10_pop wsX2_copyFrom := goodIn_r _ [8, 9, 10, 11, 12, 13, 14, 15, 16, 17, 18, 19, 20, 21, 22, 23, 24, 25, 26, 27, 28, 29, 30, 31, 35, 36, 37, 38, 39, 40, 41, 42, 43, 44, 45, 46] (by decide +kernel) (by decide +kernel)
set_option maxRecDepth 20000 in
theorem gX10_pop_X2_copyFrom : GoodIn wsX10_pop (wsV RX10 25 RX2 yX2_copyFrom wsX2_copyFrom) := goodIn_app (goodIn_of _ (by decide +kernel)) ggX10_pop_X2_copyFrom
theorem dX10_pop_0 : decode cX10_pop 0 = .ok (.aload_n 0, 1) := by decide +kernel
theorem dX10_pop_1 : decode cX10_pop 1 = .ok (.getfield 21, 3) := by decide +kernel
theorem dX10_pop_4 : decode cX10_pop 4 = .ok (.ifCond .ne 4, 3) := by decide +kernel
theorem dX10_pop_7 : decode cX10_pop 7 = .ok (.return_, 1) := by decide +kernel
theorem dX10_pop_8 : decode cX10_pop 8 = .ok (.aload_n 0, 1) := by decide +kernel
theorem dX10_pop_9 : decode cX10_pop 9 = .ok (.aload_n 0, 1) := by decide +kernel
theorem dX10_pop_10 : decode cX10_pop 10 = .ok (.getfield 17, 3) := by decide +kernel
theorem dX10_pop_13 : decode cX10_pop 13 = .ok (.iconst 4, 1) := by decide +kernel
theorem dX10_pop_14 : decode cX10_pop 14 = .ok (.iadd, 1) := by decide +kernel
theorem dX10_pop_15 : decode cX10_pop 15 = .ok (.iconst 1, 1) := by decide +kernel
theorem dX10_pop_16 : decode cX10_pop 16 = .ok (.isub, 1) := by decide +kernel
theorem dX10_pop_17 : decode cX10_pop 17 = .ok (.iconst 4, 1) := by decide +kernel
theorem dX10_pop_18 : decode cX10_pop 18 = .ok (.irem, 1) := by decide +kernel
theorem dX10_pop_19 : decode cX10_pop 19 = .ok (.putfield 17, 3) := by decide +kernel
theorem dX10_pop_22 : decode cX10_pop 22 = .ok (.aload_n 0, 1) := by decide +kernel
theorem dX10_pop_23 : decode cX10_pop 23 = .ok (.dup, 1) := by decide +kernel
theorem dX10_pop_24 : decode cX10_pop 24 = .ok (.getfield 21, 3) := by decide +kernel
theorem dX10_pop_27 : decode cX10_pop 27 = .ok (.iconst 1, 1) := by decide +kernel
theorem dX10_pop_28 : decode cX10_pop 28 = .ok (.isub, 1) := by decide +kernel
theorem dX10_pop_29 : decode cX10_pop 29 = .ok (.putfield 21, 3) := by decide +kernel
theorem dX10_pop_32 : decode cX10_pop 32 = .ok (.aload_n 0, 1) := by decide +kernel
theorem dX10_pop_33 : decode cX10_pop 33 = .ok (.getfield 11, 3) := by decide +kernel
theorem dX10_pop_36 : decode cX10_pop 36 = .ok (.aload_n 0, 1) := by decide +kernel
theorem dX10_pop_37 : decode cX10_pop 37 = .ok (.getfield 17, 3) := by decide +kernel
theorem dX10_pop_40 : decode cX10_pop 40 = .ok (.aaload, 1) := by decide +kernel
theorem dX10_pop_41 : decode cX10_pop 41 = .ok (.astore_n 2, 1) := by decide +kernel
theorem dX10_pop_42 : decode cX10_pop 42 = .ok (.aload_n 2, 1) := by decide +kernel
theorem dX10_pop_43 : decode cX10_pop 43 = .ok (.ifnull 8, 3) := by decide +kernel
theorem dX10_pop_46 : decode cX10_pop 46 = .ok (.aload_n 1, 1) := by decide +kernel
theorem dX10_pop_47 : decode cX10_pop 47 = .ok (.aload_n 2, 1) := by decide +kernel
theorem dX10_pop_48 : decode cX10_pop 48 = .ok (.invokevirtual 25, 3) := by decide +kernel
theorem dX10_pop_51 : decode cX10_pop 51 = .ok (.return_, 1) := by decide +kernel
