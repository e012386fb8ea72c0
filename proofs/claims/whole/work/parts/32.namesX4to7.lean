theorem dX4_init_0 : decode cX4_init 0 = .ok (.aload_n 0, 1) := by decide +kernel
theorem dX4_init_1 : decode cX4_init 1 = .ok (.invokespecial 5, 3) := by decide +kernel
theorem dX4_init_4 : decode cX4_init 4 = .ok (.aload_n 0, 1) := by decide +kernel
theorem dX4_init_5 : decode cX4_init 5 = .ok (.bipush 18, 2) := by decide +kernel
theorem dX4_init_7 : decode cX4_init 7 = .ok (.anewarray 13, 3) := by decide +kernel
theorem dX4_init_10 : decode cX4_init 10 = .ok (.putfield 15, 3) := by decide +kernel
theorem dX4_init_13 : decode cX4_init 13 = .ok (.aload_n 0, 1) := by decide +kernel
theorem dX4_init_14 : decode cX4_init 14 = .ok (.bipush 72, 2) := by decide +kernel
theorem dX4_init_16 : decode cX4_init 16 = .ok (.newarray .int, 2) := by decide +kernel
theorem dX4_init_18 : decode cX4_init 18 = .ok (.putfield 19, 3) := by decide +kernel
theorem dX4_init_21 : decode cX4_init 21 = .ok (.aload_n 0, 1) := by decide +kernel
theorem dX4_init_22 : decode cX4_init 22 = .ok (.iconst 0, 1) := by decide +kernel
theorem dX4_init_23 : decode cX4_init 23 = .ok (.putfield 23, 3) := by decide +kernel
theorem dX4_init_26 : decode cX4_init 26 = .ok (.aload_n 0, 1) := by decide +kernel
theorem dX4_init_27 : decode cX4_init 27 = .ok (.iconst 0, 1) := by decide +kernel
theorem dX4_init_28 : decode cX4_init 28 = .ok (.putfield 27, 3) := by decide +kernel
theorem dX4_init_31 : decode cX4_init 31 = .ok (.aload_n 0, 1) := by decide +kernel
theorem dX4_init_32 : decode cX4_init 32 = .ok (.iconst 0, 1) := by decide +kernel
theorem dX4_init_33 : decode cX4_init 33 = .ok (.putfield 30, 3) := by decide +kernel
theorem dX4_init_36 : decode cX4_init 36 = .ok (.aload_n 0, 1) := by decide +kernel
theorem dX4_init_37 : decode cX4_init 37 = .ok (.aconst_null, 1) := by decide +kernel
theorem dX4_init_38 : decode cX4_init 38 = .ok (.putfield 33, 3) := by decide +kernel
theorem dX4_init_41 : decode cX4_init 41 = .ok (.aload_n 0, 1) := by decide +kernel
theorem dX4_init_42 : decode cX4_init 42 = .ok (.iconst 0, 1) := by decide +kernel
theorem dX4_init_43 : decode cX4_init 43 = .ok (.putfield 37, 3) := by decide +kernel
theorem dX4_init_46 : decode cX4_init 46 = .ok (.aload_n 0, 1) := by decide +kernel
theorem dX4_init_47 : decode cX4_init 47 = .ok (.iconst 0, 1) := by decide +kernel
theorem dX4_init_48 : decode cX4_init 48 = .ok (.putfield 40, 3) := by decide +kernel
theorem dX4_init_51 : decode cX4_init 51 = .ok (.return_, 1) := by decide +kernel
set_option maxRecDepth 20000 in
theorem ggX4_commandOf_X11_isBetween : GoodIn wsX4_commandOf wsX11_isBetween := goodIn_r _ [4] (by decide +kernel) (by decide +kernel)
set_option maxRecDepth 20000 in
theorem gX4_commandOf_X11_isBetween_n43 : GoodIn wsX4_commandOf (wsX11_isBetween) := ggX4_commandOf_X11_isBetween
theorem dX4_commandOf_0 : decode cX4_commandOf 0 = .ok (.iload_n 1, 1) := by decide +kernel
theorem dX4_commandOf_1 : decode cX4_commandOf 1 = .ok (.iconst 0, 1) := by decide +kernel
theorem dX4_commandOf_2 : decode cX4_commandOf 2 = .ok (.bipush 17, 2) := by decide +kernel
theorem dX4_commandOf_4 : decode cX4_commandOf 4 = .ok (.invokestatic 43, 3) := by decide +kernel
theorem dX4_commandOf_7 : decode cX4_commandOf 7 = .ok (.ifCond .eq 12, 3) := by decide +kernel
theorem dX4_commandOf_10 : decode cX4_commandOf 10 = .ok (.aload_n 0, 1) := by decide +kernel
theorem dX4_commandOf_11 : decode cX4_commandOf 11 = .ok (.getfield 15, 3) := by decide +kernel
theorem dX4_commandOf_14 : decode cX4_commandOf 14 = .ok (.iload_n 1, 1) := by decide +kernel
theorem dX4_commandOf_15 : decode cX4_commandOf 15 = .ok (.aaload, 1) := by decide +kernel
theorem dX4_commandOf_16 : decode cX4_commandOf 16 = .ok (.goto 4, 3) := by decide +kernel
theorem dX4_commandOf_19 : decode cX4_commandOf 19 = .ok (.aconst_null, 1) := by decide +kernel
theorem dX4_commandOf_20 : decode cX4_commandOf 20 = .ok (.areturn, 1) := by decide +kernel
set_option maxRecDepth 20000 in
theorem ggX4_numberOf_X11_isBetween : GoodIn wsX4_numberOf wsX11_isBetween := goodIn_r _ [4] (by decide +kernel) (by decide +kernel)
set_option maxRecDepth 20000 in
theorem gX4_numberOf_X11_isBetween_n43 : GoodIn wsX4_numberOf (wsX11_isBetween) := ggX4_numberOf_X11_isBetween
theorem dX4_numberOf_0 : decode cX4_numberOf 0 = .ok (.iload_n 1, 1) := by decide +kernel
theorem dX4_numberOf_1 : decode cX4_numberOf 1 = .ok (.iconst 0, 1) := by decide +kernel
theorem dX4_numberOf_2 : decode cX4_numberOf 2 = .ok (.bipush 17, 2) := by decide +kernel
theorem dX4_numberOf_4 : decode cX4_numberOf 4 = .ok (.invokestatic 43, 3) := by decide +kernel
theorem dX4_numberOf_7 : decode cX4_numberOf 7 = .ok (.ifCond .eq 16, 3) := by decide +kernel
theorem dX4_numberOf_10 : decode cX4_numberOf 10 = .ok (.iload_n 2, 1) := by decide +kernel
theorem dX4_numberOf_11 : decode cX4_numberOf 11 = .ok (.iconst 0, 1) := by decide +kernel
theorem dX4_numberOf_12 : decode cX4_numberOf 12 = .ok (.iconst 3, 1) := by decide +kernel
theorem dX4_numberOf_13 : decode cX4_numberOf 13 = .ok (.invokestatic 43, 3) := by decide +kernel
theorem dX4_numberOf_16 : decode cX4_numberOf 16 = .ok (.ifCond .eq 7, 3) := by decide +kernel
theorem dX4_numberOf_19 : decode cX4_numberOf 19 = .ok (.iconst 1, 1) := by decide +kernel
theorem dX4_numberOf_20 : decode cX4_numberOf 20 = .ok (.goto 4, 3) := by decide +kernel
theorem dX4_numberOf_23 : decode cX4_numberOf 23 = .ok (.iconst 0, 1) := by decide +kernel
theorem dX4_numberOf_24 : decode cX4_numberOf 24 = .ok (.istore_n 3, 1) := by decide +kernel
theorem dX4_numberOf_25 : decode cX4_numberOf 25 = .ok (.iload_n 3, 1) := by decide +kernel
theorem dX4_numberOf_26 : decode cX4_numberOf 26 = .ok (.ifCond .eq 16, 3) := by decide +kernel
theorem dX4_numberOf_29 : decode cX4_numberOf 29 = .ok (.aload_n 0, 1) := by decide +kernel
theorem dX4_numberOf_30 : decode cX4_numberOf 30 = .ok (.getfield 19, 3) := by decide +kernel
theorem dX4_numberOf_33 : decode cX4_numberOf 33 = .ok (.iload_n 1, 1) := by decide +kernel
theorem dX4_numberOf_34 : decode cX4_numberOf 34 = .ok (.iconst 4, 1) := by decide +kernel
theorem dX4_numberOf_35 : decode cX4_numberOf 35 = .ok (.imul, 1) := by decide +kernel
theorem dX4_numberOf_36 : decode cX4_numberOf 36 = .ok (.iload_n 2, 1) := by decide +kernel
theorem dX4_numberOf_37 : decode cX4_numberOf 37 = .ok (.iadd, 1) := by decide +kernel
theorem dX4_numberOf_38 : decode cX4_numberOf 38 = .ok (.iaload, 1) := by decide +kernel
theorem dX4_numberOf_39 : decode cX4_numberOf 39 = .ok (.goto 4, 3) := by decide +kernel
theorem dX4_numberOf_42 : decode cX4_numberOf 42 = .ok (.iconst 0, 1) := by decide +kernel
theorem dX4_numberOf_43 : decode cX4_numberOf 43 = .ok (.ireturn, 1) := by decide +kernel
set_option maxRecDepth 20000 in
theorem ggX4_read_X4_step : GoodIn wsX4_read wsX4_step := goodIn_r _ [10, 2, 11, 12, 13, 14, 15, 16, 17, 18, 19, 20, 21, 22, 23, 9, 24, 4, 5, 25, 26, 27, 28, 29, 30, 31, 32, 33, 34, 35, 36, 37, 38, 39, 40, 41, 42, 43, 44, 45, 46, 47, 48, 49, 50, 51, 52, 53, 54, 55, 56, 57, 58, 59, 60, 61, 62, 63, 64, 65, 66, 67, 68, 69, 70, 71, 72, 73, 74, 75, 76, 77, 78, 79, 80, 81, 82, 83, 84, 85, 86, 87, 88, 89, 90, 91, 92, 93, 94, 95, 96, 97, 98, 99, 100, 101, 1, 102, 103, 104, 105, 106, 107, 108, 109, 110, 111, 112, 113, 114, 115, 116, 117, 118, 119, 120, 121, 122, 123, 124, 125, 126, 127, 128, 129, 130, 131, 132, 133] (by decide +kernel) (by decide +kernel)
set_option maxRecDepth 20000 in
theorem gX4_read_X4_step : GoodIn wsX4_read (wsV RX4 50 RX4 yX4_step wsX4_step) := goodIn_app (goodIn_of _ (by decide +kernel)) ggX4_read_X4_step
set_option maxRecDepth 20000 in
theorem ggX4_read_X5_commandAt : GoodIn wsX4_read wsX5_commandAt := goodIn_r _ [37, 38, 39, 40, 41, 14, 42, 43, 44, 45, 46, 47, 48, 49, 50, 51, 52, 53, 54, 55, 56, 57, 58, 59, 60, 61, 62, 63, 64, 65, 66, 67, 68, 69, 70, 71, 72, 73, 74, 75, 76, 77, 78, 79, 80, 81, 82, 83, 84, 85, 86, 87, 88, 89, 90, 91, 92, 12, 13, 15, 16, 17, 18, 19, 20, 132, 133] (by decide +kernel) (by decide +kernel)
set_option maxRecDepth 20000 in
theorem gX4_read_X5_commandAt : GoodIn wsX4_read (wsV RX4 55 RX5 yX5_commandAt wsX5_commandAt) := goodIn_app (goodIn_of _ (by decide +kernel)) ggX4_read_X5_commandAt
theorem dX4_read_0 : decode cX4_read 0 = .ok (.aload_n 0, 1) := by decide +kernel
theorem dX4_read_1 : decode cX4_read 1 = .ok (.iconst 0, 1) := by decide +kernel
theorem dX4_read_2 : decode cX4_read 2 = .ok (.putfield 23, 3) := by decide +kernel
theorem dX4_read_5 : decode cX4_read 5 = .ok (.aload_n 0, 1) := by decide +kernel
theorem dX4_read_6 : decode cX4_read 6 = .ok (.iconst 0, 1) := by decide +kernel
theorem dX4_read_7 : decode cX4_read 7 = .ok (.putfield 27, 3) := by decide +kernel
theorem dX4_read_10 : decode cX4_read 10 = .ok (.iconst 0, 1) := by decide +kernel
theorem dX4_read_11 : decode cX4_read 11 = .ok (.istore_n 2, 1) := by decide +kernel
theorem dX4_read_12 : decode cX4_read 12 = .ok (.iload_n 2, 1) := by decide +kernel
theorem dX4_read_13 : decode cX4_read 13 = .ok (.aload_n 1, 1) := by decide +kernel
theorem dX4_read_14 : decode cX4_read 14 = .ok (.getfield 47, 3) := by decide +kernel
theorem dX4_read_17 : decode cX4_read 17 = .ok (.if_icmp .ge 24, 3) := by decide +kernel
theorem dX4_read_20 : decode cX4_read 20 = .ok (.aload_n 0, 1) := by decide +kernel
theorem dX4_read_21 : decode cX4_read 21 = .ok (.aload_n 1, 1) := by decide +kernel
theorem dX4_read_22 : decode cX4_read 22 = .ok (.iload_n 2, 1) := by decide +kernel
theorem dX4_read_23 : decode cX4_read 23 = .ok (.invokevirtual 50, 3) := by decide +kernel
theorem dX4_read_26 : decode cX4_read 26 = .ok (.istore_n 3, 1) := by decide +kernel
theorem dX4_read_27 : decode cX4_read 27 = .ok (.iload_n 3, 1) := by decide +kernel
theorem dX4_read_28 : decode cX4_read 28 = .ok (.ldc 54, 2) := by decide +kernel
theorem dX4_read_30 : decode cX4_read 30 = .ok (.if_icmp .eq 5, 3) := by decide +kernel
theorem dX4_read_33 : decode cX4_read 33 = .ok (.iload_n 3, 1) := by decide +kernel
theorem dX4_read_34 : decode cX4_read 34 = .ok (.ireturn, 1) := by decide +kernel
theorem dX4_read_35 : decode cX4_read 35 = .ok (.iinc 2 1, 3) := by decide +kernel
theorem dX4_read_38 : decode cX4_read 38 = .ok (.goto (-26), 3) := by decide +kernel
theorem dX4_read_41 : decode cX4_read 41 = .ok (.aload_n 0, 1) := by decide +kernel
theorem dX4_read_42 : decode cX4_read 42 = .ok (.getfield 27, 3) := by decide +kernel
theorem dX4_read_45 : decode cX4_read 45 = .ok (.ifCond .ne 6, 3) := by decide +kernel
theorem dX4_read_48 : decode cX4_read 48 = .ok (.ldc 54, 2) := by decide +kernel
theorem dX4_read_50 : decode cX4_read 50 = .ok (.ireturn, 1) := by decide +kernel
theorem dX4_read_51 : decode cX4_read 51 = .ok (.aload_n 0, 1) := by decide +kernel
theorem dX4_read_52 : decode cX4_read 52 = .ok (.getfield 27, 3) := by decide +kernel
theorem dX4_read_55 : decode cX4_read 55 = .ok (.iconst 1, 1) := by decide +kernel
theorem dX4_read_56 : decode cX4_read 56 = .ok (.if_icmp .ne 22, 3) := by decide +kernel
theorem dX4_read_59 : decode cX4_read 59 = .ok (.aload_n 1, 1) := by decide +kernel
theorem dX4_read_60 : decode cX4_read 60 = .ok (.aload_n 0, 1) := by decide +kernel
theorem dX4_read_61 : decode cX4_read 61 = .ok (.getfield 30, 3) := by decide +kernel
theorem dX4_read_64 : decode cX4_read 64 = .ok (.aload_n 1, 1) := by decide +kernel
theorem dX4_read_65 : decode cX4_read 65 = .ok (.getfield 47, 3) := by decide +kernel
theorem dX4_read_68 : decode cX4_read 68 = .ok (.invokevirtual 55, 3) := by decide +kernel
theorem dX4_read_71 : decode cX4_read 71 = .ok (.ifnonnull 7, 3) := by decide +kernel
theorem dX4_read_74 : decode cX4_read 74 = .ok (.iconst 1, 1) := by decide +kernel
theorem dX4_read_75 : decode cX4_read 75 = .ok (.goto 4, 3) := by decide +kernel
theorem dX4_read_78 : decode cX4_read 78 = .ok (.iconst 0, 1) := by decide +kernel
theorem dX4_read_79 : decode cX4_read 79 = .ok (.istore_n 2, 1) := by decide +kernel
theorem dX4_read_80 : decode cX4_read 80 = .ok (.iload_n 2, 1) := by decide +kernel
theorem dX4_read_81 : decode cX4_read 81 = .ok (.ifCond .eq 10, 3) := by decide +kernel
theorem dX4_read_84 : decode cX4_read 84 = .ok (.aload_n 0, 1) := by decide +kernel
theorem dX4_read_85 : decode cX4_read 85 = .ok (.getfield 30, 3) := by decide +kernel
theorem dX4_read_88 : decode cX4_read 88 = .ok (.goto 7, 3) := by decide +kernel
theorem dX4_read_91 : decode cX4_read 91 = .ok (.aload_n 1, 1) := by decide +kernel
theorem dX4_read_92 : decode cX4_read 92 = .ok (.getfield 47, 3) := by decide +kernel
theorem dX4_read_95 : decode cX4_read 95 = .ok (.ireturn, 1) := by decide +kernel
set_option maxRecDepth 20000 in
theorem ggX4_step_X5_byteAt : GoodIn wsX4_step wsX5_byteAt := goodIn_r _ [6, 7, 8, 9, 10, 11, 127, 128] (by decide +kernel) (by decide +kernel)
set_option maxRecDepth 20000 in
theorem gX4_step_X5_byteAt : GoodIn wsX4_step (wsV RX4 59 RX5 yX5_byteAt wsX5_byteAt) := goodIn_app (goodIn_of _ (by decide +kernel)) ggX4_step_X5_byteAt
set_option maxRecDepth 20000 in
theorem ggX4_step_X4_stepInFront : GoodIn wsX4_step wsX4_stepInFront := goodIn_r _ [16, 17, 18, 1, 19, 20, 15, 21, 9, 10, 11, 119, 120, 121, 122, 123, 124, 125, 126] (by decide +kernel) (by decide +kernel)
set_option maxRecDepth 20000 in
theorem gX4_step_X4_stepInFront : GoodIn wsX4_step (wsV RX4 63 RX4 yX4_stepInFront wsX4_stepInFront) := goodIn_app (goodIn_of _ (by decide +kernel)) ggX4_step_X4_stepInFront
set_option maxRecDepth 20000 in
theorem ggX4_step_X4_stepInWord : GoodIn wsX4_step wsX4_stepInWord := goodIn_r _ [25, 17, 18, 26, 27, 1, 19, 20, 15, 21, 9, 10, 11, 28, 29, 30, 5, 31, 32, 33, 34, 35, 36, 37, 38, 39, 40, 41, 42, 43, 44, 45, 46, 47, 48, 49, 50, 51, 52, 53, 54, 55, 56, 57, 58, 59, 60, 61, 62, 63, 64, 65, 66, 67, 68, 69, 70, 71, 72, 73, 74, 75, 76, 77, 78, 79, 80, 81, 82, 83, 84, 85, 86, 3, 4, 6, 7, 8, 119, 120, 121, 122, 123, 124, 125, 126, 127, 128] (by decide +kernel) (by decide +kernel)
set_option maxRecDepth 20000 in
theorem gX4_step_X4_stepInWord : GoodIn wsX4_step (wsV RX4 67 RX4 yX4_stepInWord wsX4_stepInWord) := goodIn_app (goodIn_of _ (by decide +kernel)) ggX4_step_X4_stepInWord
set_option maxRecDepth 20000 in
theorem ggX4_step_X4_stepInGap : GoodIn wsX4_step wsX4_stepInGap := goodIn_r _ [90, 17, 91, 1, 92, 93, 94, 15, 95, 96, 97, 26, 98, 99, 100, 101, 27, 102, 103, 104, 105, 9, 10, 11, 106, 107, 108, 109, 110, 119, 120, 121, 122, 123, 124, 125, 126] (by decide +kernel) (by decide +kernel)
set_option maxRecDepth 20000 in
theorem gX4_step_X4_stepInGap : GoodIn wsX4_step (wsV RX4 71 RX4 yX4_stepInGap wsX4_stepInGap) := goodIn_app (goodIn_of _ (by decide +kernel)) ggX4_step_X4_stepInGap
set_option maxRecDepth 20000 in
theorem ggX4_step_X4_stepInNumber : GoodIn wsX4_step wsX4_stepInNumber := goodIn_r _ [114, 27, 1, 17, 91, 96, 92, 93, 94, 15, 95, 97, 26, 98, 99, 100, 101, 102, 103, 104, 105, 9, 10, 11, 115, 116, 117, 118, 110, 106, 107, 108, 109, 119, 120, 121, 122, 123, 124, 125, 126] (by decide +kernel) (by decide +kernel)
set_option maxRecDepth 20000 in
theorem gX4_step_X4_stepInNumber : GoodIn wsX4_step (wsV RX4 74 RX4 yX4_stepInNumber wsX4_stepInNumber) := goodIn_app (goodIn_of _ (by decide +kernel)) ggX4_step_X4_stepInNumber
theorem dX4_step_0 : decode cX4_step 0 = .ok (.aload_n 1, 1) := by decide +kernel
theorem dX4_step_1 : decode cX4_step 1 = .ok (.iload_n 2, 1) := by decide +kernel
theorem dX4_step_2 : decode cX4_step 2 = .ok (.invokevirtual 59, 3) := by decide +kernel
theorem dX4_step_5 : decode cX4_step 5 = .ok (.istore_n 3, 1) := by decide +kernel
theorem dX4_step_6 : decode cX4_step 6 = .ok (.aload_n 0, 1) := by decide +kernel
theorem dX4_step_7 : decode cX4_step 7 = .ok (.getfield 27, 3) := by decide +kernel
theorem dX4_step_10 : decode cX4_step 10 = .ok (.tableswitch 48 0 2 #[26, 33, 41], 26) := by decide +kernel
theorem dX4_step_36 : decode cX4_step 36 = .ok (.aload_n 0, 1) := by decide +kernel
theorem dX4_step_37 : decode cX4_step 37 = .ok (.iload_n 3, 1) := by decide +kernel
theorem dX4_step_38 : decode cX4_step 38 = .ok (.iload_n 2, 1) := by decide +kernel
theorem dX4_step_39 : decode cX4_step 39 = .ok (.invokevirtual 63, 3) := by decide +kernel
theorem dX4_step_42 : decode cX4_step 42 = .ok (.ireturn, 1) := by decide +kernel
theorem dX4_step_43 : decode cX4_step 43 = .ok (.aload_n 0, 1) := by decide +kernel
theorem dX4_step_44 : decode cX4_step 44 = .ok (.aload_n 1, 1) := by decide +kernel
theorem dX4_step_45 : decode cX4_step 45 = .ok (.iload_n 3, 1) := by decide +kernel
theorem dX4_step_46 : decode cX4_step 46 = .ok (.iload_n 2, 1) := by decide +kernel
theorem dX4_step_47 : decode cX4_step 47 = .ok (.invokevirtual 67, 3) := by decide +kernel
theorem dX4_step_50 : decode cX4_step 50 = .ok (.ireturn, 1) := by decide +kernel
theorem dX4_step_51 : decode cX4_step 51 = .ok (.aload_n 0, 1) := by decide +kernel
theorem dX4_step_52 : decode cX4_step 52 = .ok (.iload_n 3, 1) := by decide +kernel
theorem dX4_step_53 : decode cX4_step 53 = .ok (.iload_n 2, 1) := by decide +kernel
theorem dX4_step_54 : decode cX4_step 54 = .ok (.invokevirtual 71, 3) := by decide +kernel
theorem dX4_step_57 : decode cX4_step 57 = .ok (.ireturn, 1) := by decide +kernel
theorem dX4_step_58 : decode cX4_step 58 = .ok (.aload_n 0, 1) := by decide +kernel
theorem dX4_step_59 : decode cX4_step 59 = .ok (.iload_n 3, 1) := by decide +kernel
theorem dX4_step_60 : decode cX4_step 60 = .ok (.iload_n 2, 1) := by decide +kernel
theorem dX4_step_61 : decode cX4_step 61 = .ok (.invokevirtual 74, 3) := by decide +kernel
theorem dX4_step_64 : decode cX4_step 64 = .ok (.ireturn, 1) := by decide +kernel
set_option maxRecDepth 20000 in
theorem ggX4_stepInFront_X4_isLetter : GoodIn wsX4_stepInFront wsX4_isLetter := goodIn_r _ [7, 8, 9, 10] (by decide +kernel) (by decide +kernel)
set_option maxRecDepth 20000 in
theorem gX4_stepInFront_X4_isLetter : GoodIn wsX4_stepInFront (va_wsS RX4 77 yX4_isLetter wsX4_isLetter) := goodIn_app (goodIn_of _ (by decide +kernel)) ggX4_stepInFront_X4_isLetter
theorem dX4_stepInFront_0 : decode cX4_stepInFront 0 = .ok (.iload_n 1, 1) := by decide +kernel
theorem dX4_stepInFront_1 : decode cX4_stepInFront 1 = .ok (.bipush 32, 2) := by decide +kernel
theorem dX4_stepInFront_3 : decode cX4_stepInFront 3 = .ok (.if_icmp .ne 6, 3) := by decide +kernel
theorem dX4_stepInFront_6 : decode cX4_stepInFront 6 = .ok (.ldc 54, 2) := by decide +kernel
theorem dX4_stepInFront_8 : decode cX4_stepInFront 8 = .ok (.ireturn, 1) := by decide +kernel
theorem dX4_stepInFront_9 : decode cX4_stepInFront 9 = .ok (.iload_n 1, 1) := by decide +kernel
theorem dX4_stepInFront_10 : decode cX4_stepInFront 10 = .ok (.invokestatic 77, 3) := by decide +kernel
theorem dX4_stepInFront_13 : decode cX4_stepInFront 13 = .ok (.ifCond .ne 5, 3) := by decide +kernel
theorem dX4_stepInFront_16 : decode cX4_stepInFront 16 = .ok (.iload_n 2, 1) := by decide +kernel
theorem dX4_stepInFront_17 : decode cX4_stepInFront 17 = .ok (.ireturn, 1) := by decide +kernel
theorem dX4_stepInFront_18 : decode cX4_stepInFront 18 = .ok (.aload_n 0, 1) := by decide +kernel
theorem dX4_stepInFront_19 : decode cX4_stepInFront 19 = .ok (.iload_n 2, 1) := by decide +kernel
theorem dX4_stepInFront_20 : decode cX4_stepInFront 20 = .ok (.putfield 30, 3) := by decide +kernel
theorem dX4_stepInFront_23 : decode cX4_stepInFront 23 = .ok (.aload_n 0, 1) := by decide +kernel
theorem dX4_stepInFront_24 : decode cX4_stepInFront 24 = .ok (.iconst 1, 1) := by decide +kernel
theorem dX4_stepInFront_25 : decode cX4_stepInFront 25 = .ok (.putfield 27, 3) := by decide +kernel
theorem dX4_stepInFront_28 : decode cX4_stepInFront 28 = .ok (.ldc 54, 2) := by decide +kernel
theorem dX4_stepInFront_30 : decode cX4_stepInFront 30 = .ok (.ireturn, 1) := by decide +kernel
set_option maxRecDepth 20000 in
theorem ggX4_stepInWord_X4_isLetter : GoodIn wsX4_stepInWord wsX4_isLetter := goodIn_r _ [9, 10, 11, 12] (by decide +kernel) (by decide +kernel)
set_option maxRecDepth 20000 in
theorem gX4_stepInWord_X4_isLetter : GoodIn wsX4_stepInWord (va_wsS RX4 77 yX4_isLetter wsX4_isLetter) := goodIn_app (goodIn_of _ (by decide +kernel)) ggX4_stepInWord_X4_isLetter
set_option maxRecDepth 20000 in
theorem ggX4_stepInWord_X5_commandAt : GoodIn wsX4_stepInWord wsX5_commandAt := goodIn_r _ [17, 18, 19, 20, 21, 16, 22, 23, 24, 25, 26, 27, 28, 29, 30, 31, 32, 33, 34, 35, 36, 37, 38, 39, 40, 41, 42, 43, 44, 45, 46, 47, 48, 49, 50, 51, 52, 53, 54, 55, 56, 57, 58, 59, 60, 61, 62, 63, 64, 65, 66, 67, 68, 69, 70, 71, 72, 73, 74, 75, 76, 77, 10, 11, 12, 86, 87] (by decide +kernel) (by decide +kernel)
set_option maxRecDepth 20000 in
theorem gX4_stepInWord_X5_commandAt : GoodIn wsX4_stepInWord (wsV RX4 55 RX5 yX5_commandAt wsX5_commandAt) := goodIn_app (goodIn_of _ (by decide +kernel)) ggX4_stepInWord_X5_commandAt
theorem dX4_stepInWord_0 : decode cX4_stepInWord 0 = .ok (.iload_n 2, 1) := by decide +kernel
theorem dX4_stepInWord_1 : decode cX4_stepInWord 1 = .ok (.invokestatic 77, 3) := by decide +kernel
theorem dX4_stepInWord_4 : decode cX4_stepInWord 4 = .ok (.ifCond .eq 6, 3) := by decide +kernel
theorem dX4_stepInWord_7 : decode cX4_stepInWord 7 = .ok (.ldc 54, 2) := by decide +kernel
theorem dX4_stepInWord_9 : decode cX4_stepInWord 9 = .ok (.ireturn, 1) := by decide +kernel
theorem dX4_stepInWord_10 : decode cX4_stepInWord 10 = .ok (.aload_n 0, 1) := by decide +kernel
theorem dX4_stepInWord_11 : decode cX4_stepInWord 11 = .ok (.aload_n 1, 1) := by decide +kernel
theorem dX4_stepInWord_12 : decode cX4_stepInWord 12 = .ok (.aload_n 0, 1) := by decide +kernel
theorem dX4_stepInWord_13 : decode cX4_stepInWord 13 = .ok (.getfield 30, 3) := by decide +kernel
theorem dX4_stepInWord_16 : decode cX4_stepInWord 16 = .ok (.iload_n 3, 1) := by decide +kernel
theorem dX4_stepInWord_17 : decode cX4_stepInWord 17 = .ok (.invokevirtual 55, 3) := by decide +kernel
theorem dX4_stepInWord_20 : decode cX4_stepInWord 20 = .ok (.putfield 33, 3) := by decide +kernel
theorem dX4_stepInWord_23 : decode cX4_stepInWord 23 = .ok (.aload_n 0, 1) := by decide +kernel
theorem dX4_stepInWord_24 : decode cX4_stepInWord 24 = .ok (.getfield 33, 3) := by decide +kernel
theorem dX4_stepInWord_27 : decode cX4_stepInWord 27 = .ok (.ifnonnull 8, 3) := by decide +kernel
theorem dX4_stepInWord_30 : decode cX4_stepInWord 30 = .ok (.aload_n 0, 1) := by decide +kernel
theorem dX4_stepInWord_31 : decode cX4_stepInWord 31 = .ok (.getfield 30, 3) := by decide +kernel
theorem dX4_stepInWord_34 : decode cX4_stepInWord 34 = .ok (.ireturn, 1) := by decide +kernel
theorem dX4_stepInWord_35 : decode cX4_stepInWord 35 = .ok (.iload_n 2, 1) := by decide +kernel
theorem dX4_stepInWord_36 : decode cX4_stepInWord 36 = .ok (.bipush 32, 2) := by decide +kernel
theorem dX4_stepInWord_38 : decode cX4_stepInWord 38 = .ok (.if_icmp .eq 5, 3) := by decide +kernel
theorem dX4_stepInWord_41 : decode cX4_stepInWord 41 = .ok (.iload_n 3, 1) := by decide +kernel
theorem dX4_stepInWord_42 : decode cX4_stepInWord 42 = .ok (.ireturn, 1) := by decide +kernel
theorem dX4_stepInWord_43 : decode cX4_stepInWord 43 = .ok (.aload_n 0, 1) := by decide +kernel
theorem dX4_stepInWord_44 : decode cX4_stepInWord 44 = .ok (.iconst 0, 1) := by decide +kernel
theorem dX4_stepInWord_45 : decode cX4_stepInWord 45 = .ok (.putfield 37, 3) := by decide +kernel
theorem dX4_stepInWord_48 : decode cX4_stepInWord 48 = .ok (.aload_n 0, 1) := by decide +kernel
theorem dX4_stepInWord_49 : decode cX4_stepInWord 49 = .ok (.iconst 2, 1) := by decide +kernel
theorem dX4_stepInWord_50 : decode cX4_stepInWord 50 = .ok (.putfield 27, 3) := by decide +kernel
theorem dX4_stepInWord_53 : decode cX4_stepInWord 53 = .ok (.ldc 54, 2) := by decide +kernel
theorem dX4_stepInWord_55 : decode cX4_stepInWord 55 = .ok (.ireturn, 1) := by decide +kernel
set_option maxRecDepth 20000 in
theorem ggX4_stepInGap_X4_endCommand : GoodIn wsX4_stepInGap wsX4_endCommand := goodIn_r _ [8, 9, 10, 11, 3, 1, 12, 13, 14, 7, 15, 16, 17, 29, 30, 31, 32, 33, 34, 35, 36] (by decide +kernel) (by decide +kernel)
set_option maxRecDepth 20000 in
theorem gX4_stepInGap_X4_endCommand : GoodIn wsX4_stepInGap (wsV RX4 81 RX4 yX4_endCommand wsX4_endCommand) := goodIn_app (goodIn_of _ (by decide +kernel)) ggX4_stepInGap_X4_endCommand
set_option maxRecDepth 20000 in
theorem ggX4_stepInGap_X4_isDigit : GoodIn wsX4_stepInGap wsX4_isDigit := goodIn_r _ [20, 21, 22, 23] (by decide +kernel) (by decide +kernel)
set_option maxRecDepth 20000 in
theorem gX4_stepInGap_X4_isDigit : GoodIn wsX4_stepInGap (va_wsS RX4 84 yX4_isDigit wsX4_isDigit) := goodIn_app (goodIn_of _ (by decide +kernel)) ggX4_stepInGap_X4_isDigit
set_option maxRecDepth 20000 in
theorem ggX4_stepInGap_X4_hasAllNumbers : GoodIn wsX4_stepInGap wsX4_hasAllNumbers := goodIn_r _ [15, 11, 16, 17, 29, 30, 31, 32, 33, 34, 35, 36] (by decide +kernel) (by decide +kernel)
set_option maxRecDepth 20000 in
theorem gX4_stepInGap_X4_hasAllNumbers : GoodIn wsX4_stepInGap (wsV RX4 87 RX4 yX4_hasAllNumbers wsX4_hasAllNumbers) := goodIn_app (goodIn_of _ (by decide +kernel)) ggX4_stepInGap_X4_hasAllNumbers
set_option maxRecDepth 20000 in
theorem ggX4_stepInGap_X4_putNumber : GoodIn wsX4_stepInGap wsX4_putNumber := goodIn_r _ [27, 9, 16, 28, 29, 30, 31, 32, 33, 34, 35, 36] (by decide +kernel) (by decide +kernel)
set_option maxRecDepth 20000 in
theorem gX4_stepInGap_X4_putNumber : GoodIn wsX4_stepInGap (wsV RX4 91 RX4 yX4_putNumber wsX4_putNumber) := goodIn_app (goodIn_of _ (by decide +kernel)) ggX4_stepInGap_X4_putNumber
theorem dX4_stepInGap_0 : decode cX4_stepInGap 0 = .ok (.iload_n 1, 1) := by decide +kernel
theorem dX4_stepInGap_1 : decode cX4_stepInGap 1 = .ok (.bipush 32, 2) := by decide +kernel
theorem dX4_stepInGap_3 : decode cX4_stepInGap 3 = .ok (.if_icmp .ne 6, 3) := by decide +kernel
theorem dX4_stepInGap_6 : decode cX4_stepInGap 6 = .ok (.ldc 54, 2) := by decide +kernel
theorem dX4_stepInGap_8 : decode cX4_stepInGap 8 = .ok (.ireturn, 1) := by decide +kernel
theorem dX4_stepInGap_9 : decode cX4_stepInGap 9 = .ok (.iload_n 1, 1) := by decide +kernel
theorem dX4_stepInGap_10 : decode cX4_stepInGap 10 = .ok (.bipush 59, 2) := by decide +kernel
theorem dX4_stepInGap_12 : decode cX4_stepInGap 12 = .ok (.if_icmp .ne 9, 3) := by decide +kernel
theorem dX4_stepInGap_15 : decode cX4_stepInGap 15 = .ok (.aload_n 0, 1) := by decide +kernel
theorem dX4_stepInGap_16 : decode cX4_stepInGap 16 = .ok (.iload_n 2, 1) := by decide +kernel
theorem dX4_stepInGap_17 : decode cX4_stepInGap 17 = .ok (.invokevirtual 81, 3) := by decide +kernel
theorem dX4_stepInGap_20 : decode cX4_stepInGap 20 = .ok (.ireturn, 1) := by decide +kernel
theorem dX4_stepInGap_21 : decode cX4_stepInGap 21 = .ok (.iload_n 1, 1) := by decide +kernel
theorem dX4_stepInGap_22 : decode cX4_stepInGap 22 = .ok (.invokestatic 84, 3) := by decide +kernel
theorem dX4_stepInGap_25 : decode cX4_stepInGap 25 = .ok (.ifCond .eq 10, 3) := by decide +kernel
theorem dX4_stepInGap_28 : decode cX4_stepInGap 28 = .ok (.aload_n 0, 1) := by decide +kernel
theorem dX4_stepInGap_29 : decode cX4_stepInGap 29 = .ok (.invokevirtual 87, 3) := by decide +kernel
theorem dX4_stepInGap_32 : decode cX4_stepInGap 32 = .ok (.ifCond .eq 5, 3) := by decide +kernel
theorem dX4_stepInGap_35 : decode cX4_stepInGap 35 = .ok (.iload_n 2, 1) := by decide +kernel
theorem dX4_stepInGap_36 : decode cX4_stepInGap 36 = .ok (.ireturn, 1) := by decide +kernel
theorem dX4_stepInGap_37 : decode cX4_stepInGap 37 = .ok (.aload_n 0, 1) := by decide +kernel
theorem dX4_stepInGap_38 : decode cX4_stepInGap 38 = .ok (.iload_n 1, 1) := by decide +kernel
theorem dX4_stepInGap_39 : decode cX4_stepInGap 39 = .ok (.bipush 48, 2) := by decide +kernel
theorem dX4_stepInGap_41 : decode cX4_stepInGap 41 = .ok (.isub, 1) := by decide +kernel
theorem dX4_stepInGap_42 : decode cX4_stepInGap 42 = .ok (.invokevirtual 91, 3) := by decide +kernel
theorem dX4_stepInGap_45 : decode cX4_stepInGap 45 = .ok (.aload_n 0, 1) := by decide +kernel
theorem dX4_stepInGap_46 : decode cX4_stepInGap 46 = .ok (.iconst 1, 1) := by decide +kernel
theorem dX4_stepInGap_47 : decode cX4_stepInGap 47 = .ok (.putfield 40, 3) := by decide +kernel
theorem dX4_stepInGap_50 : decode cX4_stepInGap 50 = .ok (.aload_n 0, 1) := by decide +kernel
theorem dX4_stepInGap_51 : decode cX4_stepInGap 51 = .ok (.iconst 3, 1) := by decide +kernel
theorem dX4_stepInGap_52 : decode cX4_stepInGap 52 = .ok (.putfield 27, 3) := by decide +kernel
theorem dX4_stepInGap_55 : decode cX4_stepInGap 55 = .ok (.ldc 54, 2) := by decide +kernel
theorem dX4_stepInGap_57 : decode cX4_stepInGap 57 = .ok (.ireturn, 1) := by decide +kernel
set_option maxRecDepth 20000 in
theorem ggX4_stepInNumber_X4_endCommand : GoodIn wsX4_stepInNumber wsX4_endCommand := goodIn_r _ [10, 5, 11, 12, 2, 3, 13, 14, 15, 9, 16, 1, 17, 33, 34, 35, 36, 37, 38, 39, 40] (by decide +kernel) (by decide +kernel)
set_option maxRecDepth 20000 in
theorem gX4_stepInNumber_X4_endCommand : GoodIn wsX4_stepInNumber (wsV RX4 81 RX4 yX4_endCommand wsX4_endCommand) := goodIn_app (goodIn_of _ (by decide +kernel)) ggX4_stepInNumber_X4_endCommand
set_option maxRecDepth 20000 in
theorem ggX4_stepInNumber_X4_isDigit : GoodIn wsX4_stepInNumber wsX4_isDigit := goodIn_r _ [20, 21, 22, 23] (by decide +kernel) (by decide +kernel)
set_option maxRecDepth 20000 in
theorem gX4_stepInNumber_X4_isDigit : GoodIn wsX4_stepInNumber (va_wsS RX4 84 yX4_isDigit wsX4_isDigit) := goodIn_app (goodIn_of _ (by decide +kernel)) ggX4_stepInNumber_X4_isDigit
set_option maxRecDepth 20000 in
theorem ggX4_stepInNumber_X4_numberOf : GoodIn wsX4_stepInNumber wsX4_numberOf := goodIn_r _ [27, 28, 21, 22, 23, 33, 34, 35, 36, 37, 38, 39, 40] (by decide +kernel) (by decide +kernel)
set_option maxRecDepth 20000 in
theorem gX4_stepInNumber_X4_numberOf : GoodIn wsX4_stepInNumber (wsV RX4 95 RX4 yX4_numberOf wsX4_numberOf) := goodIn_app (goodIn_of _ (by decide +kernel)) ggX4_stepInNumber_X4_numberOf
set_option maxRecDepth 20000 in
theorem ggX4_stepInNumber_X4_putNumber : GoodIn wsX4_stepInNumber wsX4_putNumber := goodIn_r _ [32, 5, 1, 28, 33, 34, 35, 36, 37, 38, 39, 40] (by decide +kernel) (by decide +kernel)
set_option maxRecDepth 20000 in
theorem gX4_stepInNumber_X4_putNumber : GoodIn wsX4_stepInNumber (wsV RX4 91 RX4 yX4_putNumber wsX4_putNumber) := goodIn_app (goodIn_of _ (by decide +kernel)) ggX4_stepInNumber_X4_putNumber
theorem dX4_stepInNumber_0 : decode cX4_stepInNumber 0 = .ok (.iload_n 1, 1) := by decide +kernel
theorem dX4_stepInNumber_1 : decode cX4_stepInNumber 1 = .ok (.bipush 32, 2) := by decide +kernel
theorem dX4_stepInNumber_3 : decode cX4_stepInNumber 3 = .ok (.if_icmp .ne 21, 3) := by decide +kernel
theorem dX4_stepInNumber_6 : decode cX4_stepInNumber 6 = .ok (.aload_n 0, 1) := by decide +kernel
theorem dX4_stepInNumber_7 : decode cX4_stepInNumber 7 = .ok (.dup, 1) := by decide +kernel
theorem dX4_stepInNumber_8 : decode cX4_stepInNumber 8 = .ok (.getfield 37, 3) := by decide +kernel
theorem dX4_stepInNumber_11 : decode cX4_stepInNumber 11 = .ok (.iconst 1, 1) := by decide +kernel
theorem dX4_stepInNumber_12 : decode cX4_stepInNumber 12 = .ok (.iadd, 1) := by decide +kernel
theorem dX4_stepInNumber_13 : decode cX4_stepInNumber 13 = .ok (.putfield 37, 3) := by decide +kernel
theorem dX4_stepInNumber_16 : decode cX4_stepInNumber 16 = .ok (.aload_n 0, 1) := by decide +kernel
theorem dX4_stepInNumber_17 : decode cX4_stepInNumber 17 = .ok (.iconst 2, 1) := by decide +kernel
theorem dX4_stepInNumber_18 : decode cX4_stepInNumber 18 = .ok (.putfield 27, 3) := by decide +kernel
theorem dX4_stepInNumber_21 : decode cX4_stepInNumber 21 = .ok (.ldc 54, 2) := by decide +kernel
theorem dX4_stepInNumber_23 : decode cX4_stepInNumber 23 = .ok (.ireturn, 1) := by decide +kernel
theorem dX4_stepInNumber_24 : decode cX4_stepInNumber 24 = .ok (.iload_n 1, 1) := by decide +kernel
theorem dX4_stepInNumber_25 : decode cX4_stepInNumber 25 = .ok (.bipush 59, 2) := by decide +kernel
theorem dX4_stepInNumber_27 : decode cX4_stepInNumber 27 = .ok (.if_icmp .ne 19, 3) := by decide +kernel
theorem dX4_stepInNumber_30 : decode cX4_stepInNumber 30 = .ok (.aload_n 0, 1) := by decide +kernel
theorem dX4_stepInNumber_31 : decode cX4_stepInNumber 31 = .ok (.dup, 1) := by decide +kernel
theorem dX4_stepInNumber_32 : decode cX4_stepInNumber 32 = .ok (.getfield 37, 3) := by decide +kernel
theorem dX4_stepInNumber_35 : decode cX4_stepInNumber 35 = .ok (.iconst 1, 1) := by decide +kernel
theorem dX4_stepInNumber_36 : decode cX4_stepInNumber 36 = .ok (.iadd, 1) := by decide +kernel
theorem dX4_stepInNumber_37 : decode cX4_stepInNumber 37 = .ok (.putfield 37, 3) := by decide +kernel
theorem dX4_stepInNumber_40 : decode cX4_stepInNumber 40 = .ok (.aload_n 0, 1) := by decide +kernel
theorem dX4_stepInNumber_41 : decode cX4_stepInNumber 41 = .ok (.iload_n 2, 1) := by decide +kernel
theorem dX4_stepInNumber_42 : decode cX4_stepInNumber 42 = .ok (.invokevirtual 81, 3) := by decide +kernel
theorem dX4_stepInNumber_45 : decode cX4_stepInNumber 45 = .ok (.ireturn, 1) := by decide +kernel
theorem dX4_stepInNumber_46 : decode cX4_stepInNumber 46 = .ok (.iload_n 1, 1) := by decide +kernel
theorem dX4_stepInNumber_47 : decode cX4_stepInNumber 47 = .ok (.invokestatic 84, 3) := by decide +kernel
theorem dX4_stepInNumber_50 : decode cX4_stepInNumber 50 = .ok (.ifCond .eq 11, 3) := by decide +kernel
theorem dX4_stepInNumber_53 : decode cX4_stepInNumber 53 = .ok (.aload_n 0, 1) := by decide +kernel
theorem dX4_stepInNumber_54 : decode cX4_stepInNumber 54 = .ok (.getfield 40, 3) := by decide +kernel
theorem dX4_stepInNumber_57 : decode cX4_stepInNumber 57 = .ok (.iconst 5, 1) := by decide +kernel
theorem dX4_stepInNumber_58 : decode cX4_stepInNumber 58 = .ok (.if_icmp .lt 5, 3) := by decide +kernel
theorem dX4_stepInNumber_61 : decode cX4_stepInNumber 61 = .ok (.iload_n 2, 1) := by decide +kernel
theorem dX4_stepInNumber_62 : decode cX4_stepInNumber 62 = .ok (.ireturn, 1) := by decide +kernel
theorem dX4_stepInNumber_63 : decode cX4_stepInNumber 63 = .ok (.aload_n 0, 1) := by decide +kernel
theorem dX4_stepInNumber_64 : decode cX4_stepInNumber 64 = .ok (.bipush 10, 2) := by decide +kernel
theorem dX4_stepInNumber_66 : decode cX4_stepInNumber 66 = .ok (.aload_n 0, 1) := by decide +kernel
theorem dX4_stepInNumber_67 : decode cX4_stepInNumber 67 = .ok (.aload_n 0, 1) := by decide +kernel
theorem dX4_stepInNumber_68 : decode cX4_stepInNumber 68 = .ok (.getfield 23, 3) := by decide +kernel
theorem dX4_stepInNumber_71 : decode cX4_stepInNumber 71 = .ok (.aload_n 0, 1) := by decide +kernel
theorem dX4_stepInNumber_72 : decode cX4_stepInNumber 72 = .ok (.getfield 37, 3) := by decide +kernel
theorem dX4_stepInNumber_75 : decode cX4_stepInNumber 75 = .ok (.invokevirtual 95, 3) := by decide +kernel
theorem dX4_stepInNumber_78 : decode cX4_stepInNumber 78 = .ok (.imul, 1) := by decide +kernel
theorem dX4_stepInNumber_79 : decode cX4_stepInNumber 79 = .ok (.iload_n 1, 1) := by decide +kernel
theorem dX4_stepInNumber_80 : decode cX4_stepInNumber 80 = .ok (.iadd, 1) := by decide +kernel
theorem dX4_stepInNumber_81 : decode cX4_stepInNumber 81 = .ok (.bipush 48, 2) := by decide +kernel
theorem dX4_stepInNumber_83 : decode cX4_stepInNumber 83 = .ok (.isub, 1) := by decide +kernel
theorem dX4_stepInNumber_84 : decode cX4_stepInNumber 84 = .ok (.invokevirtual 91, 3) := by decide +kernel
theorem dX4_stepInNumber_87 : decode cX4_stepInNumber 87 = .ok (.aload_n 0, 1) := by decide +kernel
theorem dX4_stepInNumber_88 : decode cX4_stepInNumber 88 = .ok (.dup, 1) := by decide +kernel
theorem dX4_stepInNumber_89 : decode cX4_stepInNumber 89 = .ok (.getfield 40, 3) := by decide +kernel
theorem dX4_stepInNumber_92 : decode cX4_stepInNumber 92 = .ok (.iconst 1, 1) := by decide +kernel
theorem dX4_stepInNumber_93 : decode cX4_stepInNumber 93 = .ok (.iadd, 1) := by decide +kernel
theorem dX4_stepInNumber_94 : decode cX4_stepInNumber 94 = .ok (.putfield 40, 3) := by decide +kernel
theorem dX4_stepInNumber_97 : decode cX4_stepInNumber 97 = .ok (.ldc 54, 2) := by decide +kernel
theorem dX4_stepInNumber_99 : decode cX4_stepInNumber 99 = .ok (.ireturn, 1) := by decide +kernel
set_option maxRecDepth 20000 in
theorem ggX4_endCommand_X4_hasAllNumbers : GoodIn wsX4_endCommand wsX4_hasAllNumbers := goodIn_r _ [10, 3, 11, 12, 13, 14, 15, 16, 17, 18, 19, 20] (by decide +kernel) (by decide +kernel)
set_option maxRecDepth 20000 in
theorem gX4_endCommand_X4_hasAllNumbers : GoodIn wsX4_endCommand (wsV RX4 87 RX4 yX4_hasAllNumbers wsX4_hasAllNumbers) := goodIn_app (goodIn_of _ (by decide +kernel)) ggX4_endCommand_X4_hasAllNumbers
theorem dX4_endCommand_0 : decode cX4_endCommand 0 = .ok (.aload_n 0, 1) := by decide +kernel
theorem dX4_endCommand_1 : decode cX4_endCommand 1 = .ok (.invokevirtual 87, 3) := by decide +kernel
theorem dX4_endCommand_4 : decode cX4_endCommand 4 = .ok (.ifCond .ne 5, 3) := by decide +kernel
theorem dX4_endCommand_7 : decode cX4_endCommand 7 = .ok (.iload_n 1, 1) := by decide +kernel
theorem dX4_endCommand_8 : decode cX4_endCommand 8 = .ok (.ireturn, 1) := by decide +kernel
theorem dX4_endCommand_9 : decode cX4_endCommand 9 = .ok (.aload_n 0, 1) := by decide +kernel
theorem dX4_endCommand_10 : decode cX4_endCommand 10 = .ok (.getfield 23, 3) := by decide +kernel
theorem dX4_endCommand_13 : decode cX4_endCommand 13 = .ok (.bipush 18, 2) := by decide +kernel
theorem dX4_endCommand_15 : decode cX4_endCommand 15 = .ok (.if_icmp .ge 26, 3) := by decide +kernel
theorem dX4_endCommand_18 : decode cX4_endCommand 18 = .ok (.aload_n 0, 1) := by decide +kernel
theorem dX4_endCommand_19 : decode cX4_endCommand 19 = .ok (.getfield 15, 3) := by decide +kernel
theorem dX4_endCommand_22 : decode cX4_endCommand 22 = .ok (.aload_n 0, 1) := by decide +kernel
theorem dX4_endCommand_23 : decode cX4_endCommand 23 = .ok (.getfield 23, 3) := by decide +kernel
theorem dX4_endCommand_26 : decode cX4_endCommand 26 = .ok (.aload_n 0, 1) := by decide +kernel
theorem dX4_endCommand_27 : decode cX4_endCommand 27 = .ok (.getfield 33, 3) := by decide +kernel
theorem dX4_endCommand_30 : decode cX4_endCommand 30 = .ok (.aastore, 1) := by decide +kernel
theorem dX4_endCommand_31 : decode cX4_endCommand 31 = .ok (.aload_n 0, 1) := by decide +kernel
theorem dX4_endCommand_32 : decode cX4_endCommand 32 = .ok (.dup, 1) := by decide +kernel
theorem dX4_endCommand_33 : decode cX4_endCommand 33 = .ok (.getfield 23, 3) := by decide +kernel
theorem dX4_endCommand_36 : decode cX4_endCommand 36 = .ok (.iconst 1, 1) := by decide +kernel
theorem dX4_endCommand_37 : decode cX4_endCommand 37 = .ok (.iadd, 1) := by decide +kernel
theorem dX4_endCommand_38 : decode cX4_endCommand 38 = .ok (.putfield 23, 3) := by decide +kernel
theorem dX4_endCommand_41 : decode cX4_endCommand 41 = .ok (.aload_n 0, 1) := by decide +kernel
theorem dX4_endCommand_42 : decode cX4_endCommand 42 = .ok (.iconst 0, 1) := by decide +kernel
theorem dX4_endCommand_43 : decode cX4_endCommand 43 = .ok (.putfield 27, 3) := by decide +kernel
theorem dX4_endCommand_46 : decode cX4_endCommand 46 = .ok (.ldc 54, 2) := by decide +kernel
theorem dX4_endCommand_48 : decode cX4_endCommand 48 = .ok (.ireturn, 1) := by decide +kernel
theorem dX4_hasAllNumbers_0 : decode cX4_hasAllNumbers 0 = .ok (.aload_n 0, 1) := by decide +kernel
theorem dX4_hasAllNumbers_1 : decode cX4_hasAllNumbers 1 = .ok (.getfield 33, 3) := by decide +kernel
theorem dX4_hasAllNumbers_4 : decode cX4_hasAllNumbers 4 = .ok (.ifnull 17, 3) := by decide +kernel
theorem dX4_hasAllNumbers_7 : decode cX4_hasAllNumbers 7 = .ok (.aload_n 0, 1) := by decide +kernel
theorem dX4_hasAllNumbers_8 : decode cX4_hasAllNumbers 8 = .ok (.getfield 37, 3) := by decide +kernel
theorem dX4_hasAllNumbers_11 : decode cX4_hasAllNumbers 11 = .ok (.aload_n 0, 1) := by decide +kernel
theorem dX4_hasAllNumbers_12 : decode cX4_hasAllNumbers 12 = .ok (.getfield 33, 3) := by decide +kernel
theorem dX4_hasAllNumbers_15 : decode cX4_hasAllNumbers 15 = .ok (.getfield 98, 3) := by decide +kernel
theorem dX4_hasAllNumbers_18 : decode cX4_hasAllNumbers 18 = .ok (.if_icmp .lt 7, 3) := by decide +kernel
theorem dX4_hasAllNumbers_21 : decode cX4_hasAllNumbers 21 = .ok (.iconst 1, 1) := by decide +kernel
theorem dX4_hasAllNumbers_22 : decode cX4_hasAllNumbers 22 = .ok (.goto 4, 3) := by decide +kernel
theorem dX4_hasAllNumbers_25 : decode cX4_hasAllNumbers 25 = .ok (.iconst 0, 1) := by decide +kernel
theorem dX4_hasAllNumbers_26 : decode cX4_hasAllNumbers 26 = .ok (.ireturn, 1) := by decide +kernel
theorem dX4_putNumber_0 : decode cX4_putNumber 0 = .ok (.aload_n 0, 1) := by decide +kernel
theorem dX4_putNumber_1 : decode cX4_putNumber 1 = .ok (.getfield 23, 3) := by decide +kernel
theorem dX4_putNumber_4 : decode cX4_putNumber 4 = .ok (.bipush 18, 2) := by decide +kernel
theorem dX4_putNumber_6 : decode cX4_putNumber 6 = .ok (.if_icmp .ge 28, 3) := by decide +kernel
theorem dX4_putNumber_9 : decode cX4_putNumber 9 = .ok (.aload_n 0, 1) := by decide +kernel
theorem dX4_putNumber_10 : decode cX4_putNumber 10 = .ok (.getfield 37, 3) := by decide +kernel
theorem dX4_putNumber_13 : decode cX4_putNumber 13 = .ok (.iconst 4, 1) := by decide +kernel
theorem dX4_putNumber_14 : decode cX4_putNumber 14 = .ok (.if_icmp .ge 20, 3) := by decide +kernel
theorem dX4_putNumber_17 : decode cX4_putNumber 17 = .ok (.aload_n 0, 1) := by decide +kernel
theorem dX4_putNumber_18 : decode cX4_putNumber 18 = .ok (.getfield 19, 3) := by decide +kernel
theorem dX4_putNumber_21 : decode cX4_putNumber 21 = .ok (.aload_n 0, 1) := by decide +kernel
theorem dX4_putNumber_22 : decode cX4_putNumber 22 = .ok (.getfield 23, 3) := by decide +kernel
theorem dX4_putNumber_25 : decode cX4_putNumber 25 = .ok (.iconst 4, 1) := by decide +kernel
theorem dX4_putNumber_26 : decode cX4_putNumber 26 = .ok (.imul, 1) := by decide +kernel
theorem dX4_putNumber_27 : decode cX4_putNumber 27 = .ok (.aload_n 0, 1) := by decide +kernel
theorem dX4_putNumber_28 : decode cX4_putNumber 28 = .ok (.getfield 37, 3) := by decide +kernel
theorem dX4_putNumber_31 : decode cX4_putNumber 31 = .ok (.iadd, 1) := by decide +kernel
theorem dX4_putNumber_32 : decode cX4_putNumber 32 = .ok (.iload_n 1, 1) := by decide +kernel
theorem dX4_putNumber_33 : decode cX4_putNumber 33 = .ok (.iastore, 1) := by decide +kernel
theorem dX4_putNumber_34 : decode cX4_putNumber 34 = .ok (.return_, 1) := by decide +kernel
set_option maxRecDepth 20000 in
theorem ggX4_isLetter_X11_isBetween : GoodIn wsX4_isLetter wsX11_isBetween := goodIn_r _ [3] (by decide +kernel) (by decide +kernel)
set_option maxRecDepth 20000 in
theorem gX4_isLetter_X11_isBetween_n43 : GoodIn wsX4_isLetter (wsX11_isBetween) := ggX4_isLetter_X11_isBetween
theorem dX4_isLetter_0 : decode cX4_isLetter 0 = .ok (.iload_n 0, 1) := by decide +kernel
theorem dX4_isLetter_1 : decode cX4_isLetter 1 = .ok (.bipush 97, 2) := by decide +kernel
theorem dX4_isLetter_3 : decode cX4_isLetter 3 = .ok (.bipush 122, 2) := by decide +kernel
theorem dX4_isLetter_5 : decode cX4_isLetter 5 = .ok (.invokestatic 43, 3) := by decide +kernel
theorem dX4_isLetter_8 : decode cX4_isLetter 8 = .ok (.ireturn, 1) := by decide +kernel
set_option maxRecDepth 20000 in
theorem ggX4_isDigit_X11_isBetween : GoodIn wsX4_isDigit wsX11_isBetween := goodIn_r _ [3] (by decide +kernel) (by decide +kernel)
set_option maxRecDepth 20000 in
theorem gX4_isDigit_X11_isBetween_n43 : GoodIn wsX4_isDigit (wsX11_isBetween) := ggX4_isDigit_X11_isBetween
theorem dX4_isDigit_0 : decode cX4_isDigit 0 = .ok (.iload_n 0, 1) := by decide +kernel
theorem dX4_isDigit_1 : decode cX4_isDigit 1 = .ok (.bipush 48, 2) := by decide +kernel
theorem dX4_isDigit_3 : decode cX4_isDigit 3 = .ok (.bipush 57, 2) := by decide +kernel
theorem dX4_isDigit_5 : decode cX4_isDigit 5 = .ok (.invokestatic 43, 3) := by decide +kernel
theorem dX4_isDigit_8 : decode cX4_isDigit 8 = .ok (.ireturn, 1) := by decide +kernel
theorem dX5_init_0 : decode cX5_init 0 = .ok (.aload_n 0, 1) := by decide +kernel
theorem dX5_init_1 : decode cX5_init 1 = .ok (.invokespecial 3, 3) := by decide +kernel
theorem dX5_init_4 : decode cX5_init 4 = .ok (.aload_n 0, 1) := by decide +kernel
theorem dX5_init_5 : decode cX5_init 5 = .ok (.sipush 150, 3) := by decide +kernel
theorem dX5_init_8 : decode cX5_init 8 = .ok (.newarray .int, 2) := by decide +kernel
theorem dX5_init_10 : decode cX5_init 10 = .ok (.putfield 11, 3) := by decide +kernel
theorem dX5_init_13 : decode cX5_init 13 = .ok (.aload_n 0, 1) := by decide +kernel
theorem dX5_init_14 : decode cX5_init 14 = .ok (.iconst 0, 1) := by decide +kernel
theorem dX5_init_15 : decode cX5_init 15 = .ok (.putfield 15, 3) := by decide +kernel
theorem dX5_init_18 : decode cX5_init 18 = .ok (.return_, 1) := by decide +kernel
theorem dX5_isFull_0 : decode cX5_isFull 0 = .ok (.aload_n 0, 1) := by decide +kernel
theorem dX5_isFull_1 : decode cX5_isFull 1 = .ok (.getfield 15, 3) := by decide +kernel
theorem dX5_isFull_4 : decode cX5_isFull 4 = .ok (.sipush 150, 3) := by decide +kernel
theorem dX5_isFull_7 : decode cX5_isFull 7 = .ok (.if_icmp .lt 7, 3) := by decide +kernel
theorem dX5_isFull_10 : decode cX5_isFull 10 = .ok (.iconst 1, 1) := by decide +kernel
theorem dX5_isFull_11 : decode cX5_isFull 11 = .ok (.goto 4, 3) := by decide +kernel
theorem dX5_isFull_14 : decode cX5_isFull 14 = .ok (.iconst 0, 1) := by decide +kernel
theorem dX5_isFull_15 : decode cX5_isFull 15 = .ok (.ireturn, 1) := by decide +kernel
set_option maxRecDepth 20000 in
theorem ggX5_append_X5_isFull : GoodIn wsX5_append wsX5_isFull := goodIn_r _ [7, 2, 8, 9] (by decide +kernel) (by decide +kernel)
set_option maxRecDepth 20000 in
theorem gX5_append_X5_isFull : GoodIn wsX5_append (wsV RX5 19 RX5 yX5_isFull wsX5_isFull) := goodIn_app (goodIn_of _ (by decide +kernel)) ggX5_append_X5_isFull
theorem dX5_append_0 : decode cX5_append 0 = .ok (.aload_n 0, 1) := by decide +kernel
theorem dX5_append_1 : decode cX5_append 1 = .ok (.invokevirtual 19, 3) := by decide +kernel
theorem dX5_append_4 : decode cX5_append 4 = .ok (.ifCond .ne 23, 3) := by decide +kernel
theorem dX5_append_7 : decode cX5_append 7 = .ok (.aload_n 0, 1) := by decide +kernel
theorem dX5_append_8 : decode cX5_append 8 = .ok (.getfield 11, 3) := by decide +kernel
theorem dX5_append_11 : decode cX5_append 11 = .ok (.aload_n 0, 1) := by decide +kernel
theorem dX5_append_12 : decode cX5_append 12 = .ok (.getfield 15, 3) := by decide +kernel
theorem dX5_append_15 : decode cX5_append 15 = .ok (.iload_n 1, 1) := by decide +kernel
theorem dX5_append_16 : decode cX5_append 16 = .ok (.iastore, 1) := by decide +kernel
theorem dX5_append_17 : decode cX5_append 17 = .ok (.aload_n 0, 1) := by decide +kernel
theorem dX5_append_18 : decode cX5_append 18 = .ok (.dup, 1) := by decide +kernel
theorem dX5_append_19 : decode cX5_append 19 = .ok (.getfield 15, 3) := by decide +kernel
theorem dX5_append_22 : decode cX5_append 22 = .ok (.iconst 1, 1) := by decide +kernel
theorem dX5_append_23 : decode cX5_append 23 = .ok (.iadd, 1) := by decide +kernel
theorem dX5_append_24 : decode cX5_append 24 = .ok (.putfield 15, 3) := by decide +kernel
theorem dX5_append_27 : decode cX5_append 27 = .ok (.aload_n 0, 1) := by decide +kernel
theorem dX5_append_28 : decode cX5_append 28 = .ok (.getfield 15, 3) := by decide +kernel
theorem dX5_append_31 : decode cX5_append 31 = .ok (.ireturn, 1) := by decide +kernel
theorem dX5_empty_0 : decode cX5_empty 0 = .ok (.aload_n 0, 1) := by decide +kernel
theorem dX5_empty_1 : decode cX5_empty 1 = .ok (.getfield 15, 3) := by decide +kernel
theorem dX5_empty_4 : decode cX5_empty 4 = .ok (.istore_n 1, 1) := by decide +kernel
theorem dX5_empty_5 : decode cX5_empty 5 = .ok (.aload_n 0, 1) := by decide +kernel
theorem dX5_empty_6 : decode cX5_empty 6 = .ok (.iconst 0, 1) := by decide +kernel
theorem dX5_empty_7 : decode cX5_empty 7 = .ok (.putfield 15, 3) := by decide +kernel
theorem dX5_empty_10 : decode cX5_empty 10 = .ok (.iload_n 1, 1) := by decide +kernel
theorem dX5_empty_11 : decode cX5_empty 11 = .ok (.ireturn, 1) := by decide +kernel
set_option maxRecDepth 20000 in
theorem ggX5_byteAt_X11_isBetween : GoodIn wsX5_byteAt wsX11_isBetween := goodIn_r _ [5] (by decide +kernel) (by decide +kernel)
set_option maxRecDepth 20000 in
theorem gX5_byteAt_X11_isBetween_n23 : GoodIn wsX5_byteAt (wsX11_isBetween) := ggX5_byteAt_X11_isBetween
theorem dX5_byteAt_0 : decode cX5_byteAt 0 = .ok (.iload_n 1, 1) := by decide +kernel
theorem dX5_byteAt_1 : decode cX5_byteAt 1 = .ok (.iconst 0, 1) := by decide +kernel
theorem dX5_byteAt_2 : decode cX5_byteAt 2 = .ok (.sipush 149, 3) := by decide +kernel
theorem dX5_byteAt_5 : decode cX5_byteAt 5 = .ok (.invokestatic 23, 3) := by decide +kernel
theorem dX5_byteAt_8 : decode cX5_byteAt 8 = .ok (.ifCond .eq 12, 3) := by decide +kernel
theorem dX5_byteAt_11 : decode cX5_byteAt 11 = .ok (.aload_n 0, 1) := by decide +kernel
theorem dX5_byteAt_12 : decode cX5_byteAt 12 = .ok (.getfield 11, 3) := by decide +kernel
theorem dX5_byteAt_15 : decode cX5_byteAt 15 = .ok (.iload_n 1, 1) := by decide +kernel
theorem dX5_byteAt_16 : decode cX5_byteAt 16 = .ok (.iaload, 1) := by decide +kernel
theorem dX5_byteAt_17 : decode cX5_byteAt 17 = .ok (.goto 5, 3) := by decide +kernel
theorem dX5_byteAt_20 : decode cX5_byteAt 20 = .ok (.ldc 27, 2) := by decide +kernel
theorem dX5_byteAt_22 : decode cX5_byteAt 22 = .ok (.ireturn, 1) := by decide +kernel
set_option maxRecDepth 20000 in
theorem ggX5_commandAt_X5_isWord : GoodIn wsX5_commandAt wsX5_isWord := goodIn_r _ [6, 7, 8, 9, 10, 11, 12, 13, 14, 15, 16, 17, 18, 19, 20, 21, 22, 23, 24, 25, 26, 27, 28, 29, 30, 31, 32, 33, 34, 35, 36, 37, 38, 39, 40, 41, 42, 43, 44, 45, 46, 47, 48, 49, 50, 51, 52, 53, 54, 55, 56, 57, 58, 5, 59, 60, 61, 62, 63, 64, 65, 66] (by decide +kernel) (by decide +kernel)
set_option maxRecDepth 20000 in
theorem gX5_commandAt_X5_isWord : GoodIn wsX5_commandAt (wsV RX5 38 RX5 yX5_isWord wsX5_isWord) := goodIn_app (goodIn_of _ (by decide +kernel)) ggX5_commandAt_X5_isWord
theorem dX5_commandAt_0 : decode cX5_commandAt 0 = .ok (.getstatic 28, 3) := by decide +kernel
theorem dX5_commandAt_3 : decode cX5_commandAt 3 = .ok (.astore_n 3, 1) := by decide +kernel
theorem dX5_commandAt_4 : decode cX5_commandAt 4 = .ok (.aload_n 3, 1) := by decide +kernel
theorem dX5_commandAt_5 : decode cX5_commandAt 5 = .ok (.arraylength, 1) := by decide +kernel
theorem dX5_commandAt_6 : decode cX5_commandAt 6 = .ok (.istore 4, 2) := by decide +kernel
theorem dX5_commandAt_8 : decode cX5_commandAt 8 = .ok (.iconst 0, 1) := by decide +kernel
theorem dX5_commandAt_9 : decode cX5_commandAt 9 = .ok (.istore 5, 2) := by decide +kernel
theorem dX5_commandAt_11 : decode cX5_commandAt 11 = .ok (.iload 5, 2) := by decide +kernel
theorem dX5_commandAt_13 : decode cX5_commandAt 13 = .ok (.iload 4, 2) := by decide +kernel
theorem dX5_commandAt_15 : decode cX5_commandAt 15 = .ok (.if_icmp .ge 37, 3) := by decide +kernel
theorem dX5_commandAt_18 : decode cX5_commandAt 18 = .ok (.aload_n 3, 1) := by decide +kernel
theorem dX5_commandAt_19 : decode cX5_commandAt 19 = .ok (.iload 5, 2) := by decide +kernel
theorem dX5_commandAt_21 : decode cX5_commandAt 21 = .ok (.aaload, 1) := by decide +kernel
theorem dX5_commandAt_22 : decode cX5_commandAt 22 = .ok (.astore 6, 2) := by decide +kernel
theorem dX5_commandAt_24 : decode cX5_commandAt 24 = .ok (.aload 6, 2) := by decide +kernel
theorem dX5_commandAt_26 : decode cX5_commandAt 26 = .ok (.ifnull 20, 3) := by decide +kernel
theorem dX5_commandAt_29 : decode cX5_commandAt 29 = .ok (.aload_n 0, 1) := by decide +kernel
theorem dX5_commandAt_30 : decode cX5_commandAt 30 = .ok (.aload 6, 2) := by decide +kernel
theorem dX5_commandAt_32 : decode cX5_commandAt 32 = .ok (.getfield 34, 3) := by decide +kernel
theorem dX5_commandAt_35 : decode cX5_commandAt 35 = .ok (.iload_n 1, 1) := by decide +kernel
theorem dX5_commandAt_36 : decode cX5_commandAt 36 = .ok (.iload_n 2, 1) := by decide +kernel
theorem dX5_commandAt_37 : decode cX5_commandAt 37 = .ok (.invokevirtual 38, 3) := by decide +kernel
theorem dX5_commandAt_40 : decode cX5_commandAt 40 = .ok (.ifCond .eq 6, 3) := by decide +kernel
theorem dX5_commandAt_43 : decode cX5_commandAt 43 = .ok (.aload 6, 2) := by decide +kernel
theorem dX5_commandAt_45 : decode cX5_commandAt 45 = .ok (.areturn, 1) := by decide +kernel
theorem dX5_commandAt_46 : decode cX5_commandAt 46 = .ok (.iinc 5 1, 3) := by decide +kernel
theorem dX5_commandAt_49 : decode cX5_commandAt 49 = .ok (.goto (-38), 3) := by decide +kernel
theorem dX5_commandAt_52 : decode cX5_commandAt 52 = .ok (.aconst_null, 1) := by decide +kernel
theorem dX5_commandAt_53 : decode cX5_commandAt 53 = .ok (.areturn, 1) := by decide +kernel
set_option maxRecDepth 20000 in
theorem ggX5_isWord_J0_length_8abf5 : GoodIn wsX5_isWord wsJ0_length_8abf5 := goodIn_r _ [5, 6, 7, 8, 9, 4, 10, 11, 12] (by decide +kernel) (by decide +kernel)
set_option maxRecDepth 20000 in
theorem gX5_isWord_J0_length_8abf5 : GoodIn wsX5_isWord (wsV RX5 42 RJ0 yJ0_length_8abf5 wsJ0_length_8abf5) := goodIn_app (goodIn_of _ (by decide +kernel)) ggX5_isWord_J0_length_8abf5
set_option maxRecDepth 20000 in
theorem ggX5_isWord_J0_charAt_5068e : GoodIn wsX5_isWord wsJ0_charAt_5068e := goodIn_r _ [16, 6, 17, 18, 19, 4, 20, 11, 12, 21, 22, 23, 24, 25, 26, 27, 28, 29, 30, 31, 32, 33, 34, 35, 36, 37, 38, 39, 40, 41, 42, 43, 44, 45, 46, 47, 48, 49] (by decide +kernel) (by decide +kernel)
set_option maxRecDepth 20000 in
theorem gX5_isWord_J0_charAt_5068e : GoodIn wsX5_isWord (wsV RX5 47 RJ0 yJ0_charAt_5068e wsJ0_charAt_5068e) := goodIn_app (goodIn_of _ (by decide +kernel)) ggX5_isWord_J0_charAt_5068e
set_option maxRecDepth 20000 in
theorem ggX5_isWord_X5_byteAt : GoodIn wsX5_isWord wsX5_byteAt := goodIn_r _ [54, 55, 56, 57, 58, 59, 60, 61] (by decide +kernel) (by decide +kernel)
set_option maxRecDepth 20000 in
theorem gX5_isWord_X5_byteAt : GoodIn wsX5_isWord (wsV RX5 51 RX5 yX5_byteAt wsX5_byteAt) := goodIn_app (goodIn_of _ (by decide +kernel)) ggX5_isWord_X5_byteAt
theorem dX5_isWord_0 : decode cX5_isWord 0 = .ok (.aload_n 1, 1) := by decide +kernel
theorem dX5_isWord_1 : decode cX5_isWord 1 = .ok (.invokevirtual 42, 3) := by decide +kernel
theorem dX5_isWord_4 : decode cX5_isWord 4 = .ok (.iload_n 3, 1) := by decide +kernel
theorem dX5_isWord_5 : decode cX5_isWord 5 = .ok (.iload_n 2, 1) := by decide +kernel
theorem dX5_isWord_6 : decode cX5_isWord 6 = .ok (.isub, 1) := by decide +kernel
theorem dX5_isWord_7 : decode cX5_isWord 7 = .ok (.if_icmp .eq 5, 3) := by decide +kernel
theorem dX5_isWord_10 : decode cX5_isWord 10 = .ok (.iconst 0, 1) := by decide +kernel
theorem dX5_isWord_11 : decode cX5_isWord 11 = .ok (.ireturn, 1) := by decide +kernel
theorem dX5_isWord_12 : decode cX5_isWord 12 = .ok (.iconst 0, 1) := by decide +kernel
theorem dX5_isWord_13 : decode cX5_isWord 13 = .ok (.istore 4, 2) := by decide +kernel
theorem dX5_isWord_15 : decode cX5_isWord 15 = .ok (.iload 4, 2) := by decide +kernel
theorem dX5_isWord_17 : decode cX5_isWord 17 = .ok (.aload_n 1, 1) := by decide +kernel
theorem dX5_isWord_18 : decode cX5_isWord 18 = .ok (.invokevirtual 42, 3) := by decide +kernel
theorem dX5_isWord_21 : decode cX5_isWord 21 = .ok (.if_icmp .ge 28, 3) := by decide +kernel
theorem dX5_isWord_24 : decode cX5_isWord 24 = .ok (.aload_n 1, 1) := by decide +kernel
theorem dX5_isWord_25 : decode cX5_isWord 25 = .ok (.iload 4, 2) := by decide +kernel
theorem dX5_isWord_27 : decode cX5_isWord 27 = .ok (.invokevirtual 47, 3) := by decide +kernel
theorem dX5_isWord_30 : decode cX5_isWord 30 = .ok (.aload_n 0, 1) := by decide +kernel
theorem dX5_isWord_31 : decode cX5_isWord 31 = .ok (.iload_n 2, 1) := by decide +kernel
theorem dX5_isWord_32 : decode cX5_isWord 32 = .ok (.iload 4, 2) := by decide +kernel
theorem dX5_isWord_34 : decode cX5_isWord 34 = .ok (.iadd, 1) := by decide +kernel
theorem dX5_isWord_35 : decode cX5_isWord 35 = .ok (.invokevirtual 51, 3) := by decide +kernel
theorem dX5_isWord_38 : decode cX5_isWord 38 = .ok (.if_icmp .eq 5, 3) := by decide +kernel
theorem dX5_isWord_41 : decode cX5_isWord 41 = .ok (.iconst 0, 1) := by decide +kernel
theorem dX5_isWord_42 : decode cX5_isWord 42 = .ok (.ireturn, 1) := by decide +kernel
theorem dX5_isWord_43 : decode cX5_isWord 43 = .ok (.iinc 4 1, 3) := by decide +kernel
theorem dX5_isWord_46 : decode cX5_isWord 46 = .ok (.goto (-31), 3) := by decide +kernel
theorem dX5_isWord_49 : decode cX5_isWord 49 = .ok (.iconst 1, 1) := by decide +kernel
theorem dX5_isWord_50 : decode cX5_isWord 50 = .ok (.ireturn, 1) := by decide +kernel
set_option maxRecDepth 20000 in
theorem ggX6_init_X1_init : GoodIn wsX6_init wsX1_init := goodIn_r _ [9, 10, 2, 3, 11, 12, 13, 14, 15, 16, 17, 18, 19, 20, 21, 22, 23, 24, 25, 26, 27, 30, 31, 32, 33, 28] (by decide +kernel) (by decide +kernel)
set_option maxRecDepth 20000 in
theorem gX6_init_X1_init_n11 : GoodIn wsX6_init (wsX1_init) := ggX6_init_X1_init
theorem dX6_init_0 : decode cX6_init 0 = .ok (.aload_n 0, 1) := by decide +kernel
theorem dX6_init_1 : decode cX6_init 1 = .ok (.invokespecial 3, 3) := by decide +kernel
theorem dX6_init_4 : decode cX6_init 4 = .ok (.aload_n 0, 1) := by decide +kernel
theorem dX6_init_5 : decode cX6_init 5 = .ok (.new 9, 3) := by decide +kernel
theorem dX6_init_8 : decode cX6_init 8 = .ok (.dup, 1) := by decide +kernel
theorem dX6_init_9 : decode cX6_init 9 = .ok (.invokespecial 11, 3) := by decide +kernel
theorem dX6_init_12 : decode cX6_init 12 = .ok (.putfield 12, 3) := by decide +kernel
theorem dX6_init_15 : decode cX6_init 15 = .ok (.return_, 1) := by decide +kernel
set_option maxRecDepth 20000 in
theorem ggX6_hearClick_X1_collect : GoodIn wsX6_hearClick wsX1_collect := goodIn_r _ [9, 10, 11, 12, 13, 14, 15, 16, 17, 18, 19, 20, 21, 22, 23, 24, 25, 26, 27, 28, 29, 30, 31, 32, 33, 34, 35, 36, 37, 38, 39, 40, 41, 42, 43, 44, 45, 46, 47, 48, 49, 50, 51, 52, 53, 54, 55, 56, 57, 58, 8, 59, 60, 61, 62, 63, 64, 65, 66, 67, 68, 69, 70, 71, 72, 73, 74, 75, 76, 77, 78, 79, 80, 81, 82, 83, 84, 85, 86, 87, 88, 89, 90, 91, 92, 93, 94, 95, 96, 97, 98, 99, 100, 101, 102, 103, 104, 105, 106, 107, 156, 151, 152, 153, 154, 143, 144, 145, 146, 147, 148, 149, 150] (by decide +kernel) (by decide +kernel)
set_option maxRecDepth 20000 in
theorem gX6_hearClick_X1_collect : GoodIn wsX6_hearClick (wsV RX6 30 RX1 yX1_collect wsX1_collect) := goodIn_app (goodIn_of _ (by decide +kernel)) ggX6_hearClick_X1_collect
set_option maxRecDepth 20000 in
theorem ggX6_hearClick_X6_listen : GoodIn wsX6_hearClick wsX6_listen := goodIn_r _ [112, 113, 3, 114, 2, 1, 115, 116, 117, 17, 118, 119, 120, 121, 122, 123, 124, 101, 102, 103, 91, 22, 23, 24, 25, 26, 27, 28, 29, 30, 125, 126, 111, 127, 128, 129, 130, 131, 132, 133, 134, 135, 136, 137, 83, 84, 85, 155, 156, 151, 152, 153, 154, 143, 144, 145, 146, 147, 148, 149, 150] (by decide +kernel) (by decide +kernel)
set_option maxRecDepth 20000 in
theorem gX6_hearClick_X6_listen : GoodIn wsX6_hearClick (wsV RX6 34 RX6 yX6_listen wsX6_listen) := goodIn_app (goodIn_of _ (by decide +kernel)) ggX6_hearClick_X6_listen
set_option maxRecDepth 20000 in
theorem ggX6_hearClick_X2_hasNoted : GoodIn wsX6_hearClick wsX2_hasNoted := goodIn_r _ [141, 19, 142, 22, 23, 24, 25, 26, 27, 28, 29, 30, 143, 144, 145, 146, 147, 148, 149, 150, 151, 152, 153, 154] (by decide +kernel) (by decide +kernel)
set_option maxRecDepth 20000 in
theorem gX6_hearClick_X2_hasNoted : GoodIn wsX6_hearClick (wsV RX6 38 RX2 yX2_hasNoted wsX2_hasNoted) := goodIn_app (goodIn_of _ (by decide +kernel)) ggX6_hearClick_X2_hasNoted
theorem dX6_hearClick_0 : decode cX6_hearClick 0 = .ok (.iconst 0, 1) := by decide +kernel
theorem dX6_hearClick_1 : decode cX6_hearClick 1 = .ok (.istore 5, 2) := by decide +kernel
theorem dX6_hearClick_3 : decode cX6_hearClick 3 = .ok (.iconst 0, 1) := by decide +kernel
theorem dX6_hearClick_4 : decode cX6_hearClick 4 = .ok (.istore 6, 2) := by decide +kernel
theorem dX6_hearClick_6 : decode cX6_hearClick 6 = .ok (.iload 6, 2) := by decide +kernel
theorem dX6_hearClick_8 : decode cX6_hearClick 8 = .ok (.aload_n 1, 1) := by decide +kernel
theorem dX6_hearClick_9 : decode cX6_hearClick 9 = .ok (.getfield 18, 3) := by decide +kernel
theorem dX6_hearClick_12 : decode cX6_hearClick 12 = .ok (.getfield 24, 3) := by decide +kernel
theorem dX6_hearClick_15 : decode cX6_hearClick 15 = .ok (.if_icmp .ge 42, 3) := by decide +kernel
theorem dX6_hearClick_18 : decode cX6_hearClick 18 = .ok (.aload_n 0, 1) := by decide +kernel
theorem dX6_hearClick_19 : decode cX6_hearClick 19 = .ok (.getfield 12, 3) := by decide +kernel
theorem dX6_hearClick_22 : decode cX6_hearClick 22 = .ok (.aload_n 1, 1) := by decide +kernel
theorem dX6_hearClick_23 : decode cX6_hearClick 23 = .ok (.iload_n 2, 1) := by decide +kernel
theorem dX6_hearClick_24 : decode cX6_hearClick 24 = .ok (.iload_n 3, 1) := by decide +kernel
theorem dX6_hearClick_25 : decode cX6_hearClick 25 = .ok (.iload 6, 2) := by decide +kernel
theorem dX6_hearClick_27 : decode cX6_hearClick 27 = .ok (.invokevirtual 30, 3) := by decide +kernel
theorem dX6_hearClick_30 : decode cX6_hearClick 30 = .ok (.aload_n 0, 1) := by decide +kernel
theorem dX6_hearClick_31 : decode cX6_hearClick 31 = .ok (.aload_n 1, 1) := by decide +kernel
theorem dX6_hearClick_32 : decode cX6_hearClick 32 = .ok (.iload 6, 2) := by decide +kernel
theorem dX6_hearClick_34 : decode cX6_hearClick 34 = .ok (.iload 4, 2) := by decide +kernel
theorem dX6_hearClick_36 : decode cX6_hearClick 36 = .ok (.invokevirtual 34, 3) := by decide +kernel
theorem dX6_hearClick_39 : decode cX6_hearClick 39 = .ok (.aload_n 1, 1) := by decide +kernel
theorem dX6_hearClick_40 : decode cX6_hearClick 40 = .ok (.iload 6, 2) := by decide +kernel
theorem dX6_hearClick_42 : decode cX6_hearClick 42 = .ok (.invokevirtual 38, 3) := by decide +kernel
theorem dX6_hearClick_45 : decode cX6_hearClick 45 = .ok (.ifCond .eq 6, 3) := by decide +kernel
theorem dX6_hearClick_48 : decode cX6_hearClick 48 = .ok (.iinc 5 1, 3) := by decide +kernel
theorem dX6_hearClick_51 : decode cX6_hearClick 51 = .ok (.iinc 6 1, 3) := by decide +kernel
theorem dX6_hearClick_54 : decode cX6_hearClick 54 = .ok (.goto (-48), 3) := by decide +kernel
theorem dX6_hearClick_57 : decode cX6_hearClick 57 = .ok (.aload_n 1, 1) := by decide +kernel
theorem dX6_hearClick_58 : decode cX6_hearClick 58 = .ok (.dup, 1) := by decide +kernel
theorem dX6_hearClick_59 : decode cX6_hearClick 59 = .ok (.getfield 42, 3) := by decide +kernel
theorem dX6_hearClick_62 : decode cX6_hearClick 62 = .ok (.iconst 1, 1) := by decide +kernel
theorem dX6_hearClick_63 : decode cX6_hearClick 63 = .ok (.iadd, 1) := by decide +kernel
theorem dX6_hearClick_64 : decode cX6_hearClick 64 = .ok (.putfield 42, 3) := by decide +kernel
theorem dX6_hearClick_67 : decode cX6_hearClick 67 = .ok (.iload 5, 2) := by decide +kernel
theorem dX6_hearClick_69 : decode cX6_hearClick 69 = .ok (.ireturn, 1) := by decide +kernel
set_option maxRecDepth 20000 in
theorem ggX6_hearKnownClick_X9_at : GoodIn wsX6_hearKnownClick wsX9_at := goodIn_r _ [9, 10, 11, 12, 13, 153, 154, 155, 156] (by decide +kernel) (by decide +kernel)
set_option maxRecDepth 20000 in
theorem gX6_hearKnownClick_X9_at : GoodIn wsX6_hearKnownClick (wsV RX6 45 RX9 yX9_at wsX9_at) := goodIn_app (goodIn_of _ (by decide +kernel)) ggX6_hearKnownClick_X9_at
set_option maxRecDepth 20000 in
theorem ggX6_hearKnownClick_X9_put : GoodIn wsX6_hearKnownClick wsX9_put := goodIn_r _ [17, 10, 11, 13, 153, 154, 155, 156] (by decide +kernel) (by decide +kernel)
set_option maxRecDepth 20000 in
theorem gX6_hearKnownClick_X9_put : GoodIn wsX6_hearKnownClick (wsV RX6 49 RX9 yX9_put wsX9_put) := goodIn_app (goodIn_of _ (by decide +kernel)) ggX6_hearKnownClick_X9_put
set_option maxRecDepth 20000 in
theorem ggX6_hearKnownClick_X1_collect : GoodIn wsX6_hearKnownClick wsX1_collect := goodIn_r _ [22, 23, 24, 25, 26, 27, 28, 29, 30, 31, 32, 33, 34, 35, 6, 7, 8, 9, 10, 11, 12, 13, 36, 37, 38, 39, 40, 41, 42, 43, 44, 45, 46, 47, 48, 49, 50, 51, 52, 53, 54, 55, 56, 57, 58, 59, 60, 61, 62, 63, 21, 64, 65, 66, 67, 68, 69, 70, 71, 72, 73, 74, 75, 76, 77, 78, 79, 80, 81, 82, 83, 84, 85, 86, 87, 15, 16, 17, 88, 89, 90, 91, 92, 93, 94, 95, 96, 97, 98, 99, 100, 101, 102, 103, 104, 105, 106, 107, 108, 109, 158, 153, 154, 155, 156, 145, 146, 147, 148, 149, 150, 151, 152] (by decide +kernel) (by decide +kernel)
set_option maxRecDepth 20000 in
theorem gX6_hearKnownClick_X1_collect : GoodIn wsX6_hearKnownClick (wsV RX6 30 RX1 yX1_collect wsX1_collect) := goodIn_app (goodIn_of _ (by decide +kernel)) ggX6_hearKnownClick_X1_collect
set_option maxRecDepth 20000 in
theorem ggX6_hearKnownClick_X6_listen : GoodIn wsX6_hearKnownClick wsX6_listen := goodIn_r _ [114, 115, 3, 116, 2, 1, 117, 118, 119, 30, 120, 121, 122, 123, 124, 125, 126, 103, 104, 105, 93, 35, 6, 7, 8, 9, 10, 11, 12, 13, 127, 128, 113, 129, 5, 130, 131, 132, 133, 134, 135, 136, 137, 14, 15, 16, 17, 157, 158, 153, 154, 155, 156, 145, 146, 147, 148, 149, 150, 151, 152] (by decide +kernel) (by decide +kernel)
set_option maxRecDepth 20000 in
theorem gX6_hearKnownClick_X6_listen : GoodIn wsX6_hearKnownClick (wsV RX6 34 RX6 yX6_listen wsX6_listen) := goodIn_app (goodIn_of _ (by decide +kernel)) ggX6_hearKnownClick_X6_listen
set_option maxRecDepth 20000 in
theorem ggX6_hearKnownClick_X2_hasNoted : GoodIn wsX6_hearKnownClick wsX2_hasNoted := goodIn_r _ [141, 32, 142, 35, 6, 7, 8, 9, 10, 11, 12, 13, 145, 146, 147, 148, 149, 150, 151, 152, 153, 154, 155, 156] (by decide +kernel) (by decide +kernel)
set_option maxRecDepth 20000 in
theorem gX6_hearKnownClick_X2_hasNoted : GoodIn wsX6_hearKnownClick (wsV RX6 38 RX2 yX2_hasNoted wsX2_hasNoted) := goodIn_app (goodIn_of _ (by decide +kernel)) ggX6_hearKnownClick_X2_hasNoted
set_option maxRecDepth 20000 in
theorem ggX6_hearKnownClick_X2_wayTo : GoodIn wsX6_hearKnownClick wsX2_wayTo := goodIn_r _ [56, 32, 35, 6, 7, 8, 9, 10, 11, 12, 13, 57, 58, 38, 59, 60, 145, 146, 147, 148, 149, 150, 151, 152, 153, 154, 155, 156] (by decide +kernel) (by decide +kernel)
set_option maxRecDepth 20000 in
theorem gX6_hearKnownClick_X2_wayTo : GoodIn wsX6_hearKnownClick (wsV RX6 53 RX2 yX2_wayTo wsX2_wayTo) := goodIn_app (goodIn_of _ (by decide +kernel)) ggX6_hearKnownClick_X2_wayTo
set_option maxRecDepth 20000 in
theorem ggX6_hearKnownClick_X2_timeFor : GoodIn wsX6_hearKnownClick wsX2_timeFor := goodIn_r _ [92, 93, 35, 6, 7, 8, 9, 10, 11, 12, 13, 145, 146, 147, 148, 149, 150, 151, 152, 153, 154, 155, 156] (by decide +kernel) (by decide +kernel)
set_option maxRecDepth 20000 in
theorem gX6_hearKnownClick_X2_timeFor : GoodIn wsX6_hearKnownClick (wsV RX6 57 RX2 yX2_timeFor wsX2_timeFor) := goodIn_app (goodIn_of _ (by decide +kernel)) ggX6_hearKnownClick_X2_timeFor
theorem dX6_hearKnownClick_0 : decode cX6_hearKnownClick 0 = .ok (.aload_n 1, 1) := by decide +kernel
theorem dX6_hearKnownClick_1 : decode cX6_hearKnownClick 1 = .ok (.getfield 18, 3) := by decide +kernel
theorem dX6_hearKnownClick_4 : decode cX6_hearKnownClick 4 = .ok (.astore 5, 2) := by decide +kernel
theorem dX6_hearKnownClick_6 : decode cX6_hearKnownClick 6 = .ok (.iconst 0, 1) := by decide +kernel
theorem dX6_hearKnownClick_7 : decode cX6_hearKnownClick 7 = .ok (.istore 6, 2) := by decide +kernel
theorem dX6_hearKnownClick_9 : decode cX6_hearKnownClick 9 = .ok (.iconst 0, 1) := by decide +kernel
theorem dX6_hearKnownClick_10 : decode cX6_hearKnownClick 10 = .ok (.istore 7, 2) := by decide +kernel
theorem dX6_hearKnownClick_12 : decode cX6_hearKnownClick 12 = .ok (.iload 7, 2) := by decide +kernel
theorem dX6_hearKnownClick_14 : decode cX6_hearKnownClick 14 = .ok (.aload 5, 2) := by decide +kernel
theorem dX6_hearKnownClick_16 : decode cX6_hearKnownClick 16 = .ok (.getfield 24, 3) := by decide +kernel
theorem dX6_hearKnownClick_19 : decode cX6_hearKnownClick 19 = .ok (.if_icmp .ge 120, 3) := by decide +kernel
theorem dX6_hearKnownClick_22 : decode cX6_hearKnownClick 22 = .ok (.aload 5, 2) := by decide +kernel
theorem dX6_hearKnownClick_24 : decode cX6_hearKnownClick 24 = .ok (.iload 7, 2) := by decide +kernel
theorem dX6_hearKnownClick_26 : decode cX6_hearKnownClick 26 = .ok (.iconst 3, 1) := by decide +kernel
theorem dX6_hearKnownClick_27 : decode cX6_hearKnownClick 27 = .ok (.invokevirtual 45, 3) := by decide +kernel
theorem dX6_hearKnownClick_30 : decode cX6_hearKnownClick 30 = .ok (.istore 8, 2) := by decide +kernel
theorem dX6_hearKnownClick_32 : decode cX6_hearKnownClick 32 = .ok (.aload 5, 2) := by decide +kernel
theorem dX6_hearKnownClick_34 : decode cX6_hearKnownClick 34 = .ok (.iload 7, 2) := by decide +kernel
theorem dX6_hearKnownClick_36 : decode cX6_hearKnownClick 36 = .ok (.iconst 3, 1) := by decide +kernel
theorem dX6_hearKnownClick_37 : decode cX6_hearKnownClick 37 = .ok (.iconst 0, 1) := by decide +kernel
theorem dX6_hearKnownClick_38 : decode cX6_hearKnownClick 38 = .ok (.invokevirtual 49, 3) := by decide +kernel
theorem dX6_hearKnownClick_41 : decode cX6_hearKnownClick 41 = .ok (.aload_n 0, 1) := by decide +kernel
theorem dX6_hearKnownClick_42 : decode cX6_hearKnownClick 42 = .ok (.getfield 12, 3) := by decide +kernel
theorem dX6_hearKnownClick_45 : decode cX6_hearKnownClick 45 = .ok (.aload_n 1, 1) := by decide +kernel
theorem dX6_hearKnownClick_46 : decode cX6_hearKnownClick 46 = .ok (.iload_n 2, 1) := by decide +kernel
theorem dX6_hearKnownClick_47 : decode cX6_hearKnownClick 47 = .ok (.iload_n 3, 1) := by decide +kernel
theorem dX6_hearKnownClick_48 : decode cX6_hearKnownClick 48 = .ok (.iload 7, 2) := by decide +kernel
theorem dX6_hearKnownClick_50 : decode cX6_hearKnownClick 50 = .ok (.invokevirtual 30, 3) := by decide +kernel
theorem dX6_hearKnownClick_53 : decode cX6_hearKnownClick 53 = .ok (.aload_n 0, 1) := by decide +kernel
theorem dX6_hearKnownClick_54 : decode cX6_hearKnownClick 54 = .ok (.aload_n 1, 1) := by decide +kernel
theorem dX6_hearKnownClick_55 : decode cX6_hearKnownClick 55 = .ok (.iload 7, 2) := by decide +kernel
theorem dX6_hearKnownClick_57 : decode cX6_hearKnownClick 57 = .ok (.iload 4, 2) := by decide +kernel
theorem dX6_hearKnownClick_59 : decode cX6_hearKnownClick 59 = .ok (.invokevirtual 34, 3) := by decide +kernel
theorem dX6_hearKnownClick_62 : decode cX6_hearKnownClick 62 = .ok (.aload_n 1, 1) := by decide +kernel
theorem dX6_hearKnownClick_63 : decode cX6_hearKnownClick 63 = .ok (.iload 7, 2) := by decide +kernel
theorem dX6_hearKnownClick_65 : decode cX6_hearKnownClick 65 = .ok (.invokevirtual 38, 3) := by decide +kernel
theorem dX6_hearKnownClick_68 : decode cX6_hearKnownClick 68 = .ok (.ifCond .eq 49, 3) := by decide +kernel
theorem dX6_hearKnownClick_71 : decode cX6_hearKnownClick 71 = .ok (.iload 4, 2) := by decide +kernel
theorem dX6_hearKnownClick_73 : decode cX6_hearKnownClick 73 = .ok (.aload_n 1, 1) := by decide +kernel
theorem dX6_hearKnownClick_74 : decode cX6_hearKnownClick 74 = .ok (.aload_n 1, 1) := by decide +kernel
theorem dX6_hearKnownClick_75 : decode cX6_hearKnownClick 75 = .ok (.iload 7, 2) := by decide +kernel
theorem dX6_hearKnownClick_77 : decode cX6_hearKnownClick 77 = .ok (.iload_n 2, 1) := by decide +kernel
theorem dX6_hearKnownClick_78 : decode cX6_hearKnownClick 78 = .ok (.iload_n 3, 1) := by decide +kernel
theorem dX6_hearKnownClick_79 : decode cX6_hearKnownClick 79 = .ok (.invokevirtual 53, 3) := by decide +kernel
theorem dX6_hearKnownClick_82 : decode cX6_hearKnownClick 82 = .ok (.invokevirtual 57, 3) := by decide +kernel
theorem dX6_hearKnownClick_85 : decode cX6_hearKnownClick 85 = .ok (.iadd, 1) := by decide +kernel
theorem dX6_hearKnownClick_86 : decode cX6_hearKnownClick 86 = .ok (.istore 9, 2) := by decide +kernel
theorem dX6_hearKnownClick_88 : decode cX6_hearKnownClick 88 = .ok (.aload 5, 2) := by decide +kernel
theorem dX6_hearKnownClick_90 : decode cX6_hearKnownClick 90 = .ok (.iload 7, 2) := by decide +kernel
theorem dX6_hearKnownClick_92 : decode cX6_hearKnownClick 92 = .ok (.iconst 3, 1) := by decide +kernel
theorem dX6_hearKnownClick_93 : decode cX6_hearKnownClick 93 = .ok (.aload 5, 2) := by decide +kernel
theorem dX6_hearKnownClick_95 : decode cX6_hearKnownClick 95 = .ok (.iload 7, 2) := by decide +kernel
theorem dX6_hearKnownClick_97 : decode cX6_hearKnownClick 97 = .ok (.iconst 4, 1) := by decide +kernel
theorem dX6_hearKnownClick_98 : decode cX6_hearKnownClick 98 = .ok (.invokevirtual 45, 3) := by decide +kernel
theorem dX6_hearKnownClick_101 : decode cX6_hearKnownClick 101 = .ok (.iload 9, 2) := by decide +kernel
theorem dX6_hearKnownClick_103 : decode cX6_hearKnownClick 103 = .ok (.isub, 1) := by decide +kernel
theorem dX6_hearKnownClick_104 : decode cX6_hearKnownClick 104 = .ok (.invokevirtual 49, 3) := by decide +kernel
theorem dX6_hearKnownClick_107 : decode cX6_hearKnownClick 107 = .ok (.aload 5, 2) := by decide +kernel
theorem dX6_hearKnownClick_109 : decode cX6_hearKnownClick 109 = .ok (.iload 7, 2) := by decide +kernel
theorem dX6_hearKnownClick_111 : decode cX6_hearKnownClick 111 = .ok (.iconst 4, 1) := by decide +kernel
theorem dX6_hearKnownClick_112 : decode cX6_hearKnownClick 112 = .ok (.iload 9, 2) := by decide +kernel
theorem dX6_hearKnownClick_114 : decode cX6_hearKnownClick 114 = .ok (.invokevirtual 49, 3) := by decide +kernel
theorem dX6_hearKnownClick_117 : decode cX6_hearKnownClick 117 = .ok (.aload 5, 2) := by decide +kernel
theorem dX6_hearKnownClick_119 : decode cX6_hearKnownClick 119 = .ok (.iload 7, 2) := by decide +kernel
theorem dX6_hearKnownClick_121 : decode cX6_hearKnownClick 121 = .ok (.iconst 3, 1) := by decide +kernel
theorem dX6_hearKnownClick_122 : decode cX6_hearKnownClick 122 = .ok (.invokevirtual 45, 3) := by decide +kernel
theorem dX6_hearKnownClick_125 : decode cX6_hearKnownClick 125 = .ok (.iload 8, 2) := by decide +kernel
theorem dX6_hearKnownClick_127 : decode cX6_hearKnownClick 127 = .ok (.if_icmp .eq 6, 3) := by decide +kernel
theorem dX6_hearKnownClick_130 : decode cX6_hearKnownClick 130 = .ok (.iinc 6 1, 3) := by decide +kernel
theorem dX6_hearKnownClick_133 : decode cX6_hearKnownClick 133 = .ok (.iinc 7 1, 3) := by decide +kernel
theorem dX6_hearKnownClick_136 : decode cX6_hearKnownClick 136 = .ok (.goto (-124), 3) := by decide +kernel
theorem dX6_hearKnownClick_139 : decode cX6_hearKnownClick 139 = .ok (.aload_n 1, 1) := by decide +kernel
theorem dX6_hearKnownClick_140 : decode cX6_hearKnownClick 140 = .ok (.dup, 1) := by decide +kernel
theorem dX6_hearKnownClick_141 : decode cX6_hearKnownClick 141 = .ok (.getfield 42, 3) := by decide +kernel
theorem dX6_hearKnownClick_144 : decode cX6_hearKnownClick 144 = .ok (.iconst 1, 1) := by decide +kernel
theorem dX6_hearKnownClick_145 : decode cX6_hearKnownClick 145 = .ok (.iadd, 1) := by decide +kernel
theorem dX6_hearKnownClick_146 : decode cX6_hearKnownClick 146 = .ok (.putfield 42, 3) := by decide +kernel
theorem dX6_hearKnownClick_149 : decode cX6_hearKnownClick 149 = .ok (.iload 6, 2) := by decide +kernel
theorem dX6_hearKnownClick_151 : decode cX6_hearKnownClick 151 = .ok (.ireturn, 1) := by decide +kernel
set_option maxRecDepth 20000 in
theorem ggX6_listen_X2_draw : GoodIn wsX6_listen wsX2_draw := goodIn_r _ [10, 11, 12, 13, 14, 15, 53, 54, 55, 56, 57, 58, 59, 60] (by decide +kernel) (by decide +kernel)
set_option maxRecDepth 20000 in
theorem gX6_listen_X2_draw : GoodIn wsX6_listen (wsV RX6 65 RX2 yX2_draw wsX2_draw) := goodIn_app (goodIn_of _ (by decide +kernel)) ggX6_listen_X2_draw
set_option maxRecDepth 20000 in
theorem ggX6_listen_X2_setting : GoodIn wsX6_listen wsX2_setting := goodIn_r _ [19, 20, 21, 22, 23, 24, 25, 26, 27, 28, 29, 53, 54, 55, 56, 57, 58, 59, 60, 49, 50, 51, 52] (by decide +kernel) (by decide +kernel)
set_option maxRecDepth 20000 in
theorem gX6_listen_X2_setting : GoodIn wsX6_listen (wsV RX6 68 RX2 yX2_setting wsX2_setting) := goodIn_app (goodIn_of _ (by decide +kernel)) ggX6_listen_X2_setting
set_option maxRecDepth 20000 in
theorem ggX6_listen_X6_drawJitter : GoodIn wsX6_listen wsX6_drawJitter := goodIn_r _ [33, 16, 17, 18, 9, 19, 20, 21, 22, 23, 24, 25, 26, 27, 28, 29, 6, 7, 8, 10, 11, 12, 13, 14, 15, 53, 54, 55, 56, 57, 58, 59, 60, 49, 50, 51, 52] (by decide +kernel) (by decide +kernel)
set_option maxRecDepth 20000 in
theorem gX6_listen_X6_drawJitter : GoodIn wsX6_listen (va_wsS RX6 71 yX6_drawJitter wsX6_drawJitter) := goodIn_app (goodIn_of _ (by decide +kernel)) ggX6_listen_X6_drawJitter
set_option maxRecDepth 20000 in
theorem ggX6_listen_X9_at : GoodIn wsX6_listen wsX9_at := goodIn_r _ [25, 26, 27, 28, 29, 49, 50, 51, 52] (by decide +kernel) (by decide +kernel)
set_option maxRecDepth 20000 in
theorem gX6_listen_X9_at : GoodIn wsX6_listen (wsV RX6 45 RX9 yX9_at wsX9_at) := goodIn_app (goodIn_of _ (by decide +kernel)) ggX6_listen_X9_at
set_option maxRecDepth 20000 in
theorem ggX6_listen_X6_isPreferred : GoodIn wsX6_listen wsX6_isPreferred := goodIn_r _ [38, 2, 3, 16, 17, 18, 9, 19, 20, 21, 22, 23, 24, 25, 26, 27, 28, 29, 34, 47, 48, 53, 54, 55, 56, 57, 58, 59, 60, 49, 50, 51, 52] (by decide +kernel) (by decide +kernel)
set_option maxRecDepth 20000 in
theorem gX6_listen_X6_isPreferred : GoodIn wsX6_listen (wsV RX6 75 RX6 yX6_isPreferred wsX6_isPreferred) := goodIn_app (goodIn_of _ (by decide +kernel)) ggX6_listen_X6_isPreferred
set_option maxRecDepth 20000 in
theorem ggX6_listen_X6_write : GoodIn wsX6_listen wsX6_write := goodIn_r _ [42, 1, 2, 3, 34, 22, 23, 24, 25, 26, 27, 28, 29, 43, 44, 45, 46, 47, 48, 49, 50, 51, 52] (by decide +kernel) (by decide +kernel)
set_option maxRecDepth 20000 in
theorem gX6_listen_X6_write : GoodIn wsX6_listen (wsV RX6 79 RX6 yX6_write wsX6_write) := goodIn_app (goodIn_of _ (by decide +kernel)) ggX6_listen_X6_write
theorem dX6_listen_0 : decode cX6_listen 0 = .ok (.ldc 61, 2) := by decide +kernel
theorem dX6_listen_2 : decode cX6_listen 2 = .ok (.istore 4, 2) := by decide +kernel
theorem dX6_listen_4 : decode cX6_listen 4 = .ok (.iconst 0, 1) := by decide +kernel
theorem dX6_listen_5 : decode cX6_listen 5 = .ok (.istore 5, 2) := by decide +kernel
theorem dX6_listen_7 : decode cX6_listen 7 = .ok (.iconst 0, 1) := by decide +kernel
theorem dX6_listen_8 : decode cX6_listen 8 = .ok (.istore 6, 2) := by decide +kernel
theorem dX6_listen_10 : decode cX6_listen 10 = .ok (.iload 6, 2) := by decide +kernel
theorem dX6_listen_12 : decode cX6_listen 12 = .ok (.aload_n 0, 1) := by decide +kernel
theorem dX6_listen_13 : decode cX6_listen 13 = .ok (.getfield 12, 3) := by decide +kernel
theorem dX6_listen_16 : decode cX6_listen 16 = .ok (.getfield 62, 3) := by decide +kernel
theorem dX6_listen_19 : decode cX6_listen 19 = .ok (.getfield 24, 3) := by decide +kernel
theorem dX6_listen_22 : decode cX6_listen 22 = .ok (.if_icmp .ge 125, 3) := by decide +kernel
theorem dX6_listen_25 : decode cX6_listen 25 = .ok (.aload_n 1, 1) := by decide +kernel
theorem dX6_listen_26 : decode cX6_listen 26 = .ok (.bipush 100, 2) := by decide +kernel
theorem dX6_listen_28 : decode cX6_listen 28 = .ok (.invokevirtual 65, 3) := by decide +kernel
theorem dX6_listen_31 : decode cX6_listen 31 = .ok (.aload_n 1, 1) := by decide +kernel
theorem dX6_listen_32 : decode cX6_listen 32 = .ok (.iconst 2, 1) := by decide +kernel
theorem dX6_listen_33 : decode cX6_listen 33 = .ok (.invokevirtual 68, 3) := by decide +kernel
theorem dX6_listen_36 : decode cX6_listen 36 = .ok (.if_icmp .ge 7, 3) := by decide +kernel
theorem dX6_listen_39 : decode cX6_listen 39 = .ok (.iconst 1, 1) := by decide +kernel
theorem dX6_listen_40 : decode cX6_listen 40 = .ok (.goto 4, 3) := by decide +kernel
theorem dX6_listen_43 : decode cX6_listen 43 = .ok (.iconst 0, 1) := by decide +kernel
theorem dX6_listen_44 : decode cX6_listen 44 = .ok (.istore 7, 2) := by decide +kernel
theorem dX6_listen_46 : decode cX6_listen 46 = .ok (.iload 7, 2) := by decide +kernel
theorem dX6_listen_48 : decode cX6_listen 48 = .ok (.ifCond .eq 7, 3) := by decide +kernel
theorem dX6_listen_51 : decode cX6_listen 51 = .ok (.iconst 0, 1) := by decide +kernel
theorem dX6_listen_52 : decode cX6_listen 52 = .ok (.goto 7, 3) := by decide +kernel
theorem dX6_listen_55 : decode cX6_listen 55 = .ok (.aload_n 1, 1) := by decide +kernel
theorem dX6_listen_56 : decode cX6_listen 56 = .ok (.invokestatic 71, 3) := by decide +kernel
theorem dX6_listen_59 : decode cX6_listen 59 = .ok (.istore 8, 2) := by decide +kernel
theorem dX6_listen_61 : decode cX6_listen 61 = .ok (.iload 7, 2) := by decide +kernel
theorem dX6_listen_63 : decode cX6_listen 63 = .ok (.ifCond .ne 78, 3) := by decide +kernel
theorem dX6_listen_66 : decode cX6_listen 66 = .ok (.aload_n 0, 1) := by decide +kernel
theorem dX6_listen_67 : decode cX6_listen 67 = .ok (.getfield 12, 3) := by decide +kernel
theorem dX6_listen_70 : decode cX6_listen 70 = .ok (.getfield 62, 3) := by decide +kernel
theorem dX6_listen_73 : decode cX6_listen 73 = .ok (.iload 6, 2) := by decide +kernel
theorem dX6_listen_75 : decode cX6_listen 75 = .ok (.iconst 3, 1) := by decide +kernel
theorem dX6_listen_76 : decode cX6_listen 76 = .ok (.invokevirtual 45, 3) := by decide +kernel
theorem dX6_listen_79 : decode cX6_listen 79 = .ok (.aload_n 1, 1) := by decide +kernel
theorem dX6_listen_80 : decode cX6_listen 80 = .ok (.iconst 4, 1) := by decide +kernel
theorem dX6_listen_81 : decode cX6_listen 81 = .ok (.invokevirtual 68, 3) := by decide +kernel
theorem dX6_listen_84 : decode cX6_listen 84 = .ok (.if_icmp .ge 6, 3) := by decide +kernel
theorem dX6_listen_87 : decode cX6_listen 87 = .ok (.goto 54, 3) := by decide +kernel
theorem dX6_listen_90 : decode cX6_listen 90 = .ok (.iload_n 3, 1) := by decide +kernel
theorem dX6_listen_91 : decode cX6_listen 91 = .ok (.aload_n 0, 1) := by decide +kernel
theorem dX6_listen_92 : decode cX6_listen 92 = .ok (.getfield 12, 3) := by decide +kernel
theorem dX6_listen_95 : decode cX6_listen 95 = .ok (.getfield 62, 3) := by decide +kernel
theorem dX6_listen_98 : decode cX6_listen 98 = .ok (.iload 6, 2) := by decide +kernel
theorem dX6_listen_100 : decode cX6_listen 100 = .ok (.iconst 2, 1) := by decide +kernel
theorem dX6_listen_101 : decode cX6_listen 101 = .ok (.invokevirtual 45, 3) := by decide +kernel
theorem dX6_listen_104 : decode cX6_listen 104 = .ok (.iadd, 1) := by decide +kernel
theorem dX6_listen_105 : decode cX6_listen 105 = .ok (.iload 8, 2) := by decide +kernel
theorem dX6_listen_107 : decode cX6_listen 107 = .ok (.iadd, 1) := by decide +kernel
theorem dX6_listen_108 : decode cX6_listen 108 = .ok (.istore 9, 2) := by decide +kernel
theorem dX6_listen_110 : decode cX6_listen 110 = .ok (.iload 4, 2) := by decide +kernel
theorem dX6_listen_112 : decode cX6_listen 112 = .ok (.ldc 61, 2) := by decide +kernel
theorem dX6_listen_114 : decode cX6_listen 114 = .ok (.if_icmp .eq 19, 3) := by decide +kernel
theorem dX6_listen_117 : decode cX6_listen 117 = .ok (.aload_n 0, 1) := by decide +kernel
theorem dX6_listen_118 : decode cX6_listen 118 = .ok (.aload_n 1, 1) := by decide +kernel
theorem dX6_listen_119 : decode cX6_listen 119 = .ok (.iload 6, 2) := by decide +kernel
theorem dX6_listen_121 : decode cX6_listen 121 = .ok (.iload 9, 2) := by decide +kernel
theorem dX6_listen_123 : decode cX6_listen 123 = .ok (.iload 4, 2) := by decide +kernel
theorem dX6_listen_125 : decode cX6_listen 125 = .ok (.iload 5, 2) := by decide +kernel
theorem dX6_listen_127 : decode cX6_listen 127 = .ok (.invokevirtual 75, 3) := by decide +kernel
theorem dX6_listen_130 : decode cX6_listen 130 = .ok (.ifCond .eq 11, 3) := by decide +kernel
theorem dX6_listen_133 : decode cX6_listen 133 = .ok (.iload 6, 2) := by decide +kernel
theorem dX6_listen_135 : decode cX6_listen 135 = .ok (.istore 4, 2) := by decide +kernel
theorem dX6_listen_137 : decode cX6_listen 137 = .ok (.iload 9, 2) := by decide +kernel
theorem dX6_listen_139 : decode cX6_listen 139 = .ok (.istore 5, 2) := by decide +kernel
theorem dX6_listen_141 : decode cX6_listen 141 = .ok (.iinc 6 1, 3) := by decide +kernel
theorem dX6_listen_144 : decode cX6_listen 144 = .ok (.goto (-134), 3) := by decide +kernel
theorem dX6_listen_147 : decode cX6_listen 147 = .ok (.aload_n 0, 1) := by decide +kernel
theorem dX6_listen_148 : decode cX6_listen 148 = .ok (.aload_n 1, 1) := by decide +kernel
theorem dX6_listen_149 : decode cX6_listen 149 = .ok (.getfield 18, 3) := by decide +kernel
theorem dX6_listen_152 : decode cX6_listen 152 = .ok (.iload_n 2, 1) := by decide +kernel
theorem dX6_listen_153 : decode cX6_listen 153 = .ok (.iload 4, 2) := by decide +kernel
theorem dX6_listen_155 : decode cX6_listen 155 = .ok (.iload 5, 2) := by decide +kernel
theorem dX6_listen_157 : decode cX6_listen 157 = .ok (.invokevirtual 79, 3) := by decide +kernel
theorem dX6_listen_160 : decode cX6_listen 160 = .ok (.return_, 1) := by decide +kernel
set_option maxRecDepth 20000 in
theorem ggX6_drawJitter_X2_setting : GoodIn wsX6_drawJitter wsX2_setting := goodIn_r _ [5, 6, 7, 8, 9, 10, 11, 12, 13, 14, 15, 25, 26, 27, 28, 29, 30, 31, 32, 33, 34, 35, 36] (by decide +kernel) (by decide +kernel)
set_option maxRecDepth 20000 in
theorem gX6_drawJitter_X2_setting : GoodIn wsX6_drawJitter (wsV RX6 68 RX2 yX2_setting wsX2_setting) := goodIn_app (goodIn_of _ (by decide +kernel)) ggX6_drawJitter_X2_setting
set_option maxRecDepth 20000 in
theorem ggX6_drawJitter_X2_draw : GoodIn wsX6_drawJitter wsX2_draw := goodIn_r _ [19, 20, 21, 22, 23, 24, 25, 26, 27, 28, 29, 30, 31, 32] (by decide +kernel) (by decide +kernel)
set_option maxRecDepth 20000 in
theorem gX6_drawJitter_X2_draw : GoodIn wsX6_drawJitter (wsV RX6 65 RX2 yX2_draw wsX2_draw) := goodIn_app (goodIn_of _ (by decide +kernel)) ggX6_drawJitter_X2_draw
theorem dX6_drawJitter_0 : decode cX6_drawJitter 0 = .ok (.aload_n 0, 1) := by decide +kernel
theorem dX6_drawJitter_1 : decode cX6_drawJitter 1 = .ok (.iconst 3, 1) := by decide +kernel
theorem dX6_drawJitter_2 : decode cX6_drawJitter 2 = .ok (.invokevirtual 68, 3) := by decide +kernel
theorem dX6_drawJitter_5 : decode cX6_drawJitter 5 = .ok (.istore_n 1, 1) := by decide +kernel
theorem dX6_drawJitter_6 : decode cX6_drawJitter 6 = .ok (.iload_n 1, 1) := by decide +kernel
theorem dX6_drawJitter_7 : decode cX6_drawJitter 7 = .ok (.ifCond .le 17, 3) := by decide +kernel
theorem dX6_drawJitter_10 : decode cX6_drawJitter 10 = .ok (.aload_n 0, 1) := by decide +kernel
theorem dX6_drawJitter_11 : decode cX6_drawJitter 11 = .ok (.iconst 2, 1) := by decide +kernel
theorem dX6_drawJitter_12 : decode cX6_drawJitter 12 = .ok (.iload_n 1, 1) := by decide +kernel
theorem dX6_drawJitter_13 : decode cX6_drawJitter 13 = .ok (.imul, 1) := by decide +kernel
theorem dX6_drawJitter_14 : decode cX6_drawJitter 14 = .ok (.iconst 1, 1) := by decide +kernel
theorem dX6_drawJitter_15 : decode cX6_drawJitter 15 = .ok (.iadd, 1) := by decide +kernel
theorem dX6_drawJitter_16 : decode cX6_drawJitter 16 = .ok (.invokevirtual 65, 3) := by decide +kernel
theorem dX6_drawJitter_19 : decode cX6_drawJitter 19 = .ok (.iload_n 1, 1) := by decide +kernel
theorem dX6_drawJitter_20 : decode cX6_drawJitter 20 = .ok (.isub, 1) := by decide +kernel
theorem dX6_drawJitter_21 : decode cX6_drawJitter 21 = .ok (.goto 4, 3) := by decide +kernel
theorem dX6_drawJitter_24 : decode cX6_drawJitter 24 = .ok (.iconst 0, 1) := by decide +kernel
theorem dX6_drawJitter_25 : decode cX6_drawJitter 25 = .ok (.ireturn, 1) := by decide +kernel
set_option maxRecDepth 20000 in
theorem ggX6_isPreferred_X2_setting : GoodIn wsX6_isPreferred wsX2_setting := goodIn_r _ [7, 8, 9, 10, 11, 12, 13, 14, 15, 16, 17, 21, 22, 23, 24, 25, 26, 27, 28, 29, 30, 31, 32] (by decide +kernel) (by decide +kernel)
set_option maxRecDepth 20000 in
theorem gX6_isPreferred_X2_setting : GoodIn wsX6_isPreferred (wsV RX6 68 RX2 yX2_setting wsX2_setting) := goodIn_app (goodIn_of _ (by decide +kernel)) ggX6_isPreferred_X2_setting
set_option maxRecDepth 20000 in
theorem ggX6_isPreferred_X9_at : GoodIn wsX6_isPreferred wsX9_at := goodIn_r _ [13, 14, 15, 16, 17, 29, 30, 31, 32] (by decide +kernel) (by decide +kernel)
set_option maxRecDepth 20000 in
theorem gX6_isPreferred_X9_at : GoodIn wsX6_isPreferred (wsV RX6 45 RX9 yX9_at wsX9_at) := goodIn_app (goodIn_of _ (by decide +kernel)) ggX6_isPreferred_X9_at
theorem dX6_isPreferred_0 : decode cX6_isPreferred 0 = .ok (.aload_n 1, 1) := by decide +kernel
theorem dX6_isPreferred_1 : decode cX6_isPreferred 1 = .ok (.iconst 5, 1) := by decide +kernel
theorem dX6_isPreferred_2 : decode cX6_isPreferred 2 = .ok (.invokevirtual 68, 3) := by decide +kernel
theorem dX6_isPreferred_5 : decode cX6_isPreferred 5 = .ok (.ifCond .ne 15, 3) := by decide +kernel
theorem dX6_isPreferred_8 : decode cX6_isPreferred 8 = .ok (.iload_n 3, 1) := by decide +kernel
theorem dX6_isPreferred_9 : decode cX6_isPreferred 9 = .ok (.iload 5, 2) := by decide +kernel
theorem dX6_isPreferred_11 : decode cX6_isPreferred 11 = .ok (.if_icmp .ge 7, 3) := by decide +kernel
theorem dX6_isPreferred_14 : decode cX6_isPreferred 14 = .ok (.iconst 1, 1) := by decide +kernel
theorem dX6_isPreferred_15 : decode cX6_isPreferred 15 = .ok (.goto 4, 3) := by decide +kernel
theorem dX6_isPreferred_18 : decode cX6_isPreferred 18 = .ok (.iconst 0, 1) := by decide +kernel
theorem dX6_isPreferred_19 : decode cX6_isPreferred 19 = .ok (.ireturn, 1) := by decide +kernel
theorem dX6_isPreferred_20 : decode cX6_isPreferred 20 = .ok (.aload_n 0, 1) := by decide +kernel
theorem dX6_isPreferred_21 : decode cX6_isPreferred 21 = .ok (.getfield 12, 3) := by decide +kernel
theorem dX6_isPreferred_24 : decode cX6_isPreferred 24 = .ok (.getfield 62, 3) := by decide +kernel
theorem dX6_isPreferred_27 : decode cX6_isPreferred 27 = .ok (.iload_n 2, 1) := by decide +kernel
theorem dX6_isPreferred_28 : decode cX6_isPreferred 28 = .ok (.iconst 3, 1) := by decide +kernel
theorem dX6_isPreferred_29 : decode cX6_isPreferred 29 = .ok (.invokevirtual 45, 3) := by decide +kernel
theorem dX6_isPreferred_32 : decode cX6_isPreferred 32 = .ok (.aload_n 0, 1) := by decide +kernel
theorem dX6_isPreferred_33 : decode cX6_isPreferred 33 = .ok (.getfield 12, 3) := by decide +kernel
theorem dX6_isPreferred_36 : decode cX6_isPreferred 36 = .ok (.getfield 62, 3) := by decide +kernel
theorem dX6_isPreferred_39 : decode cX6_isPreferred 39 = .ok (.iload 4, 2) := by decide +kernel
theorem dX6_isPreferred_41 : decode cX6_isPreferred 41 = .ok (.iconst 3, 1) := by decide +kernel
theorem dX6_isPreferred_42 : decode cX6_isPreferred 42 = .ok (.invokevirtual 45, 3) := by decide +kernel
theorem dX6_isPreferred_45 : decode cX6_isPreferred 45 = .ok (.if_icmp .le 7, 3) := by decide +kernel
theorem dX6_isPreferred_48 : decode cX6_isPreferred 48 = .ok (.iconst 1, 1) := by decide +kernel
theorem dX6_isPreferred_49 : decode cX6_isPreferred 49 = .ok (.goto 4, 3) := by decide +kernel
theorem dX6_isPreferred_52 : decode cX6_isPreferred 52 = .ok (.iconst 0, 1) := by decide +kernel
theorem dX6_isPreferred_53 : decode cX6_isPreferred 53 = .ok (.ireturn, 1) := by decide +kernel
set_option maxRecDepth 20000 in
theorem ggX6_write_X9_at : GoodIn wsX6_write wsX9_at := goodIn_r _ [8, 9, 10, 11, 12, 19, 20, 21, 22] (by decide +kernel) (by decide +kernel)
set_option maxRecDepth 20000 in
theorem gX6_write_X9_at : GoodIn wsX6_write (wsV RX6 45 RX9 yX9_at wsX9_at) := goodIn_app (goodIn_of _ (by decide +kernel)) ggX6_write_X9_at
set_option maxRecDepth 20000 in
theorem ggX6_write_X9_put : GoodIn wsX6_write wsX9_put := goodIn_r _ [16, 9, 10, 12, 19, 20, 21, 22] (by decide +kernel) (by decide +kernel)
set_option maxRecDepth 20000 in
theorem gX6_write_X9_put : GoodIn wsX6_write (wsV RX6 49 RX9 yX9_put wsX9_put) := goodIn_app (goodIn_of _ (by decide +kernel)) ggX6_write_X9_put
theorem dX6_write_0 : decode cX6_write 0 = .ok (.aload_n 1, 1) := by decide +kernel
theorem dX6_write_1 : decode cX6_write 1 = .ok (.iload_n 2, 1) := by decide +kernel
theorem dX6_write_2 : decode cX6_write 2 = .ok (.iconst 2, 1) := by decide +kernel
theorem dX6_write_3 : decode cX6_write 3 = .ok (.invokevirtual 45, 3) := by decide +kernel
theorem dX6_write_6 : decode cX6_write 6 = .ok (.aload_n 1, 1) := by decide +kernel
theorem dX6_write_7 : decode cX6_write 7 = .ok (.iload_n 2, 1) := by decide +kernel
theorem dX6_write_8 : decode cX6_write 8 = .ok (.iconst 3, 1) := by decide +kernel
theorem dX6_write_9 : decode cX6_write 9 = .ok (.invokevirtual 45, 3) := by decide +kernel
theorem dX6_write_12 : decode cX6_write 12 = .ok (.isub, 1) := by decide +kernel
theorem dX6_write_13 : decode cX6_write 13 = .ok (.istore 5, 2) := by decide +kernel
theorem dX6_write_15 : decode cX6_write 15 = .ok (.aload_n 1, 1) := by decide +kernel
theorem dX6_write_16 : decode cX6_write 16 = .ok (.iload_n 2, 1) := by decide +kernel
theorem dX6_write_17 : decode cX6_write 17 = .ok (.iconst 4, 1) := by decide +kernel
theorem dX6_write_18 : decode cX6_write 18 = .ok (.iload_n 3, 1) := by decide +kernel
theorem dX6_write_19 : decode cX6_write 19 = .ok (.ldc 61, 2) := by decide +kernel
theorem dX6_write_21 : decode cX6_write 21 = .ok (.if_icmp .ne 8, 3) := by decide +kernel
theorem dX6_write_24 : decode cX6_write 24 = .ok (.ldc 61, 2) := by decide +kernel
theorem dX6_write_26 : decode cX6_write 26 = .ok (.goto 8, 3) := by decide +kernel
theorem dX6_write_29 : decode cX6_write 29 = .ok (.iload 4, 2) := by decide +kernel
theorem dX6_write_31 : decode cX6_write 31 = .ok (.iload 5, 2) := by decide +kernel
theorem dX6_write_33 : decode cX6_write 33 = .ok (.iadd, 1) := by decide +kernel
theorem dX6_write_34 : decode cX6_write 34 = .ok (.invokevirtual 49, 3) := by decide +kernel
theorem dX6_write_37 : decode cX6_write 37 = .ok (.aload_n 1, 1) := by decide +kernel
theorem dX6_write_38 : decode cX6_write 38 = .ok (.iload_n 2, 1) := by decide +kernel
theorem dX6_write_39 : decode cX6_write 39 = .ok (.iconst 5, 1) := by decide +kernel
theorem dX6_write_40 : decode cX6_write 40 = .ok (.aload_n 0, 1) := by decide +kernel
theorem dX6_write_41 : decode cX6_write 41 = .ok (.getfield 12, 3) := by decide +kernel
theorem dX6_write_44 : decode cX6_write 44 = .ok (.getfield 62, 3) := by decide +kernel
theorem dX6_write_47 : decode cX6_write 47 = .ok (.iload_n 3, 1) := by decide +kernel
theorem dX6_write_48 : decode cX6_write 48 = .ok (.iconst 0, 1) := by decide +kernel
theorem dX6_write_49 : decode cX6_write 49 = .ok (.invokevirtual 45, 3) := by decide +kernel
theorem dX6_write_52 : decode cX6_write 52 = .ok (.invokevirtual 49, 3) := by decide +kernel
theorem dX6_write_55 : decode cX6_write 55 = .ok (.aload_n 1, 1) := by decide +kernel
theorem dX6_write_56 : decode cX6_write 56 = .ok (.iload_n 2, 1) := by decide +kernel
theorem dX6_write_57 : decode cX6_write 57 = .ok (.bipush 6, 2) := by decide +kernel
theorem dX6_write_59 : decode cX6_write 59 = .ok (.aload_n 0, 1) := by decide +kernel
theorem dX6_write_60 : decode cX6_write 60 = .ok (.getfield 12, 3) := by decide +kernel
theorem dX6_write_63 : decode cX6_write 63 = .ok (.getfield 62, 3) := by decide +kernel
theorem dX6_write_66 : decode cX6_write 66 = .ok (.iload_n 3, 1) := by decide +kernel
theorem dX6_write_67 : decode cX6_write 67 = .ok (.iconst 3, 1) := by decide +kernel
theorem dX6_write_68 : decode cX6_write 68 = .ok (.invokevirtual 45, 3) := by decide +kernel
theorem dX6_write_71 : decode cX6_write 71 = .ok (.invokevirtual 49, 3) := by decide +kernel
theorem dX6_write_74 : decode cX6_write 74 = .ok (.aload_n 1, 1) := by decide +kernel
theorem dX6_write_75 : decode cX6_write 75 = .ok (.iload_n 2, 1) := by decide +kernel
theorem dX6_write_76 : decode cX6_write 76 = .ok (.bipush 7, 2) := by decide +kernel
theorem dX6_write_78 : decode cX6_write 78 = .ok (.aload_n 0, 1) := by decide +kernel
theorem dX6_write_79 : decode cX6_write 79 = .ok (.getfield 12, 3) := by decide +kernel
theorem dX6_write_82 : decode cX6_write 82 = .ok (.getfield 62, 3) := by decide +kernel
theorem dX6_write_85 : decode cX6_write 85 = .ok (.iload_n 3, 1) := by decide +kernel
theorem dX6_write_86 : decode cX6_write 86 = .ok (.iconst 4, 1) := by decide +kernel
theorem dX6_write_87 : decode cX6_write 87 = .ok (.invokevirtual 45, 3) := by decide +kernel
theorem dX6_write_90 : decode cX6_write 90 = .ok (.invokevirtual 49, 3) := by decide +kernel
theorem dX6_write_93 : decode cX6_write 93 = .ok (.aload_n 1, 1) := by decide +kernel
theorem dX6_write_94 : decode cX6_write 94 = .ok (.iload_n 2, 1) := by decide +kernel
theorem dX6_write_95 : decode cX6_write 95 = .ok (.bipush 8, 2) := by decide +kernel
theorem dX6_write_97 : decode cX6_write 97 = .ok (.aload_n 0, 1) := by decide +kernel
theorem dX6_write_98 : decode cX6_write 98 = .ok (.getfield 12, 3) := by decide +kernel
theorem dX6_write_101 : decode cX6_write 101 = .ok (.getfield 62, 3) := by decide +kernel
theorem dX6_write_104 : decode cX6_write 104 = .ok (.iload_n 3, 1) := by decide +kernel
theorem dX6_write_105 : decode cX6_write 105 = .ok (.iconst 5, 1) := by decide +kernel
theorem dX6_write_106 : decode cX6_write 106 = .ok (.invokevirtual 45, 3) := by decide +kernel
theorem dX6_write_109 : decode cX6_write 109 = .ok (.invokevirtual 49, 3) := by decide +kernel
theorem dX6_write_112 : decode cX6_write 112 = .ok (.return_, 1) := by decide +kernel
theorem dX7_way_0 : decode cX7_way 0 = .ok (.iload_n 0, 1) := by decide +kernel
theorem dX7_way_1 : decode cX7_way 1 = .ok (.i2l, 1) := by decide +kernel
theorem dX7_way_2 : decode cX7_way 2 = .ok (.iload_n 0, 1) := by decide +kernel
theorem dX7_way_3 : decode cX7_way 3 = .ok (.i2l, 1) := by decide +kernel
theorem dX7_way_4 : decode cX7_way 4 = .ok (.lmul, 1) := by decide +kernel
theorem dX7_way_5 : decode cX7_way 5 = .ok (.iload_n 1, 1) := by decide +kernel
theorem dX7_way_6 : decode cX7_way 6 = .ok (.i2l, 1) := by decide +kernel
theorem dX7_way_7 : decode cX7_way 7 = .ok (.iload_n 1, 1) := by decide +kernel
theorem dX7_way_8 : decode cX7_way 8 = .ok (.i2l, 1) := by decide +kernel
theorem dX7_way_9 : decode cX7_way 9 = .ok (.lmul, 1) := by decide +kernel
theorem dX7_way_10 : decode cX7_way 10 = .ok (.ladd, 1) := by decide +kernel
theorem dX7_way_11 : decode cX7_way 11 = .ok (.lstore_n 2, 1) := by decide +kernel
theorem dX7_way_12 : decode cX7_way 12 = .ok (.lconst 0, 1) := by decide +kernel
theorem dX7_way_13 : decode cX7_way 13 = .ok (.lstore 4, 2) := by decide +kernel
theorem dX7_way_15 : decode cX7_way 15 = .ok (.ldc2_w 7, 3) := by decide +kernel
theorem dX7_way_18 : decode cX7_way 18 = .ok (.lstore 6, 2) := by decide +kernel
theorem dX7_way_20 : decode cX7_way 20 = .ok (.lload 6, 2) := by decide +kernel
theorem dX7_way_22 : decode cX7_way 22 = .ok (.lconst 0, 1) := by decide +kernel
theorem dX7_way_23 : decode cX7_way 23 = .ok (.lcmp, 1) := by decide +kernel
theorem dX7_way_24 : decode cX7_way 24 = .ok (.ifCond .le 35, 3) := by decide +kernel
theorem dX7_way_27 : decode cX7_way 27 = .ok (.lload 4, 2) := by decide +kernel
theorem dX7_way_29 : decode cX7_way 29 = .ok (.lload 6, 2) := by decide +kernel
theorem dX7_way_31 : decode cX7_way 31 = .ok (.ladd, 1) := by decide +kernel
theorem dX7_way_32 : decode cX7_way 32 = .ok (.lload 4, 2) := by decide +kernel
theorem dX7_way_34 : decode cX7_way 34 = .ok (.lload 6, 2) := by decide +kernel
theorem dX7_way_36 : decode cX7_way 36 = .ok (.ladd, 1) := by decide +kernel
theorem dX7_way_37 : decode cX7_way 37 = .ok (.lmul, 1) := by decide +kernel
theorem dX7_way_38 : decode cX7_way 38 = .ok (.lload_n 2, 1) := by decide +kernel
theorem dX7_way_39 : decode cX7_way 39 = .ok (.lcmp, 1) := by decide +kernel
theorem dX7_way_40 : decode cX7_way 40 = .ok (.ifCond .gt 10, 3) := by decide +kernel
theorem dX7_way_43 : decode cX7_way 43 = .ok (.lload 4, 2) := by decide +kernel
theorem dX7_way_45 : decode cX7_way 45 = .ok (.lload 6, 2) := by decide +kernel
theorem dX7_way_47 : decode cX7_way 47 = .ok (.ladd, 1) := by decide +kernel
theorem dX7_way_48 : decode cX7_way 48 = .ok (.lstore 4, 2) := by decide +kernel
theorem dX7_way_50 : decode cX7_way 50 = .ok (.lload 6, 2) := by decide +kernel
theorem dX7_way_52 : decode cX7_way 52 = .ok (.iconst 1, 1) := by decide +kernel
theorem dX7_way_53 : decode cX7_way 53 = .ok (.lshr, 1) := by decide +kernel
theorem dX7_way_54 : decode cX7_way 54 = .ok (.lstore 6, 2) := by decide +kernel
theorem dX7_way_56 : decode cX7_way 56 = .ok (.goto (-36), 3) := by decide +kernel
theorem dX7_way_59 : decode cX7_way 59 = .ok (.lload 4, 2) := by decide +kernel
theorem dX7_way_61 : decode cX7_way 61 = .ok (.l2i, 1) := by decide +kernel
theorem dX7_way_62 : decode cX7_way 62 = .ok (.ireturn, 1) := by decide +kernel
theorem dX7_strength_0 : decode cX7_strength 0 = .ok (.iload_n 0, 1) := by decide +kernel
theorem dX7_strength_1 : decode cX7_strength 1 = .ok (.ifCond .ge 7, 3) := by decide +kernel
theorem dX7_strength_4 : decode cX7_strength 4 = .ok (.iconst 0, 1) := by decide +kernel
theorem dX7_strength_5 : decode cX7_strength 5 = .ok (.goto 10, 3) := by decide +kernel
theorem dX7_strength_8 : decode cX7_strength 8 = .ok (.ldc 9, 2) := by decide +kernel
theorem dX7_strength_10 : decode cX7_strength 10 = .ok (.iload_n 0, 1) := by decide +kernel
theorem dX7_strength_11 : decode cX7_strength 11 = .ok (.bipush 100, 2) := by decide +kernel
theorem dX7_strength_13 : decode cX7_strength 13 = .ok (.iadd, 1) := by decide +kernel
theorem dX7_strength_14 : decode cX7_strength 14 = .ok (.idiv, 1) := by decide +kernel
theorem dX7_strength_15 : decode cX7_strength 15 = .ok (.ireturn, 1) := by decide +kernel
theorem dX7_crosses_0 : decode cX7_crosses 0 = .ok (.iload_n 0, 1) := by decide +kernel
theorem dX7_crosses_1 : decode cX7_crosses 1 = .ok (.iload_n 2, 1) := by decide +kernel
theorem dX7_crosses_2 : decode cX7_crosses 2 = .ok (.invokestatic 10, 3) := by decide +kernel
theorem dX7_crosses_5 : decode cX7_crosses 5 = .ok (.iload 4, 2) := by decide +kernel
theorem dX7_crosses_7 : decode cX7_crosses 7 = .ok (.if_icmp .ge 13, 3) := by decide +kernel
theorem dX7_crosses_10 : decode cX7_crosses 10 = .ok (.iload_n 0, 1) := by decide +kernel
theorem dX7_crosses_11 : decode cX7_crosses 11 = .ok (.iload_n 2, 1) := by decide +kernel
theorem dX7_crosses_12 : decode cX7_crosses 12 = .ok (.invokestatic 16, 3) := by decide +kernel
theorem dX7_crosses_15 : decode cX7_crosses 15 = .ok (.iload 4, 2) := by decide +kernel
theorem dX7_crosses_17 : decode cX7_crosses 17 = .ok (.if_icmp .gt 5, 3) := by decide +kernel
theorem dX7_crosses_20 : decode cX7_crosses 20 = .ok (.iconst 0, 1) := by decide +kernel
theorem dX7_crosses_21 : decode cX7_crosses 21 = .ok (.ireturn, 1) := by decide +kernel
theorem dX7_crosses_22 : decode cX7_crosses 22 = .ok (.iload_n 2, 1) := by decide +kernel
theorem dX7_crosses_23 : decode cX7_crosses 23 = .ok (.i2l, 1) := by decide +kernel
theorem dX7_crosses_24 : decode cX7_crosses 24 = .ok (.iload_n 0, 1) := by decide +kernel
theorem dX7_crosses_25 : decode cX7_crosses 25 = .ok (.i2l, 1) := by decide +kernel
theorem dX7_crosses_26 : decode cX7_crosses 26 = .ok (.lsub, 1) := by decide +kernel
theorem dX7_crosses_27 : decode cX7_crosses 27 = .ok (.lstore 7, 2) := by decide +kernel
theorem dX7_crosses_29 : decode cX7_crosses 29 = .ok (.iload_n 1, 1) := by decide +kernel
theorem dX7_crosses_30 : decode cX7_crosses 30 = .ok (.i2l, 1) := by decide +kernel
theorem dX7_crosses_31 : decode cX7_crosses 31 = .ok (.lload 7, 2) := by decide +kernel
theorem dX7_crosses_33 : decode cX7_crosses 33 = .ok (.lmul, 1) := by decide +kernel
theorem dX7_crosses_34 : decode cX7_crosses 34 = .ok (.iload_n 3, 1) := by decide +kernel
theorem dX7_crosses_35 : decode cX7_crosses 35 = .ok (.i2l, 1) := by decide +kernel
theorem dX7_crosses_36 : decode cX7_crosses 36 = .ok (.iload_n 1, 1) := by decide +kernel
theorem dX7_crosses_37 : decode cX7_crosses 37 = .ok (.i2l, 1) := by decide +kernel
theorem dX7_crosses_38 : decode cX7_crosses 38 = .ok (.lsub, 1) := by decide +kernel
theorem dX7_crosses_39 : decode cX7_crosses 39 = .ok (.iload 4, 2) := by decide +kernel
theorem dX7_crosses_41 : decode cX7_crosses 41 = .ok (.i2l, 1) := by decide +kernel
theorem dX7_crosses_42 : decode cX7_crosses 42 = .ok (.iload_n 0, 1) := by decide +kernel
theorem dX7_crosses_43 : decode cX7_crosses 43 = .ok (.i2l, 1) := by decide +kernel
theorem dX7_crosses_44 : decode cX7_crosses 44 = .ok (.lsub, 1) := by decide +kernel
theorem dX7_crosses_45 : decode cX7_crosses 45 = .ok (.lmul, 1) := by decide +kernel
theorem dX7_crosses_46 : decode cX7_crosses 46 = .ok (.ladd, 1) := by decide +kernel
theorem dX7_crosses_47 : decode cX7_crosses 47 = .ok (.lstore 9, 2) := by decide +kernel
theorem dX7_crosses_49 : decode cX7_crosses 49 = .ok (.iload 5, 2) := by decide +kernel
theorem dX7_crosses_51 : decode cX7_crosses 51 = .ok (.i2l, 1) := by decide +kernel
theorem dX7_crosses_52 : decode cX7_crosses 52 = .ok (.lload 7, 2) := by decide +kernel
theorem dX7_crosses_54 : decode cX7_crosses 54 = .ok (.lmul, 1) := by decide +kernel
theorem dX7_crosses_55 : decode cX7_crosses 55 = .ok (.iload 6, 2) := by decide +kernel
theorem dX7_crosses_57 : decode cX7_crosses 57 = .ok (.i2l, 1) := by decide +kernel
theorem dX7_crosses_58 : decode cX7_crosses 58 = .ok (.lload 7, 2) := by decide +kernel
theorem dX7_crosses_60 : decode cX7_crosses 60 = .ok (.lmul, 1) := by decide +kernel
theorem dX7_crosses_61 : decode cX7_crosses 61 = .ok (.invokestatic 19, 3) := by decide +kernel
theorem dX7_crosses_64 : decode cX7_crosses 64 = .ok (.lstore 11, 2) := by decide +kernel
theorem dX7_crosses_66 : decode cX7_crosses 66 = .ok (.iload 5, 2) := by decide +kernel
theorem dX7_crosses_68 : decode cX7_crosses 68 = .ok (.i2l, 1) := by decide +kernel
theorem dX7_crosses_69 : decode cX7_crosses 69 = .ok (.lload 7, 2) := by decide +kernel
theorem dX7_crosses_71 : decode cX7_crosses 71 = .ok (.lmul, 1) := by decide +kernel
theorem dX7_crosses_72 : decode cX7_crosses 72 = .ok (.iload 6, 2) := by decide +kernel
theorem dX7_crosses_74 : decode cX7_crosses 74 = .ok (.i2l, 1) := by decide +kernel
theorem dX7_crosses_75 : decode cX7_crosses 75 = .ok (.lload 7, 2) := by decide +kernel
theorem dX7_crosses_77 : decode cX7_crosses 77 = .ok (.lmul, 1) := by decide +kernel
theorem dX7_crosses_78 : decode cX7_crosses 78 = .ok (.invokestatic 22, 3) := by decide +kernel
theorem dX7_crosses_81 : decode cX7_crosses 81 = .ok (.lstore 13, 2) := by decide +kernel
theorem dX7_crosses_83 : decode cX7_crosses 83 = .ok (.lload 11, 2) := by decide +kernel
theorem dX7_crosses_85 : decode cX7_crosses 85 = .ok (.lload 9, 2) := by decide +kernel
theorem dX7_crosses_87 : decode cX7_crosses 87 = .ok (.lcmp, 1) := by decide +kernel
theorem dX7_crosses_88 : decode cX7_crosses 88 = .ok (.ifCond .gt 15, 3) := by decide +kernel
theorem dX7_crosses_91 : decode cX7_crosses 91 = .ok (.lload 9, 2) := by decide +kernel
theorem dX7_crosses_93 : decode cX7_crosses 93 = .ok (.lload 13, 2) := by decide +kernel
theorem dX7_crosses_95 : decode cX7_crosses 95 = .ok (.lcmp, 1) := by decide +kernel
theorem dX7_crosses_96 : decode cX7_crosses 96 = .ok (.ifCond .gt 7, 3) := by decide +kernel
theorem dX7_crosses_99 : decode cX7_crosses 99 = .ok (.iconst 1, 1) := by decide +kernel
theorem dX7_crosses_100 : decode cX7_crosses 100 = .ok (.goto 4, 3) := by decide +kernel
theorem dX7_crosses_103 : decode cX7_crosses 103 = .ok (.iconst 0, 1) := by decide +kernel
theorem dX7_crosses_104 : decode cX7_crosses 104 = .ok (.ireturn, 1) := by decide +kernel
