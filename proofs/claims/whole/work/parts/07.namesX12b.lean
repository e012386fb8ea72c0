theorem dX12_note_25 : decode cX12_note 25 = .ok (.ireturn, 1) := by decide +kernel
set_option maxRecDepth 20000 in
theorem ggX12_heardOf_X12_of : GoodIn wsX12_heardOf wsX12_of := goodIn_r _ [6, 7, 8, 9, 10, 11, 12, 13, 14, 15, 16, 17, 18, 19, 20, 21, 22, 23, 24, 25, 26, 27, 28, 29, 30] (by decide +kernel) (by decide +kernel)
set_option maxRecDepth 20000 in
theorem gX12_heardOf_X12_of : GoodIn wsX12_heardOf (wsV RX12 60 RX12 yX12_of wsX12_of) := goodIn_app (goodIn_of _ (by decide +kernel)) ggX12_heardOf_X12_of
theorem dX12_heardOf_0 : decode cX12_heardOf 0 = .ok (.aload_n 0, 1) := by decide +kernel
theorem dX12_heardOf_1 : decode cX12_heardOf 1 = .ok (.iload_n 1, 1) := by decide +kernel
theorem dX12_heardOf_2 : decode cX12_heardOf 2 = .ok (.iconst 4, 1) := by decide +kernel
theorem dX12_heardOf_3 : decode cX12_heardOf 3 = .ok (.invokevirtual 60, 3) := by decide +kernel
theorem dX12_heardOf_6 : decode cX12_heardOf 6 = .ok (.iconst 1, 1) := by decide +kernel
theorem dX12_heardOf_7 : decode cX12_heardOf 7 = .ok (.if_icmp .ne 15, 3) := by decide +kernel
theorem dX12_heardOf_10 : decode cX12_heardOf 10 = .ok (.aload_n 0, 1) := by decide +kernel
theorem dX12_heardOf_11 : decode cX12_heardOf 11 = .ok (.iload_n 1, 1) := by decide +kernel
theorem dX12_heardOf_12 : decode cX12_heardOf 12 = .ok (.bipush 6, 2) := by decide +kernel
theorem dX12_heardOf_14 : decode cX12_heardOf 14 = .ok (.iload_n 2, 1) := by decide +kernel
theorem dX12_heardOf_15 : decode cX12_heardOf 15 = .ok (.iadd, 1) := by decide +kernel
theorem dX12_heardOf_16 : decode cX12_heardOf 16 = .ok (.invokevirtual 60, 3) := by decide +kernel
theorem dX12_heardOf_19 : decode cX12_heardOf 19 = .ok (.goto 5, 3) := by decide +kernel
theorem dX12_heardOf_22 : decode cX12_heardOf 22 = .ok (.ldc 71, 2) := by decide +kernel
theorem dX12_heardOf_24 : decode cX12_heardOf 24 = .ok (.ireturn, 1) := by decide +kernel
set_option maxRecDepth 20000 in
theorem ggX12_heard_X12_isMicrophone : GoodIn wsX12_heard wsX12_isMicrophone := goodIn_r _ [5, 6, 28, 29, 30, 31, 32, 33, 34, 35, 36, 37, 38, 39, 40, 41, 42, 43, 44, 45, 46, 47, 48, 49, 50] (by decide +kernel) (by decide +kernel)
set_option maxRecDepth 20000 in
theorem gX12_heard_X12_isMicrophone : GoodIn wsX12_heard (wsV RX12 159 RX12 yX12_isMicrophone wsX12_isMicrophone) := goodIn_app (goodIn_of _ (by decide +kernel)) ggX12_heard_X12_isMicrophone
set_option maxRecDepth 20000 in
theorem ggX12_heard_X12_fails : GoodIn wsX12_heard wsX12_fails := goodIn_r _ [10, 11, 28, 29, 30, 31, 32, 33, 34, 35, 36, 37, 38, 39, 40, 41, 42, 43, 44, 45, 46, 47, 48, 49, 50] (by decide +kernel) (by decide +kernel)
set_option maxRecDepth 20000 in
theorem gX12_heard_X12_fails : GoodIn wsX12_heard (wsV RX12 141 RX12 yX12_fails wsX12_fails) := goodIn_app (goodIn_of _ (by decide +kernel)) ggX12_heard_X12_fails
set_option maxRecDepth 20000 in
theorem ggX12_heard_X12_in : GoodIn wsX12_heard wsX12_in := goodIn_r _ [14] (by decide +kernel) (by decide +kernel)
set_option maxRecDepth 20000 in
theorem gX12_heard_X12_in : GoodIn wsX12_heard (va_wsS RX12 116 yX12_in wsX12_in) := goodIn_app (goodIn_of _ (by decide +kernel)) ggX12_heard_X12_in
set_option maxRecDepth 20000 in
theorem ggX12_heard_X12_heardOf : GoodIn wsX12_heard wsX12_heardOf := goodIn_r _ [18, 19, 20, 21, 22, 4, 23, 6, 28, 29, 30, 31, 32, 33, 34, 35, 36, 37, 38, 39, 40, 41, 42, 43, 44, 45, 46, 47, 48, 49, 50] (by decide +kernel) (by decide +kernel)
set_option maxRecDepth 20000 in
theorem gX12_heard_X12_heardOf : GoodIn wsX12_heard (wsV RX12 187 RX12 yX12_heardOf wsX12_heardOf) := goodIn_app (goodIn_of _ (by decide +kernel)) ggX12_heard_X12_heardOf
set_option maxRecDepth 20000 in
theorem ggX12_heard_X12_tells : GoodIn wsX12_heard wsX12_tells := goodIn_r _ [27, 11, 28, 29, 30, 31, 32, 33, 34, 35, 36, 37, 38, 39, 40, 41, 42, 43, 44, 45, 46, 47, 48, 49, 50] (by decide +kernel) (by decide +kernel)
set_option maxRecDepth 20000 in
theorem gX12_heard_X12_tells : GoodIn wsX12_heard (wsV RX12 56 RX12 yX12_tells wsX12_tells) := goodIn_app (goodIn_of _ (by decide +kernel)) ggX12_heard_X12_tells
theorem dX12_heard_0 : decode cX12_heard 0 = .ok (.aload_n 0, 1) := by decide +kernel
theorem dX12_heard_1 : decode cX12_heard 1 = .ok (.iload_n 1, 1) := by decide +kernel
theorem dX12_heard_2 : decode cX12_heard 2 = .ok (.invokevirtual 159, 3) := by decide +kernel
theorem dX12_heard_5 : decode cX12_heard 5 = .ok (.ifCond .ne 9, 3) := by decide +kernel
theorem dX12_heard_8 : decode cX12_heard 8 = .ok (.aload_n 0, 1) := by decide +kernel
theorem dX12_heard_9 : decode cX12_heard 9 = .ok (.iconst 1, 1) := by decide +kernel
theorem dX12_heard_10 : decode cX12_heard 10 = .ok (.invokevirtual 141, 3) := by decide +kernel
theorem dX12_heard_13 : decode cX12_heard 13 = .ok (.ireturn, 1) := by decide +kernel
theorem dX12_heard_14 : decode cX12_heard 14 = .ok (.iload_n 2, 1) := by decide +kernel
theorem dX12_heard_15 : decode cX12_heard 15 = .ok (.iconst 0, 1) := by decide +kernel
theorem dX12_heard_16 : decode cX12_heard 16 = .ok (.iconst 3, 1) := by decide +kernel
theorem dX12_heard_17 : decode cX12_heard 17 = .ok (.invokestatic 116, 3) := by decide +kernel
theorem dX12_heard_20 : decode cX12_heard 20 = .ok (.ifCond .eq 16, 3) := by decide +kernel
theorem dX12_heard_23 : decode cX12_heard 23 = .ok (.aload_n 0, 1) := by decide +kernel
theorem dX12_heard_24 : decode cX12_heard 24 = .ok (.aload_n 0, 1) := by decide +kernel
theorem dX12_heard_25 : decode cX12_heard 25 = .ok (.iload_n 1, 1) := by decide +kernel
theorem dX12_heard_26 : decode cX12_heard 26 = .ok (.iload_n 2, 1) := by decide +kernel
theorem dX12_heard_27 : decode cX12_heard 27 = .ok (.invokevirtual 187, 3) := by decide +kernel
theorem dX12_heard_30 : decode cX12_heard 30 = .ok (.invokevirtual 56, 3) := by decide +kernel
theorem dX12_heard_33 : decode cX12_heard 33 = .ok (.goto 8, 3) := by decide +kernel
theorem dX12_heard_36 : decode cX12_heard 36 = .ok (.aload_n 0, 1) := by decide +kernel
theorem dX12_heard_37 : decode cX12_heard 37 = .ok (.iconst 2, 1) := by decide +kernel
theorem dX12_heard_38 : decode cX12_heard 38 = .ok (.invokevirtual 141, 3) := by decide +kernel
theorem dX12_heard_41 : decode cX12_heard 41 = .ok (.ireturn, 1) := by decide +kernel
set_option maxRecDepth 20000 in
theorem ggX12_arrivals_X12_isMicrophone : GoodIn wsX12_arrivals wsX12_isMicrophone := goodIn_r _ [6, 7, 68, 69, 70, 71, 72, 73, 74, 75, 76, 77, 78, 79, 80, 81, 82, 83, 84, 85, 86, 87, 88, 89, 90] (by decide +kernel) (by decide +kernel)
set_option maxRecDepth 20000 in
theorem gX12_arrivals_X12_isMicrophone : GoodIn wsX12_arrivals (wsV RX12 159 RX12 yX12_isMicrophone wsX12_isMicrophone) := goodIn_app (goodIn_of _ (by decide +kernel)) ggX12_arrivals_X12_isMicrophone
set_option maxRecDepth 20000 in
theorem ggX12_arrivals_X12_fails : GoodIn wsX12_arrivals wsX12_fails := goodIn_r _ [11, 12, 68, 69, 70, 71, 72, 73, 74, 75, 76, 77, 78, 79, 80, 81, 82, 83, 84, 85, 86, 87, 88, 89, 90] (by decide +kernel) (by decide +kernel)
set_option maxRecDepth 20000 in
theorem gX12_arrivals_X12_fails : GoodIn wsX12_arrivals (wsV RX12 141 RX12 yX12_fails wsX12_fails) := goodIn_app (goodIn_of _ (by decide +kernel)) ggX12_arrivals_X12_fails
set_option maxRecDepth 20000 in
theorem ggX12_arrivals_X12_isPlace : GoodIn wsX12_arrivals wsX12_isPlace := goodIn_r _ [15, 16, 17, 5, 18] (by decide +kernel) (by decide +kernel)
set_option maxRecDepth 20000 in
theorem gX12_arrivals_X12_isPlace : GoodIn wsX12_arrivals (va_wsS RX12 122 yX12_isPlace wsX12_isPlace) := goodIn_app (goodIn_of _ (by decide +kernel)) ggX12_arrivals_X12_isPlace
set_option maxRecDepth 20000 in
theorem ggX12_arrivals_X12_lists : GoodIn wsX12_arrivals wsX12_lists := goodIn_r _ [22, 1, 23, 7, 24, 25, 26, 5, 27, 28, 29, 30, 31, 32, 33, 34, 35, 36, 37, 38, 39, 40, 41, 42, 43, 44, 45, 46, 47, 48, 49, 50, 51, 52, 53, 54, 55, 56, 57, 58, 59, 60, 61, 62, 63, 68, 69, 70, 71, 72, 73, 74, 75, 76, 77, 78, 79, 80, 81, 82, 83, 84, 85, 86, 87, 88, 89, 90] (by decide +kernel) (by decide +kernel)
set_option maxRecDepth 20000 in
theorem gX12_arrivals_X12_lists : GoodIn wsX12_arrivals (wsV RX12 103 RX12 yX12_lists wsX12_lists) := goodIn_app (goodIn_of _ (by decide +kernel)) ggX12_arrivals_X12_lists
set_option maxRecDepth 20000 in
theorem ggX12_arrivals_X12_tells : GoodIn wsX12_arrivals wsX12_tells := goodIn_r _ [67, 12, 68, 69, 70, 71, 72, 73, 74, 75, 76, 77, 78, 79, 80, 81, 82, 83, 84, 85, 86, 87, 88, 89, 90] (by decide +kernel) (by decide +kernel)
set_option maxRecDepth 20000 in
theorem gX12_arrivals_X12_tells : GoodIn wsX12_arrivals (wsV RX12 56 RX12 yX12_tells wsX12_tells) := goodIn_app (goodIn_of _ (by decide +kernel)) ggX12_arrivals_X12_tells
theorem dX12_arrivals_0 : decode cX12_arrivals 0 = .ok (.aload_n 0, 1) := by decide +kernel
theorem dX12_arrivals_1 : decode cX12_arrivals 1 = .ok (.iload_n 3, 1) := by decide +kernel
theorem dX12_arrivals_2 : decode cX12_arrivals 2 = .ok (.invokevirtual 159, 3) := by decide +kernel
theorem dX12_arrivals_5 : decode cX12_arrivals 5 = .ok (.ifCond .ne 9, 3) := by decide +kernel
theorem dX12_arrivals_8 : decode cX12_arrivals 8 = .ok (.aload_n 0, 1) := by decide +kernel
theorem dX12_arrivals_9 : decode cX12_arrivals 9 = .ok (.iconst 1, 1) := by decide +kernel
theorem dX12_arrivals_10 : decode cX12_arrivals 10 = .ok (.invokevirtual 141, 3) := by decide +kernel
theorem dX12_arrivals_13 : decode cX12_arrivals 13 = .ok (.ireturn, 1) := by decide +kernel
theorem dX12_arrivals_14 : decode cX12_arrivals 14 = .ok (.iload_n 1, 1) := by decide +kernel
theorem dX12_arrivals_15 : decode cX12_arrivals 15 = .ok (.invokestatic 122, 3) := by decide +kernel
theorem dX12_arrivals_18 : decode cX12_arrivals 18 = .ok (.ifCond .eq 10, 3) := by decide +kernel
theorem dX12_arrivals_21 : decode cX12_arrivals 21 = .ok (.iload_n 2, 1) := by decide +kernel
theorem dX12_arrivals_22 : decode cX12_arrivals 22 = .ok (.invokestatic 122, 3) := by decide +kernel
theorem dX12_arrivals_25 : decode cX12_arrivals 25 = .ok (.ifCond .ne 9, 3) := by decide +kernel
theorem dX12_arrivals_28 : decode cX12_arrivals 28 = .ok (.aload_n 0, 1) := by decide +kernel
theorem dX12_arrivals_29 : decode cX12_arrivals 29 = .ok (.iconst 2, 1) := by decide +kernel
theorem dX12_arrivals_30 : decode cX12_arrivals 30 = .ok (.invokevirtual 141, 3) := by decide +kernel
theorem dX12_arrivals_33 : decode cX12_arrivals 33 = .ok (.ireturn, 1) := by decide +kernel
theorem dX12_arrivals_34 : decode cX12_arrivals 34 = .ok (.aload_n 0, 1) := by decide +kernel
theorem dX12_arrivals_35 : decode cX12_arrivals 35 = .ok (.iload_n 1, 1) := by decide +kernel
theorem dX12_arrivals_36 : decode cX12_arrivals 36 = .ok (.iload_n 2, 1) := by decide +kernel
theorem dX12_arrivals_37 : decode cX12_arrivals 37 = .ok (.iload_n 3, 1) := by decide +kernel
theorem dX12_arrivals_38 : decode cX12_arrivals 38 = .ok (.invokevirtual 103, 3) := by decide +kernel
theorem dX12_arrivals_41 : decode cX12_arrivals 41 = .ok (.aload_n 0, 1) := by decide +kernel
theorem dX12_arrivals_42 : decode cX12_arrivals 42 = .ok (.aload_n 0, 1) := by decide +kernel
theorem dX12_arrivals_43 : decode cX12_arrivals 43 = .ok (.getfield 72, 3) := by decide +kernel
theorem dX12_arrivals_46 : decode cX12_arrivals 46 = .ok (.invokevirtual 56, 3) := by decide +kernel
theorem dX12_arrivals_49 : decode cX12_arrivals 49 = .ok (.ireturn, 1) := by decide +kernel
set_option maxRecDepth 20000 in
theorem ggX12_listedOf_X12_timeOf : GoodIn wsX12_listedOf wsX12_timeOf := goodIn_r _ [8, 9, 10, 11, 12, 13, 14, 15, 16, 17, 18, 19, 20, 21, 22, 23, 24, 25, 26, 27, 28, 29, 30, 31, 32] (by decide +kernel) (by decide +kernel)
set_option maxRecDepth 20000 in
theorem gX12_listedOf_X12_timeOf : GoodIn wsX12_listedOf (wsV RX12 110 RX12 yX12_timeOf wsX12_timeOf) := goodIn_app (goodIn_of _ (by decide +kernel)) ggX12_listedOf_X12_timeOf
theorem dX12_listedOf_0 : decode cX12_listedOf 0 = .ok (.iload_n 2, 1) := by decide +kernel
theorem dX12_listedOf_1 : decode cX12_listedOf 1 = .ok (.tableswitch 52 0 2 #[27, 34, 41], 27) := by decide +kernel
theorem dX12_listedOf_28 : decode cX12_listedOf 28 = .ok (.aload_n 0, 1) := by decide +kernel
theorem dX12_listedOf_29 : decode cX12_listedOf 29 = .ok (.getfield 22, 3) := by decide +kernel
theorem dX12_listedOf_32 : decode cX12_listedOf 32 = .ok (.iload_n 1, 1) := by decide +kernel
theorem dX12_listedOf_33 : decode cX12_listedOf 33 = .ok (.iaload, 1) := by decide +kernel
theorem dX12_listedOf_34 : decode cX12_listedOf 34 = .ok (.ireturn, 1) := by decide +kernel
theorem dX12_listedOf_35 : decode cX12_listedOf 35 = .ok (.aload_n 0, 1) := by decide +kernel
theorem dX12_listedOf_36 : decode cX12_listedOf 36 = .ok (.getfield 25, 3) := by decide +kernel
theorem dX12_listedOf_39 : decode cX12_listedOf 39 = .ok (.iload_n 1, 1) := by decide +kernel
theorem dX12_listedOf_40 : decode cX12_listedOf 40 = .ok (.iaload, 1) := by decide +kernel
theorem dX12_listedOf_41 : decode cX12_listedOf 41 = .ok (.ireturn, 1) := by decide +kernel
theorem dX12_listedOf_42 : decode cX12_listedOf 42 = .ok (.aload_n 0, 1) := by decide +kernel
theorem dX12_listedOf_43 : decode cX12_listedOf 43 = .ok (.aload_n 0, 1) := by decide +kernel
theorem dX12_listedOf_44 : decode cX12_listedOf 44 = .ok (.getfield 25, 3) := by decide +kernel
theorem dX12_listedOf_47 : decode cX12_listedOf 47 = .ok (.iload_n 1, 1) := by decide +kernel
theorem dX12_listedOf_48 : decode cX12_listedOf 48 = .ok (.iaload, 1) := by decide +kernel
theorem dX12_listedOf_49 : decode cX12_listedOf 49 = .ok (.invokevirtual 110, 3) := by decide +kernel
theorem dX12_listedOf_52 : decode cX12_listedOf 52 = .ok (.ireturn, 1) := by decide +kernel
theorem dX12_listedOf_53 : decode cX12_listedOf 53 = .ok (.aload_n 0, 1) := by decide +kernel
theorem dX12_listedOf_54 : decode cX12_listedOf 54 = .ok (.getfield 28, 3) := by decide +kernel
theorem dX12_listedOf_57 : decode cX12_listedOf 57 = .ok (.iload_n 1, 1) := by decide +kernel
theorem dX12_listedOf_58 : decode cX12_listedOf 58 = .ok (.iaload, 1) := by decide +kernel
theorem dX12_listedOf_59 : decode cX12_listedOf 59 = .ok (.ireturn, 1) := by decide +kernel
set_option maxRecDepth 20000 in
theorem ggX12_arrival_X12_isMicrophone : GoodIn wsX12_arrival wsX12_isMicrophone := goodIn_r _ [7, 8, 76, 77, 78, 79, 80, 81, 82, 83, 84, 85, 86, 87, 88, 89, 90, 91, 92, 93, 94, 95, 96, 97, 98] (by decide +kernel) (by decide +kernel)
set_option maxRecDepth 20000 in
theorem gX12_arrival_X12_isMicrophone : GoodIn wsX12_arrival (wsV RX12 159 RX12 yX12_isMicrophone wsX12_isMicrophone) := goodIn_app (goodIn_of _ (by decide +kernel)) ggX12_arrival_X12_isMicrophone
set_option maxRecDepth 20000 in
theorem ggX12_arrival_X12_fails : GoodIn wsX12_arrival wsX12_fails := goodIn_r _ [12, 13, 76, 77, 78, 79, 80, 81, 82, 83, 84, 85, 86, 87, 88, 89, 90, 91, 92, 93, 94, 95, 96, 97, 98] (by decide +kernel) (by decide +kernel)
set_option maxRecDepth 20000 in
theorem gX12_arrival_X12_fails : GoodIn wsX12_arrival (wsV RX12 141 RX12 yX12_fails wsX12_fails) := goodIn_app (goodIn_of _ (by decide +kernel)) ggX12_arrival_X12_fails
set_option maxRecDepth 20000 in
theorem ggX12_arrival_X12_isPlace : GoodIn wsX12_arrival wsX12_isPlace := goodIn_r _ [16, 17, 18, 6, 19] (by decide +kernel) (by decide +kernel)
set_option maxRecDepth 20000 in
theorem gX12_arrival_X12_isPlace : GoodIn wsX12_arrival (va_wsS RX12 122 yX12_isPlace wsX12_isPlace) := goodIn_app (goodIn_of _ (by decide +kernel)) ggX12_arrival_X12_isPlace
set_option maxRecDepth 20000 in
theorem ggX12_arrival_X12_in : GoodIn wsX12_arrival wsX12_in := goodIn_r _ [19] (by decide +kernel) (by decide +kernel)
set_option maxRecDepth 20000 in
theorem gX12_arrival_X12_in : GoodIn wsX12_arrival (va_wsS RX12 116 yX12_in wsX12_in) := goodIn_app (goodIn_of _ (by decide +kernel)) ggX12_arrival_X12_in
set_option maxRecDepth 20000 in
theorem ggX12_arrival_X12_lists : GoodIn wsX12_arrival wsX12_lists := goodIn_r _ [23, 1, 2, 8, 24, 25, 26, 6, 27, 28, 29, 30, 31, 32, 33, 34, 35, 36, 37, 38, 39, 40, 41, 42, 43, 44, 45, 46, 47, 48, 49, 50, 51, 52, 53, 54, 55, 56, 57, 58, 59, 60, 61, 62, 63, 76, 77, 78, 79, 80, 81, 82, 83, 84, 85, 86, 87, 88, 89, 90, 91, 92, 93, 94, 95, 96, 97, 98] (by decide +kernel) (by decide +kernel)
set_option maxRecDepth 20000 in
theorem gX12_arrival_X12_lists : GoodIn wsX12_arrival (wsV RX12 103 RX12 yX12_lists wsX12_lists) := goodIn_app (goodIn_of _ (by decide +kernel)) ggX12_arrival_X12_lists
set_option maxRecDepth 20000 in
theorem ggX12_arrival_X12_listedOf : GoodIn wsX12_arrival wsX12_listedOf := goodIn_r _ [67, 39, 40, 41, 68, 69, 70, 6, 71, 8, 76, 77, 78, 79, 80, 81, 82, 83, 84, 85, 86, 87, 88, 89, 90, 91, 92, 93, 94, 95, 96, 97, 98] (by decide +kernel) (by decide +kernel)
set_option maxRecDepth 20000 in
theorem gX12_arrival_X12_listedOf : GoodIn wsX12_arrival (wsV RX12 190 RX12 yX12_listedOf wsX12_listedOf) := goodIn_app (goodIn_of _ (by decide +kernel)) ggX12_arrival_X12_listedOf
set_option maxRecDepth 20000 in
theorem ggX12_arrival_X12_tells : GoodIn wsX12_arrival wsX12_tells := goodIn_r _ [75, 13, 76, 77, 78, 79, 80, 81, 82, 83, 84, 85, 86, 87, 88, 89, 90, 91, 92, 93, 94, 95, 96, 97, 98] (by decide +kernel) (by decide +kernel)
set_option maxRecDepth 20000 in
theorem gX12_arrival_X12_tells : GoodIn wsX12_arrival (wsV RX12 56 RX12 yX12_tells wsX12_tells) := goodIn_app (goodIn_of _ (by decide +kernel)) ggX12_arrival_X12_tells
theorem dX12_arrival_0 : decode cX12_arrival 0 = .ok (.aload_n 0, 1) := by decide +kernel
theorem dX12_arrival_1 : decode cX12_arrival 1 = .ok (.iload_n 3, 1) := by decide +kernel
theorem dX12_arrival_2 : decode cX12_arrival 2 = .ok (.invokevirtual 159, 3) := by decide +kernel
theorem dX12_arrival_5 : decode cX12_arrival 5 = .ok (.ifCond .ne 9, 3) := by decide +kernel
theorem dX12_arrival_8 : decode cX12_arrival 8 = .ok (.aload_n 0, 1) := by decide +kernel
theorem dX12_arrival_9 : decode cX12_arrival 9 = .ok (.iconst 1, 1) := by decide +kernel
theorem dX12_arrival_10 : decode cX12_arrival 10 = .ok (.invokevirtual 141, 3) := by decide +kernel
theorem dX12_arrival_13 : decode cX12_arrival 13 = .ok (.ireturn, 1) := by decide +kernel
theorem dX12_arrival_14 : decode cX12_arrival 14 = .ok (.iload_n 1, 1) := by decide +kernel
theorem dX12_arrival_15 : decode cX12_arrival 15 = .ok (.invokestatic 122, 3) := by decide +kernel
theorem dX12_arrival_18 : decode cX12_arrival 18 = .ok (.ifCond .eq 25, 3) := by decide +kernel
theorem dX12_arrival_21 : decode cX12_arrival 21 = .ok (.iload_n 2, 1) := by decide +kernel
theorem dX12_arrival_22 : decode cX12_arrival 22 = .ok (.invokestatic 122, 3) := by decide +kernel
theorem dX12_arrival_25 : decode cX12_arrival 25 = .ok (.ifCond .eq 18, 3) := by decide +kernel
theorem dX12_arrival_28 : decode cX12_arrival 28 = .ok (.iload 4, 2) := by decide +kernel
theorem dX12_arrival_30 : decode cX12_arrival 30 = .ok (.ifCond .lt 13, 3) := by decide +kernel
theorem dX12_arrival_33 : decode cX12_arrival 33 = .ok (.iload 5, 2) := by decide +kernel
theorem dX12_arrival_35 : decode cX12_arrival 35 = .ok (.iconst 0, 1) := by decide +kernel
theorem dX12_arrival_36 : decode cX12_arrival 36 = .ok (.iconst 3, 1) := by decide +kernel
theorem dX12_arrival_37 : decode cX12_arrival 37 = .ok (.invokestatic 116, 3) := by decide +kernel
theorem dX12_arrival_40 : decode cX12_arrival 40 = .ok (.ifCond .ne 9, 3) := by decide +kernel
theorem dX12_arrival_43 : decode cX12_arrival 43 = .ok (.aload_n 0, 1) := by decide +kernel
theorem dX12_arrival_44 : decode cX12_arrival 44 = .ok (.iconst 2, 1) := by decide +kernel
theorem dX12_arrival_45 : decode cX12_arrival 45 = .ok (.invokevirtual 141, 3) := by decide +kernel
theorem dX12_arrival_48 : decode cX12_arrival 48 = .ok (.ireturn, 1) := by decide +kernel
theorem dX12_arrival_49 : decode cX12_arrival 49 = .ok (.aload_n 0, 1) := by decide +kernel
theorem dX12_arrival_50 : decode cX12_arrival 50 = .ok (.iload_n 1, 1) := by decide +kernel
theorem dX12_arrival_51 : decode cX12_arrival 51 = .ok (.iload_n 2, 1) := by decide +kernel
theorem dX12_arrival_52 : decode cX12_arrival 52 = .ok (.iload_n 3, 1) := by decide +kernel
theorem dX12_arrival_53 : decode cX12_arrival 53 = .ok (.invokevirtual 103, 3) := by decide +kernel
theorem dX12_arrival_56 : decode cX12_arrival 56 = .ok (.aload_n 0, 1) := by decide +kernel
theorem dX12_arrival_57 : decode cX12_arrival 57 = .ok (.iload 4, 2) := by decide +kernel
theorem dX12_arrival_59 : decode cX12_arrival 59 = .ok (.aload_n 0, 1) := by decide +kernel
theorem dX12_arrival_60 : decode cX12_arrival 60 = .ok (.getfield 72, 3) := by decide +kernel
theorem dX12_arrival_63 : decode cX12_arrival 63 = .ok (.if_icmp .ge 14, 3) := by decide +kernel
theorem dX12_arrival_66 : decode cX12_arrival 66 = .ok (.aload_n 0, 1) := by decide +kernel
theorem dX12_arrival_67 : decode cX12_arrival 67 = .ok (.iload 4, 2) := by decide +kernel
theorem dX12_arrival_69 : decode cX12_arrival 69 = .ok (.iload 5, 2) := by decide +kernel
theorem dX12_arrival_71 : decode cX12_arrival 71 = .ok (.invokevirtual 190, 3) := by decide +kernel
theorem dX12_arrival_74 : decode cX12_arrival 74 = .ok (.goto 5, 3) := by decide +kernel
theorem dX12_arrival_77 : decode cX12_arrival 77 = .ok (.ldc 71, 2) := by decide +kernel
theorem dX12_arrival_79 : decode cX12_arrival 79 = .ok (.invokevirtual 56, 3) := by decide +kernel
theorem dX12_arrival_82 : decode cX12_arrival 82 = .ok (.ireturn, 1) := by decide +kernel
set_option maxRecDepth 20000 in
theorem ggX12_timeFrom_X12_wayTo : GoodIn wsX12_timeFrom wsX12_wayTo := goodIn_r _ [6, 7, 8, 9, 5, 10, 1, 11, 12, 13, 18, 19, 20, 21, 22, 23, 24, 25, 26, 27, 28, 29, 30, 31, 32, 33, 34, 35, 36, 37, 38, 39, 40] (by decide +kernel) (by decide +kernel)
set_option maxRecDepth 20000 in
theorem gX12_timeFrom_X12_wayTo : GoodIn wsX12_timeFrom (wsV RX12 75 RX12 yX12_wayTo wsX12_wayTo) := goodIn_app (goodIn_of _ (by decide +kernel)) ggX12_timeFrom_X12_wayTo
set_option maxRecDepth 20000 in
theorem ggX12_timeFrom_X12_timeOf : GoodIn wsX12_timeFrom wsX12_timeOf := goodIn_r _ [17, 1, 18, 19, 20, 21, 22, 23, 24, 25, 26, 27, 28, 29, 30, 31, 32, 33, 34, 35, 36, 37, 38, 39, 40] (by decide +kernel) (by decide +kernel)
set_option maxRecDepth 20000 in
theorem gX12_timeFrom_X12_timeOf : GoodIn wsX12_timeFrom (wsV RX12 110 RX12 yX12_timeOf wsX12_timeOf) := goodIn_app (goodIn_of _ (by decide +kernel)) ggX12_timeFrom_X12_timeOf
theorem dX12_timeFrom_0 : decode cX12_timeFrom 0 = .ok (.aload_n 0, 1) := by decide +kernel
theorem dX12_timeFrom_1 : decode cX12_timeFrom 1 = .ok (.aload_n 0, 1) := by decide +kernel
theorem dX12_timeFrom_2 : decode cX12_timeFrom 2 = .ok (.bipush 100, 2) := by decide +kernel
theorem dX12_timeFrom_4 : decode cX12_timeFrom 4 = .ok (.iload_n 1, 1) := by decide +kernel
theorem dX12_timeFrom_5 : decode cX12_timeFrom 5 = .ok (.aload_n 0, 1) := by decide +kernel
theorem dX12_timeFrom_6 : decode cX12_timeFrom 6 = .ok (.getfield 7, 3) := by decide +kernel
theorem dX12_timeFrom_9 : decode cX12_timeFrom 9 = .ok (.iconst 0, 1) := by decide +kernel
theorem dX12_timeFrom_10 : decode cX12_timeFrom 10 = .ok (.iaload, 1) := by decide +kernel
theorem dX12_timeFrom_11 : decode cX12_timeFrom 11 = .ok (.irem, 1) := by decide +kernel
theorem dX12_timeFrom_12 : decode cX12_timeFrom 12 = .ok (.imul, 1) := by decide +kernel
theorem dX12_timeFrom_13 : decode cX12_timeFrom 13 = .ok (.bipush 50, 2) := by decide +kernel
theorem dX12_timeFrom_15 : decode cX12_timeFrom 15 = .ok (.iadd, 1) := by decide +kernel
theorem dX12_timeFrom_16 : decode cX12_timeFrom 16 = .ok (.bipush 100, 2) := by decide +kernel
theorem dX12_timeFrom_18 : decode cX12_timeFrom 18 = .ok (.iload_n 1, 1) := by decide +kernel
theorem dX12_timeFrom_19 : decode cX12_timeFrom 19 = .ok (.aload_n 0, 1) := by decide +kernel
theorem dX12_timeFrom_20 : decode cX12_timeFrom 20 = .ok (.getfield 7, 3) := by decide +kernel
theorem dX12_timeFrom_23 : decode cX12_timeFrom 23 = .ok (.iconst 0, 1) := by decide +kernel
theorem dX12_timeFrom_24 : decode cX12_timeFrom 24 = .ok (.iaload, 1) := by decide +kernel
theorem dX12_timeFrom_25 : decode cX12_timeFrom 25 = .ok (.idiv, 1) := by decide +kernel
theorem dX12_timeFrom_26 : decode cX12_timeFrom 26 = .ok (.imul, 1) := by decide +kernel
theorem dX12_timeFrom_27 : decode cX12_timeFrom 27 = .ok (.bipush 50, 2) := by decide +kernel
theorem dX12_timeFrom_29 : decode cX12_timeFrom 29 = .ok (.iadd, 1) := by decide +kernel
theorem dX12_timeFrom_30 : decode cX12_timeFrom 30 = .ok (.iload_n 2, 1) := by decide +kernel
theorem dX12_timeFrom_31 : decode cX12_timeFrom 31 = .ok (.invokevirtual 75, 3) := by decide +kernel
theorem dX12_timeFrom_34 : decode cX12_timeFrom 34 = .ok (.invokevirtual 110, 3) := by decide +kernel
theorem dX12_timeFrom_37 : decode cX12_timeFrom 37 = .ok (.ireturn, 1) := by decide +kernel
theorem dX12_apart_0 : decode cX12_apart 0 = .ok (.iload_n 0, 1) := by decide +kernel
theorem dX12_apart_1 : decode cX12_apart 1 = .ok (.iload_n 1, 1) := by decide +kernel
theorem dX12_apart_2 : decode cX12_apart 2 = .ok (.if_icmp .ge 9, 3) := by decide +kernel
theorem dX12_apart_5 : decode cX12_apart 5 = .ok (.iload_n 1, 1) := by decide +kernel
theorem dX12_apart_6 : decode cX12_apart 6 = .ok (.iload_n 0, 1) := by decide +kernel
theorem dX12_apart_7 : decode cX12_apart 7 = .ok (.isub, 1) := by decide +kernel
theorem dX12_apart_8 : decode cX12_apart 8 = .ok (.goto 6, 3) := by decide +kernel
theorem dX12_apart_11 : decode cX12_apart 11 = .ok (.iload_n 0, 1) := by decide +kernel
theorem dX12_apart_12 : decode cX12_apart 12 = .ok (.iload_n 1, 1) := by decide +kernel
theorem dX12_apart_13 : decode cX12_apart 13 = .ok (.isub, 1) := by decide +kernel
theorem dX12_apart_14 : decode cX12_apart 14 = .ok (.ireturn, 1) := by decide +kernel
set_option maxRecDepth 20000 in
theorem ggX12_arePair_X12_of : GoodIn wsX12_arePair wsX12_of := goodIn_r _ [5, 6, 7, 8, 9, 10, 11, 12, 13, 14, 15, 16, 17, 18, 19, 20, 21, 22, 23, 24, 25, 26, 27, 28, 29] (by decide +kernel) (by decide +kernel)
set_option maxRecDepth 20000 in
theorem gX12_arePair_X12_of : GoodIn wsX12_arePair (wsV RX12 60 RX12 yX12_of wsX12_of) := goodIn_app (goodIn_of _ (by decide +kernel)) ggX12_arePair_X12_of
theorem dX12_arePair_0 : decode cX12_arePair 0 = .ok (.iload_n 1, 1) := by decide +kernel
theorem dX12_arePair_1 : decode cX12_arePair 1 = .ok (.iload_n 3, 1) := by decide +kernel
theorem dX12_arePair_2 : decode cX12_arePair 2 = .ok (.if_icmp .eq 32, 3) := by decide +kernel
theorem dX12_arePair_5 : decode cX12_arePair 5 = .ok (.iload_n 2, 1) := by decide +kernel
theorem dX12_arePair_6 : decode cX12_arePair 6 = .ok (.iload_n 3, 1) := by decide +kernel
theorem dX12_arePair_7 : decode cX12_arePair 7 = .ok (.if_icmp .eq 27, 3) := by decide +kernel
theorem dX12_arePair_10 : decode cX12_arePair 10 = .ok (.aload_n 0, 1) := by decide +kernel
theorem dX12_arePair_11 : decode cX12_arePair 11 = .ok (.iload_n 1, 1) := by decide +kernel
theorem dX12_arePair_12 : decode cX12_arePair 12 = .ok (.iconst 4, 1) := by decide +kernel
theorem dX12_arePair_13 : decode cX12_arePair 13 = .ok (.invokevirtual 60, 3) := by decide +kernel
theorem dX12_arePair_16 : decode cX12_arePair 16 = .ok (.iconst 1, 1) := by decide +kernel
theorem dX12_arePair_17 : decode cX12_arePair 17 = .ok (.if_icmp .ne 17, 3) := by decide +kernel
theorem dX12_arePair_20 : decode cX12_arePair 20 = .ok (.aload_n 0, 1) := by decide +kernel
theorem dX12_arePair_21 : decode cX12_arePair 21 = .ok (.iload_n 2, 1) := by decide +kernel
theorem dX12_arePair_22 : decode cX12_arePair 22 = .ok (.iconst 4, 1) := by decide +kernel
theorem dX12_arePair_23 : decode cX12_arePair 23 = .ok (.invokevirtual 60, 3) := by decide +kernel
theorem dX12_arePair_26 : decode cX12_arePair 26 = .ok (.iconst 1, 1) := by decide +kernel
theorem dX12_arePair_27 : decode cX12_arePair 27 = .ok (.if_icmp .ne 7, 3) := by decide +kernel
theorem dX12_arePair_30 : decode cX12_arePair 30 = .ok (.iconst 1, 1) := by decide +kernel
theorem dX12_arePair_31 : decode cX12_arePair 31 = .ok (.goto 4, 3) := by decide +kernel
theorem dX12_arePair_34 : decode cX12_arePair 34 = .ok (.iconst 0, 1) := by decide +kernel
theorem dX12_arePair_35 : decode cX12_arePair 35 = .ok (.ireturn, 1) := by decide +kernel
set_option maxRecDepth 20000 in
theorem ggX12_votesAt_X12_timeFrom : GoodIn wsX12_votesAt wsX12_timeFrom := goodIn_r _ [10, 1, 11, 12, 13, 9, 14, 15, 16, 17, 18, 19, 20, 21, 22, 23, 24, 25, 33, 34, 35, 36, 37, 38, 39, 40, 41, 42, 43, 44, 45, 46, 47, 48, 49, 50, 51, 52, 53, 54, 55] (by decide +kernel) (by decide +kernel)
set_option maxRecDepth 20000 in
theorem gX12_votesAt_X12_timeFrom : GoodIn wsX12_votesAt (wsV RX12 193 RX12 yX12_timeFrom wsX12_timeFrom) := goodIn_app (goodIn_of _ (by decide +kernel)) ggX12_votesAt_X12_timeFrom
set_option maxRecDepth 20000 in
theorem ggX12_votesAt_X12_arePair : GoodIn wsX12_votesAt wsX12_arePair := goodIn_r _ [29, 15, 16, 17, 9, 18, 1, 33, 34, 35, 36, 37, 38, 39, 40, 41, 42, 43, 44, 45, 46, 47, 48, 49, 50, 51, 52, 53, 54, 55] (by decide +kernel) (by decide +kernel)
set_option maxRecDepth 20000 in
theorem gX12_votesAt_X12_arePair : GoodIn wsX12_votesAt (wsV RX12 199 RX12 yX12_arePair wsX12_arePair) := goodIn_app (goodIn_of _ (by decide +kernel)) ggX12_votesAt_X12_arePair
set_option maxRecDepth 20000 in
theorem ggX12_votesAt_X12_of : GoodIn wsX12_votesAt wsX12_of := goodIn_r _ [18, 1, 33, 34, 35, 36, 37, 38, 39, 40, 41, 42, 43, 44, 45, 46, 47, 48, 49, 50, 51, 52, 53, 54, 55] (by decide +kernel) (by decide +kernel)
set_option maxRecDepth 20000 in
theorem gX12_votesAt_X12_of : GoodIn wsX12_votesAt (wsV RX12 60 RX12 yX12_of wsX12_of) := goodIn_app (goodIn_of _ (by decide +kernel)) ggX12_votesAt_X12_of
set_option maxRecDepth 20000 in
theorem ggX12_votesAt_X12_apart : GoodIn wsX12_votesAt wsX12_apart := goodIn_r _ [32] (by decide +kernel) (by decide +kernel)
set_option maxRecDepth 20000 in
theorem gX12_votesAt_X12_apart : GoodIn wsX12_votesAt (va_wsS RX12 202 yX12_apart wsX12_apart) := goodIn_app (goodIn_of _ (by decide +kernel)) ggX12_votesAt_X12_apart
theorem dX12_votesAt_0 : decode cX12_votesAt 0 = .ok (.iconst 0, 1) := by decide +kernel
theorem dX12_votesAt_1 : decode cX12_votesAt 1 = .ok (.istore_n 3, 1) := by decide +kernel
theorem dX12_votesAt_2 : decode cX12_votesAt 2 = .ok (.iload_n 3, 1) := by decide +kernel
theorem dX12_votesAt_3 : decode cX12_votesAt 3 = .ok (.aload_n 0, 1) := by decide +kernel
theorem dX12_votesAt_4 : decode cX12_votesAt 4 = .ok (.getfield 7, 3) := by decide +kernel
theorem dX12_votesAt_7 : decode cX12_votesAt 7 = .ok (.iconst 2, 1) := by decide +kernel
theorem dX12_votesAt_8 : decode cX12_votesAt 8 = .ok (.iaload, 1) := by decide +kernel
theorem dX12_votesAt_9 : decode cX12_votesAt 9 = .ok (.if_icmp .ge 21, 3) := by decide +kernel
theorem dX12_votesAt_12 : decode cX12_votesAt 12 = .ok (.aload_n 0, 1) := by decide +kernel
theorem dX12_votesAt_13 : decode cX12_votesAt 13 = .ok (.getfield 43, 3) := by decide +kernel
theorem dX12_votesAt_16 : decode cX12_votesAt 16 = .ok (.iload_n 3, 1) := by decide +kernel
theorem dX12_votesAt_17 : decode cX12_votesAt 17 = .ok (.aload_n 0, 1) := by decide +kernel
theorem dX12_votesAt_18 : decode cX12_votesAt 18 = .ok (.iload_n 1, 1) := by decide +kernel
theorem dX12_votesAt_19 : decode cX12_votesAt 19 = .ok (.iload_n 3, 1) := by decide +kernel
theorem dX12_votesAt_20 : decode cX12_votesAt 20 = .ok (.invokevirtual 193, 3) := by decide +kernel
theorem dX12_votesAt_23 : decode cX12_votesAt 23 = .ok (.iastore, 1) := by decide +kernel
theorem dX12_votesAt_24 : decode cX12_votesAt 24 = .ok (.iinc 3 1, 3) := by decide +kernel
theorem dX12_votesAt_27 : decode cX12_votesAt 27 = .ok (.goto (-25), 3) := by decide +kernel
theorem dX12_votesAt_30 : decode cX12_votesAt 30 = .ok (.aload_n 0, 1) := by decide +kernel
theorem dX12_votesAt_31 : decode cX12_votesAt 31 = .ok (.getfield 37, 3) := by decide +kernel
theorem dX12_votesAt_34 : decode cX12_votesAt 34 = .ok (.iload_n 1, 1) := by decide +kernel
theorem dX12_votesAt_35 : decode cX12_votesAt 35 = .ok (.iconst 0, 1) := by decide +kernel
theorem dX12_votesAt_36 : decode cX12_votesAt 36 = .ok (.iastore, 1) := by decide +kernel
theorem dX12_votesAt_37 : decode cX12_votesAt 37 = .ok (.aload_n 0, 1) := by decide +kernel
theorem dX12_votesAt_38 : decode cX12_votesAt 38 = .ok (.getfield 40, 3) := by decide +kernel
theorem dX12_votesAt_41 : decode cX12_votesAt 41 = .ok (.iload_n 1, 1) := by decide +kernel
theorem dX12_votesAt_42 : decode cX12_votesAt 42 = .ok (.iconst 0, 1) := by decide +kernel
theorem dX12_votesAt_43 : decode cX12_votesAt 43 = .ok (.iastore, 1) := by decide +kernel
theorem dX12_votesAt_44 : decode cX12_votesAt 44 = .ok (.aload_n 0, 1) := by decide +kernel
theorem dX12_votesAt_45 : decode cX12_votesAt 45 = .ok (.iconst 0, 1) := by decide +kernel
theorem dX12_votesAt_46 : decode cX12_votesAt 46 = .ok (.putfield 196, 3) := by decide +kernel
theorem dX12_votesAt_49 : decode cX12_votesAt 49 = .ok (.iconst 0, 1) := by decide +kernel
theorem dX12_votesAt_50 : decode cX12_votesAt 50 = .ok (.istore_n 3, 1) := by decide +kernel
theorem dX12_votesAt_51 : decode cX12_votesAt 51 = .ok (.iload_n 3, 1) := by decide +kernel
theorem dX12_votesAt_52 : decode cX12_votesAt 52 = .ok (.aload_n 0, 1) := by decide +kernel
theorem dX12_votesAt_53 : decode cX12_votesAt 53 = .ok (.getfield 7, 3) := by decide +kernel
theorem dX12_votesAt_56 : decode cX12_votesAt 56 = .ok (.iconst 2, 1) := by decide +kernel
theorem dX12_votesAt_57 : decode cX12_votesAt 57 = .ok (.iaload, 1) := by decide +kernel
theorem dX12_votesAt_58 : decode cX12_votesAt 58 = .ok (.if_icmp .ge 122, 3) := by decide +kernel
theorem dX12_votesAt_61 : decode cX12_votesAt 61 = .ok (.iload_n 3, 1) := by decide +kernel
theorem dX12_votesAt_62 : decode cX12_votesAt 62 = .ok (.iconst 1, 1) := by decide +kernel
theorem dX12_votesAt_63 : decode cX12_votesAt 63 = .ok (.iadd, 1) := by decide +kernel
theorem dX12_votesAt_64 : decode cX12_votesAt 64 = .ok (.istore 4, 2) := by decide +kernel
theorem dX12_votesAt_66 : decode cX12_votesAt 66 = .ok (.iload 4, 2) := by decide +kernel
theorem dX12_votesAt_68 : decode cX12_votesAt 68 = .ok (.aload_n 0, 1) := by decide +kernel
theorem dX12_votesAt_69 : decode cX12_votesAt 69 = .ok (.getfield 7, 3) := by decide +kernel
theorem dX12_votesAt_72 : decode cX12_votesAt 72 = .ok (.iconst 2, 1) := by decide +kernel
theorem dX12_votesAt_73 : decode cX12_votesAt 73 = .ok (.iaload, 1) := by decide +kernel
theorem dX12_votesAt_74 : decode cX12_votesAt 74 = .ok (.if_icmp .ge 100, 3) := by decide +kernel
theorem dX12_votesAt_77 : decode cX12_votesAt 77 = .ok (.aload_n 0, 1) := by decide +kernel
theorem dX12_votesAt_78 : decode cX12_votesAt 78 = .ok (.iload_n 3, 1) := by decide +kernel
theorem dX12_votesAt_79 : decode cX12_votesAt 79 = .ok (.iload 4, 2) := by decide +kernel
theorem dX12_votesAt_81 : decode cX12_votesAt 81 = .ok (.iload_n 2, 1) := by decide +kernel
theorem dX12_votesAt_82 : decode cX12_votesAt 82 = .ok (.invokevirtual 199, 3) := by decide +kernel
theorem dX12_votesAt_85 : decode cX12_votesAt 85 = .ok (.ifCond .eq 83, 3) := by decide +kernel
theorem dX12_votesAt_88 : decode cX12_votesAt 88 = .ok (.aload_n 0, 1) := by decide +kernel
theorem dX12_votesAt_89 : decode cX12_votesAt 89 = .ok (.iload_n 3, 1) := by decide +kernel
theorem dX12_votesAt_90 : decode cX12_votesAt 90 = .ok (.iconst 5, 1) := by decide +kernel
theorem dX12_votesAt_91 : decode cX12_votesAt 91 = .ok (.invokevirtual 60, 3) := by decide +kernel
theorem dX12_votesAt_94 : decode cX12_votesAt 94 = .ok (.aload_n 0, 1) := by decide +kernel
theorem dX12_votesAt_95 : decode cX12_votesAt 95 = .ok (.iload 4, 2) := by decide +kernel
theorem dX12_votesAt_97 : decode cX12_votesAt 97 = .ok (.iconst 5, 1) := by decide +kernel
theorem dX12_votesAt_98 : decode cX12_votesAt 98 = .ok (.invokevirtual 60, 3) := by decide +kernel
theorem dX12_votesAt_101 : decode cX12_votesAt 101 = .ok (.isub, 1) := by decide +kernel
theorem dX12_votesAt_102 : decode cX12_votesAt 102 = .ok (.aload_n 0, 1) := by decide +kernel
theorem dX12_votesAt_103 : decode cX12_votesAt 103 = .ok (.getfield 43, 3) := by decide +kernel
theorem dX12_votesAt_106 : decode cX12_votesAt 106 = .ok (.iload_n 3, 1) := by decide +kernel
theorem dX12_votesAt_107 : decode cX12_votesAt 107 = .ok (.iaload, 1) := by decide +kernel
theorem dX12_votesAt_108 : decode cX12_votesAt 108 = .ok (.aload_n 0, 1) := by decide +kernel
theorem dX12_votesAt_109 : decode cX12_votesAt 109 = .ok (.getfield 43, 3) := by decide +kernel
theorem dX12_votesAt_112 : decode cX12_votesAt 112 = .ok (.iload 4, 2) := by decide +kernel
theorem dX12_votesAt_114 : decode cX12_votesAt 114 = .ok (.iaload, 1) := by decide +kernel
theorem dX12_votesAt_115 : decode cX12_votesAt 115 = .ok (.isub, 1) := by decide +kernel
theorem dX12_votesAt_116 : decode cX12_votesAt 116 = .ok (.invokestatic 202, 3) := by decide +kernel
theorem dX12_votesAt_119 : decode cX12_votesAt 119 = .ok (.istore 5, 2) := by decide +kernel
theorem dX12_votesAt_121 : decode cX12_votesAt 121 = .ok (.aload_n 0, 1) := by decide +kernel
theorem dX12_votesAt_122 : decode cX12_votesAt 122 = .ok (.getfield 37, 3) := by decide +kernel
theorem dX12_votesAt_125 : decode cX12_votesAt 125 = .ok (.iload_n 1, 1) := by decide +kernel
theorem dX12_votesAt_126 : decode cX12_votesAt 126 = .ok (.dup2, 1) := by decide +kernel
theorem dX12_votesAt_127 : decode cX12_votesAt 127 = .ok (.iaload, 1) := by decide +kernel
theorem dX12_votesAt_128 : decode cX12_votesAt 128 = .ok (.iload 5, 2) := by decide +kernel
theorem dX12_votesAt_130 : decode cX12_votesAt 130 = .ok (.aload_n 0, 1) := by decide +kernel
theorem dX12_votesAt_131 : decode cX12_votesAt 131 = .ok (.getfield 7, 3) := by decide +kernel
theorem dX12_votesAt_134 : decode cX12_votesAt 134 = .ok (.bipush 13, 2) := by decide +kernel
theorem dX12_votesAt_136 : decode cX12_votesAt 136 = .ok (.iaload, 1) := by decide +kernel
theorem dX12_votesAt_137 : decode cX12_votesAt 137 = .ok (.if_icmp .gt 7, 3) := by decide +kernel
theorem dX12_votesAt_140 : decode cX12_votesAt 140 = .ok (.iconst 1, 1) := by decide +kernel
theorem dX12_votesAt_141 : decode cX12_votesAt 141 = .ok (.goto 4, 3) := by decide +kernel
theorem dX12_votesAt_144 : decode cX12_votesAt 144 = .ok (.iconst 0, 1) := by decide +kernel
theorem dX12_votesAt_145 : decode cX12_votesAt 145 = .ok (.iadd, 1) := by decide +kernel
theorem dX12_votesAt_146 : decode cX12_votesAt 146 = .ok (.iastore, 1) := by decide +kernel
theorem dX12_votesAt_147 : decode cX12_votesAt 147 = .ok (.aload_n 0, 1) := by decide +kernel
theorem dX12_votesAt_148 : decode cX12_votesAt 148 = .ok (.getfield 40, 3) := by decide +kernel
theorem dX12_votesAt_151 : decode cX12_votesAt 151 = .ok (.iload_n 1, 1) := by decide +kernel
theorem dX12_votesAt_152 : decode cX12_votesAt 152 = .ok (.dup2, 1) := by decide +kernel
theorem dX12_votesAt_153 : decode cX12_votesAt 153 = .ok (.iaload, 1) := by decide +kernel
theorem dX12_votesAt_154 : decode cX12_votesAt 154 = .ok (.iload 5, 2) := by decide +kernel
theorem dX12_votesAt_156 : decode cX12_votesAt 156 = .ok (.iadd, 1) := by decide +kernel
theorem dX12_votesAt_157 : decode cX12_votesAt 157 = .ok (.iastore, 1) := by decide +kernel
theorem dX12_votesAt_158 : decode cX12_votesAt 158 = .ok (.aload_n 0, 1) := by decide +kernel
theorem dX12_votesAt_159 : decode cX12_votesAt 159 = .ok (.dup, 1) := by decide +kernel
theorem dX12_votesAt_160 : decode cX12_votesAt 160 = .ok (.getfield 196, 3) := by decide +kernel
theorem dX12_votesAt_163 : decode cX12_votesAt 163 = .ok (.iconst 1, 1) := by decide +kernel
theorem dX12_votesAt_164 : decode cX12_votesAt 164 = .ok (.iadd, 1) := by decide +kernel
theorem dX12_votesAt_165 : decode cX12_votesAt 165 = .ok (.putfield 196, 3) := by decide +kernel
theorem dX12_votesAt_168 : decode cX12_votesAt 168 = .ok (.iinc 4 1, 3) := by decide +kernel
theorem dX12_votesAt_171 : decode cX12_votesAt 171 = .ok (.goto (-105), 3) := by decide +kernel
theorem dX12_votesAt_174 : decode cX12_votesAt 174 = .ok (.iinc 3 1, 3) := by decide +kernel
theorem dX12_votesAt_177 : decode cX12_votesAt 177 = .ok (.goto (-126), 3) := by decide +kernel
theorem dX12_votesAt_180 : decode cX12_votesAt 180 = .ok (.return_, 1) := by decide +kernel
set_option maxRecDepth 20000 in
theorem ggX12_finds_X12_votesAt : GoodIn wsX12_finds wsX12_votesAt := goodIn_r _ [10, 2, 11, 3, 4, 5, 12, 13, 14, 9, 15, 16, 17, 18, 19, 20, 21, 22, 23, 24, 25, 26, 27, 28, 29, 30, 31, 32, 33, 34, 35, 36, 37, 38, 39, 40, 41, 42, 43, 44, 45, 46, 47, 48, 49, 50, 51, 52, 53, 54, 55, 56, 57, 58, 59, 60] (by decide +kernel) (by decide +kernel)
set_option maxRecDepth 20000 in
theorem gX12_finds_X12_votesAt : GoodIn wsX12_finds (wsV RX12 205 RX12 yX12_votesAt wsX12_votesAt) := goodIn_app (goodIn_of _ (by decide +kernel)) ggX12_finds_X12_votesAt
theorem dX12_finds_0 : decode cX12_finds 0 = .ok (.ldc 71, 2) := by decide +kernel
theorem dX12_finds_2 : decode cX12_finds 2 = .ok (.istore_n 2, 1) := by decide +kernel
theorem dX12_finds_3 : decode cX12_finds 3 = .ok (.aload_n 0, 1) := by decide +kernel
theorem dX12_finds_4 : decode cX12_finds 4 = .ok (.getfield 7, 3) := by decide +kernel
theorem dX12_finds_7 : decode cX12_finds 7 = .ok (.iconst 0, 1) := by decide +kernel
theorem dX12_finds_8 : decode cX12_finds 8 = .ok (.iaload, 1) := by decide +kernel
theorem dX12_finds_9 : decode cX12_finds 9 = .ok (.aload_n 0, 1) := by decide +kernel
theorem dX12_finds_10 : decode cX12_finds 10 = .ok (.getfield 7, 3) := by decide +kernel
theorem dX12_finds_13 : decode cX12_finds 13 = .ok (.iconst 1, 1) := by decide +kernel
theorem dX12_finds_14 : decode cX12_finds 14 = .ok (.iaload, 1) := by decide +kernel
theorem dX12_finds_15 : decode cX12_finds 15 = .ok (.imul, 1) := by decide +kernel
theorem dX12_finds_16 : decode cX12_finds 16 = .ok (.istore_n 3, 1) := by decide +kernel
theorem dX12_finds_17 : decode cX12_finds 17 = .ok (.iconst 0, 1) := by decide +kernel
theorem dX12_finds_18 : decode cX12_finds 18 = .ok (.istore 4, 2) := by decide +kernel
theorem dX12_finds_20 : decode cX12_finds 20 = .ok (.iload 4, 2) := by decide +kernel
theorem dX12_finds_22 : decode cX12_finds 22 = .ok (.iload_n 3, 1) := by decide +kernel
theorem dX12_finds_23 : decode cX12_finds 23 = .ok (.if_icmp .ge 89, 3) := by decide +kernel
theorem dX12_finds_26 : decode cX12_finds 26 = .ok (.aload_n 0, 1) := by decide +kernel
theorem dX12_finds_27 : decode cX12_finds 27 = .ok (.iload 4, 2) := by decide +kernel
theorem dX12_finds_29 : decode cX12_finds 29 = .ok (.iload_n 1, 1) := by decide +kernel
theorem dX12_finds_30 : decode cX12_finds 30 = .ok (.invokevirtual 205, 3) := by decide +kernel
theorem dX12_finds_33 : decode cX12_finds 33 = .ok (.iload_n 2, 1) := by decide +kernel
theorem dX12_finds_34 : decode cX12_finds 34 = .ok (.ldc 71, 2) := by decide +kernel
theorem dX12_finds_36 : decode cX12_finds 36 = .ok (.if_icmp .eq 51, 3) := by decide +kernel
theorem dX12_finds_39 : decode cX12_finds 39 = .ok (.aload_n 0, 1) := by decide +kernel
theorem dX12_finds_40 : decode cX12_finds 40 = .ok (.getfield 37, 3) := by decide +kernel
theorem dX12_finds_43 : decode cX12_finds 43 = .ok (.iload 4, 2) := by decide +kernel
theorem dX12_finds_45 : decode cX12_finds 45 = .ok (.iaload, 1) := by decide +kernel
theorem dX12_finds_46 : decode cX12_finds 46 = .ok (.aload_n 0, 1) := by decide +kernel
theorem dX12_finds_47 : decode cX12_finds 47 = .ok (.getfield 37, 3) := by decide +kernel
theorem dX12_finds_50 : decode cX12_finds 50 = .ok (.iload_n 2, 1) := by decide +kernel
theorem dX12_finds_51 : decode cX12_finds 51 = .ok (.iaload, 1) := by decide +kernel
theorem dX12_finds_52 : decode cX12_finds 52 = .ok (.if_icmp .gt 35, 3) := by decide +kernel
theorem dX12_finds_55 : decode cX12_finds 55 = .ok (.aload_n 0, 1) := by decide +kernel
theorem dX12_finds_56 : decode cX12_finds 56 = .ok (.getfield 37, 3) := by decide +kernel
theorem dX12_finds_59 : decode cX12_finds 59 = .ok (.iload 4, 2) := by decide +kernel
theorem dX12_finds_61 : decode cX12_finds 61 = .ok (.iaload, 1) := by decide +kernel
theorem dX12_finds_62 : decode cX12_finds 62 = .ok (.aload_n 0, 1) := by decide +kernel
theorem dX12_finds_63 : decode cX12_finds 63 = .ok (.getfield 37, 3) := by decide +kernel
theorem dX12_finds_66 : decode cX12_finds 66 = .ok (.iload_n 2, 1) := by decide +kernel
theorem dX12_finds_67 : decode cX12_finds 67 = .ok (.iaload, 1) := by decide +kernel
theorem dX12_finds_68 : decode cX12_finds 68 = .ok (.if_icmp .ne 23, 3) := by decide +kernel
theorem dX12_finds_71 : decode cX12_finds 71 = .ok (.aload_n 0, 1) := by decide +kernel
theorem dX12_finds_72 : decode cX12_finds 72 = .ok (.getfield 40, 3) := by decide +kernel
theorem dX12_finds_75 : decode cX12_finds 75 = .ok (.iload 4, 2) := by decide +kernel
theorem dX12_finds_77 : decode cX12_finds 77 = .ok (.iaload, 1) := by decide +kernel
theorem dX12_finds_78 : decode cX12_finds 78 = .ok (.aload_n 0, 1) := by decide +kernel
theorem dX12_finds_79 : decode cX12_finds 79 = .ok (.getfield 40, 3) := by decide +kernel
theorem dX12_finds_82 : decode cX12_finds 82 = .ok (.iload_n 2, 1) := by decide +kernel
theorem dX12_finds_83 : decode cX12_finds 83 = .ok (.iaload, 1) := by decide +kernel
theorem dX12_finds_84 : decode cX12_finds 84 = .ok (.if_icmp .ge 7, 3) := by decide +kernel
theorem dX12_finds_87 : decode cX12_finds 87 = .ok (.iconst 1, 1) := by decide +kernel
theorem dX12_finds_88 : decode cX12_finds 88 = .ok (.goto 4, 3) := by decide +kernel
theorem dX12_finds_91 : decode cX12_finds 91 = .ok (.iconst 0, 1) := by decide +kernel
theorem dX12_finds_92 : decode cX12_finds 92 = .ok (.istore 5, 2) := by decide +kernel
theorem dX12_finds_94 : decode cX12_finds 94 = .ok (.iload 5, 2) := by decide +kernel
theorem dX12_finds_96 : decode cX12_finds 96 = .ok (.ifCond .eq 8, 3) := by decide +kernel
theorem dX12_finds_99 : decode cX12_finds 99 = .ok (.iload 4, 2) := by decide +kernel
theorem dX12_finds_101 : decode cX12_finds 101 = .ok (.goto 4, 3) := by decide +kernel
theorem dX12_finds_104 : decode cX12_finds 104 = .ok (.iload_n 2, 1) := by decide +kernel
theorem dX12_finds_105 : decode cX12_finds 105 = .ok (.istore_n 2, 1) := by decide +kernel
theorem dX12_finds_106 : decode cX12_finds 106 = .ok (.iinc 4 1, 3) := by decide +kernel
theorem dX12_finds_109 : decode cX12_finds 109 = .ok (.goto (-89), 3) := by decide +kernel
theorem dX12_finds_112 : decode cX12_finds 112 = .ok (.aload_n 0, 1) := by decide +kernel
theorem dX12_finds_113 : decode cX12_finds 113 = .ok (.getfield 196, 3) := by decide +kernel
theorem dX12_finds_116 : decode cX12_finds 116 = .ok (.ifCond .ne 8, 3) := by decide +kernel
theorem dX12_finds_119 : decode cX12_finds 119 = .ok (.ldc 71, 2) := by decide +kernel
theorem dX12_finds_121 : decode cX12_finds 121 = .ok (.goto 4, 3) := by decide +kernel
theorem dX12_finds_124 : decode cX12_finds 124 = .ok (.iload_n 2, 1) := by decide +kernel
theorem dX12_finds_125 : decode cX12_finds 125 = .ok (.ireturn, 1) := by decide +kernel
set_option maxRecDepth 20000 in
theorem ggX12_delay_X12_isMicrophone : GoodIn wsX12_delay wsX12_isMicrophone := goodIn_r _ [6, 7, 25, 26, 27, 28, 29, 30, 31, 32, 33, 34, 35, 36, 37, 38, 39, 40, 41, 42, 43, 44, 45, 46, 47] (by decide +kernel) (by decide +kernel)
set_option maxRecDepth 20000 in
theorem gX12_delay_X12_isMicrophone : GoodIn wsX12_delay (wsV RX12 159 RX12 yX12_isMicrophone wsX12_isMicrophone) := goodIn_app (goodIn_of _ (by decide +kernel)) ggX12_delay_X12_isMicrophone
set_option maxRecDepth 20000 in
theorem ggX12_delay_X12_fails : GoodIn wsX12_delay wsX12_fails := goodIn_r _ [11, 12, 25, 26, 27, 28, 29, 30, 31, 32, 33, 34, 35, 36, 37, 38, 39, 40, 41, 42, 43, 44, 45, 46, 47] (by decide +kernel) (by decide +kernel)
set_option maxRecDepth 20000 in
theorem gX12_delay_X12_fails : GoodIn wsX12_delay (wsV RX12 141 RX12 yX12_fails wsX12_fails) := goodIn_app (goodIn_of _ (by decide +kernel)) ggX12_delay_X12_fails
set_option maxRecDepth 20000 in
theorem ggX12_delay_X12_arePair : GoodIn wsX12_delay wsX12_arePair := goodIn_r _ [16, 17, 18, 19, 5, 20, 7, 25, 26, 27, 28, 29, 30, 31, 32, 33, 34, 35, 36, 37, 38, 39, 40, 41, 42, 43, 44, 45, 46, 47] (by decide +kernel) (by decide +kernel)
set_option maxRecDepth 20000 in
theorem gX12_delay_X12_arePair : GoodIn wsX12_delay (wsV RX12 199 RX12 yX12_arePair wsX12_arePair) := goodIn_app (goodIn_of _ (by decide +kernel)) ggX12_delay_X12_arePair
set_option maxRecDepth 20000 in
theorem ggX12_delay_X12_of : GoodIn wsX12_delay wsX12_of := goodIn_r _ [20, 7, 25, 26, 27, 28, 29, 30, 31, 32, 33, 34, 35, 36, 37, 38, 39, 40, 41, 42, 43, 44, 45, 46, 47] (by decide +kernel) (by decide +kernel)
set_option maxRecDepth 20000 in
theorem gX12_delay_X12_of : GoodIn wsX12_delay (wsV RX12 60 RX12 yX12_of wsX12_of) := goodIn_app (goodIn_of _ (by decide +kernel)) ggX12_delay_X12_of
set_option maxRecDepth 20000 in
theorem ggX12_delay_X12_tells : GoodIn wsX12_delay wsX12_tells := goodIn_r _ [24, 12, 25, 26, 27, 28, 29, 30, 31, 32, 33, 34, 35, 36, 37, 38, 39, 40, 41, 42, 43, 44, 45, 46, 47] (by decide +kernel) (by decide +kernel)
set_option maxRecDepth 20000 in
theorem gX12_delay_X12_tells : GoodIn wsX12_delay (wsV RX12 56 RX12 yX12_tells wsX12_tells) := goodIn_app (goodIn_of _ (by decide +kernel)) ggX12_delay_X12_tells
theorem dX12_delay_0 : decode cX12_delay 0 = .ok (.aload_n 0, 1) := by decide +kernel
theorem dX12_delay_1 : decode cX12_delay 1 = .ok (.iload_n 1, 1) := by decide +kernel
theorem dX12_delay_2 : decode cX12_delay 2 = .ok (.invokevirtual 159, 3) := by decide +kernel
theorem dX12_delay_5 : decode cX12_delay 5 = .ok (.ifCond .eq 11, 3) := by decide +kernel
theorem dX12_delay_8 : decode cX12_delay 8 = .ok (.aload_n 0, 1) := by decide +kernel
theorem dX12_delay_9 : decode cX12_delay 9 = .ok (.iload_n 2, 1) := by decide +kernel
theorem dX12_delay_10 : decode cX12_delay 10 = .ok (.invokevirtual 159, 3) := by decide +kernel
theorem dX12_delay_13 : decode cX12_delay 13 = .ok (.ifCond .ne 9, 3) := by decide +kernel
theorem dX12_delay_16 : decode cX12_delay 16 = .ok (.aload_n 0, 1) := by decide +kernel
theorem dX12_delay_17 : decode cX12_delay 17 = .ok (.iconst 1, 1) := by decide +kernel
theorem dX12_delay_18 : decode cX12_delay 18 = .ok (.invokevirtual 141, 3) := by decide +kernel
theorem dX12_delay_21 : decode cX12_delay 21 = .ok (.ireturn, 1) := by decide +kernel
theorem dX12_delay_22 : decode cX12_delay 22 = .ok (.iload_n 1, 1) := by decide +kernel
theorem dX12_delay_23 : decode cX12_delay 23 = .ok (.iload_n 2, 1) := by decide +kernel
theorem dX12_delay_24 : decode cX12_delay 24 = .ok (.if_icmp .ne 9, 3) := by decide +kernel
theorem dX12_delay_27 : decode cX12_delay 27 = .ok (.aload_n 0, 1) := by decide +kernel
theorem dX12_delay_28 : decode cX12_delay 28 = .ok (.iconst 2, 1) := by decide +kernel
theorem dX12_delay_29 : decode cX12_delay 29 = .ok (.invokevirtual 141, 3) := by decide +kernel
theorem dX12_delay_32 : decode cX12_delay 32 = .ok (.ireturn, 1) := by decide +kernel
theorem dX12_delay_33 : decode cX12_delay 33 = .ok (.aload_n 0, 1) := by decide +kernel
theorem dX12_delay_34 : decode cX12_delay 34 = .ok (.aload_n 0, 1) := by decide +kernel
theorem dX12_delay_35 : decode cX12_delay 35 = .ok (.iload_n 1, 1) := by decide +kernel
theorem dX12_delay_36 : decode cX12_delay 36 = .ok (.iload_n 2, 1) := by decide +kernel
theorem dX12_delay_37 : decode cX12_delay 37 = .ok (.ldc 71, 2) := by decide +kernel
theorem dX12_delay_39 : decode cX12_delay 39 = .ok (.invokevirtual 199, 3) := by decide +kernel
theorem dX12_delay_42 : decode cX12_delay 42 = .ok (.ifCond .eq 19, 3) := by decide +kernel
theorem dX12_delay_45 : decode cX12_delay 45 = .ok (.aload_n 0, 1) := by decide +kernel
theorem dX12_delay_46 : decode cX12_delay 46 = .ok (.iload_n 1, 1) := by decide +kernel
theorem dX12_delay_47 : decode cX12_delay 47 = .ok (.iconst 5, 1) := by decide +kernel
theorem dX12_delay_48 : decode cX12_delay 48 = .ok (.invokevirtual 60, 3) := by decide +kernel
theorem dX12_delay_51 : decode cX12_delay 51 = .ok (.aload_n 0, 1) := by decide +kernel
theorem dX12_delay_52 : decode cX12_delay 52 = .ok (.iload_n 2, 1) := by decide +kernel
theorem dX12_delay_53 : decode cX12_delay 53 = .ok (.iconst 5, 1) := by decide +kernel
theorem dX12_delay_54 : decode cX12_delay 54 = .ok (.invokevirtual 60, 3) := by decide +kernel
theorem dX12_delay_57 : decode cX12_delay 57 = .ok (.isub, 1) := by decide +kernel
theorem dX12_delay_58 : decode cX12_delay 58 = .ok (.goto 5, 3) := by decide +kernel
theorem dX12_delay_61 : decode cX12_delay 61 = .ok (.ldc 71, 2) := by decide +kernel
theorem dX12_delay_63 : decode cX12_delay 63 = .ok (.invokevirtual 56, 3) := by decide +kernel
theorem dX12_delay_66 : decode cX12_delay 66 = .ok (.ireturn, 1) := by decide +kernel
set_option maxRecDepth 20000 in
theorem ggX12_expected_X12_isCell : GoodIn wsX12_expected wsX12_isCell := goodIn_r _ [5, 6, 39, 40, 41, 42, 43, 44, 45, 46, 47, 48, 49, 50, 51, 52, 53, 54, 55, 56, 57, 58, 59, 60, 61] (by decide +kernel) (by decide +kernel)
set_option maxRecDepth 20000 in
theorem gX12_expected_X12_isCell : GoodIn wsX12_expected (wsV RX12 209 RX12 yX12_isCell wsX12_isCell) := goodIn_app (goodIn_of _ (by decide +kernel)) ggX12_expected_X12_isCell
set_option maxRecDepth 20000 in
theorem ggX12_expected_X12_isMicrophone : GoodIn wsX12_expected wsX12_isMicrophone := goodIn_r _ [10, 6, 39, 40, 41, 42, 43, 44, 45, 46, 47, 48, 49, 50, 51, 52, 53, 54, 55, 56, 57, 58, 59, 60, 61] (by decide +kernel) (by decide +kernel)
set_option maxRecDepth 20000 in
theorem gX12_expected_X12_isMicrophone : GoodIn wsX12_expected (wsV RX12 159 RX12 yX12_isMicrophone wsX12_isMicrophone) := goodIn_app (goodIn_of _ (by decide +kernel)) ggX12_expected_X12_isMicrophone
set_option maxRecDepth 20000 in
theorem ggX12_expected_X12_fails : GoodIn wsX12_expected wsX12_fails := goodIn_r _ [14, 15, 39, 40, 41, 42, 43, 44, 45, 46, 47, 48, 49, 50, 51, 52, 53, 54, 55, 56, 57, 58, 59, 60, 61] (by decide +kernel) (by decide +kernel)
set_option maxRecDepth 20000 in
theorem gX12_expected_X12_fails : GoodIn wsX12_expected (wsV RX12 141 RX12 yX12_fails wsX12_fails) := goodIn_app (goodIn_of _ (by decide +kernel)) ggX12_expected_X12_fails
set_option maxRecDepth 20000 in
theorem ggX12_expected_X12_timeFrom : GoodIn wsX12_expected wsX12_timeFrom := goodIn_r _ [19, 6, 20, 21, 22, 4, 23, 24, 25, 26, 27, 28, 29, 30, 31, 32, 33, 34, 39, 40, 41, 42, 43, 44, 45, 46, 47, 48, 49, 50, 51, 52, 53, 54, 55, 56, 57, 58, 59, 60, 61] (by decide +kernel) (by decide +kernel)
set_option maxRecDepth 20000 in
theorem gX12_expected_X12_timeFrom : GoodIn wsX12_expected (wsV RX12 193 RX12 yX12_timeFrom wsX12_timeFrom) := goodIn_app (goodIn_of _ (by decide +kernel)) ggX12_expected_X12_timeFrom
set_option maxRecDepth 20000 in
theorem ggX12_expected_X12_tells : GoodIn wsX12_expected wsX12_tells := goodIn_r _ [38, 15, 39, 40, 41, 42, 43, 44, 45, 46, 47, 48, 49, 50, 51, 52, 53, 54, 55, 56, 57, 58, 59, 60, 61] (by decide +kernel) (by decide +kernel)
set_option maxRecDepth 20000 in
theorem gX12_expected_X12_tells : GoodIn wsX12_expected (wsV RX12 56 RX12 yX12_tells wsX12_tells) := goodIn_app (goodIn_of _ (by decide +kernel)) ggX12_expected_X12_tells
theorem dX12_expected_0 : decode cX12_expected 0 = .ok (.aload_n 0, 1) := by decide +kernel
theorem dX12_expected_1 : decode cX12_expected 1 = .ok (.iload_n 1, 1) := by decide +kernel
theorem dX12_expected_2 : decode cX12_expected 2 = .ok (.invokevirtual 209, 3) := by decide +kernel
theorem dX12_expected_5 : decode cX12_expected 5 = .ok (.ifCond .eq 19, 3) := by decide +kernel
theorem dX12_expected_8 : decode cX12_expected 8 = .ok (.aload_n 0, 1) := by decide +kernel
theorem dX12_expected_9 : decode cX12_expected 9 = .ok (.iload_n 2, 1) := by decide +kernel
theorem dX12_expected_10 : decode cX12_expected 10 = .ok (.invokevirtual 159, 3) := by decide +kernel
theorem dX12_expected_13 : decode cX12_expected 13 = .ok (.ifCond .eq 11, 3) := by decide +kernel
theorem dX12_expected_16 : decode cX12_expected 16 = .ok (.aload_n 0, 1) := by decide +kernel
theorem dX12_expected_17 : decode cX12_expected 17 = .ok (.iload_n 3, 1) := by decide +kernel
theorem dX12_expected_18 : decode cX12_expected 18 = .ok (.invokevirtual 159, 3) := by decide +kernel
theorem dX12_expected_21 : decode cX12_expected 21 = .ok (.ifCond .ne 9, 3) := by decide +kernel
theorem dX12_expected_24 : decode cX12_expected 24 = .ok (.aload_n 0, 1) := by decide +kernel
theorem dX12_expected_25 : decode cX12_expected 25 = .ok (.iconst 1, 1) := by decide +kernel
theorem dX12_expected_26 : decode cX12_expected 26 = .ok (.invokevirtual 141, 3) := by decide +kernel
theorem dX12_expected_29 : decode cX12_expected 29 = .ok (.ireturn, 1) := by decide +kernel
theorem dX12_expected_30 : decode cX12_expected 30 = .ok (.iload_n 2, 1) := by decide +kernel
theorem dX12_expected_31 : decode cX12_expected 31 = .ok (.iload_n 3, 1) := by decide +kernel
theorem dX12_expected_32 : decode cX12_expected 32 = .ok (.if_icmp .ne 11, 3) := by decide +kernel
theorem dX12_expected_35 : decode cX12_expected 35 = .ok (.aload_n 0, 1) := by decide +kernel
theorem dX12_expected_36 : decode cX12_expected 36 = .ok (.iconst 2, 1) := by decide +kernel
theorem dX12_expected_37 : decode cX12_expected 37 = .ok (.invokevirtual 141, 3) := by decide +kernel
theorem dX12_expected_40 : decode cX12_expected 40 = .ok (.goto 20, 3) := by decide +kernel
theorem dX12_expected_43 : decode cX12_expected 43 = .ok (.aload_n 0, 1) := by decide +kernel
theorem dX12_expected_44 : decode cX12_expected 44 = .ok (.aload_n 0, 1) := by decide +kernel
theorem dX12_expected_45 : decode cX12_expected 45 = .ok (.iload_n 1, 1) := by decide +kernel
theorem dX12_expected_46 : decode cX12_expected 46 = .ok (.iload_n 2, 1) := by decide +kernel
theorem dX12_expected_47 : decode cX12_expected 47 = .ok (.invokevirtual 193, 3) := by decide +kernel
theorem dX12_expected_50 : decode cX12_expected 50 = .ok (.aload_n 0, 1) := by decide +kernel
theorem dX12_expected_51 : decode cX12_expected 51 = .ok (.iload_n 1, 1) := by decide +kernel
theorem dX12_expected_52 : decode cX12_expected 52 = .ok (.iload_n 3, 1) := by decide +kernel
theorem dX12_expected_53 : decode cX12_expected 53 = .ok (.invokevirtual 193, 3) := by decide +kernel
theorem dX12_expected_56 : decode cX12_expected 56 = .ok (.isub, 1) := by decide +kernel
theorem dX12_expected_57 : decode cX12_expected 57 = .ok (.invokevirtual 56, 3) := by decide +kernel
theorem dX12_expected_60 : decode cX12_expected 60 = .ok (.ireturn, 1) := by decide +kernel
set_option maxRecDepth 20000 in
theorem ggX12_votes_X12_isCell : GoodIn wsX12_votes wsX12_isCell := goodIn_r _ [7, 8, 51, 52, 53, 54, 55, 56, 57, 58, 59, 60, 61, 62, 63, 64, 65, 66, 67, 68, 69, 70, 71, 72, 73] (by decide +kernel) (by decide +kernel)
set_option maxRecDepth 20000 in
theorem gX12_votes_X12_isCell : GoodIn wsX12_votes (wsV RX12 209 RX12 yX12_isCell wsX12_isCell) := goodIn_app (goodIn_of _ (by decide +kernel)) ggX12_votes_X12_isCell
set_option maxRecDepth 20000 in
theorem ggX12_votes_X12_fails : GoodIn wsX12_votes wsX12_fails := goodIn_r _ [12, 13, 51, 52, 53, 54, 55, 56, 57, 58, 59, 60, 61, 62, 63, 64, 65, 66, 67, 68, 69, 70, 71, 72, 73] (by decide +kernel) (by decide +kernel)
set_option maxRecDepth 20000 in
theorem gX12_votes_X12_fails : GoodIn wsX12_votes (wsV RX12 141 RX12 yX12_fails wsX12_fails) := goodIn_app (goodIn_of _ (by decide +kernel)) ggX12_votes_X12_fails
set_option maxRecDepth 20000 in
theorem ggX12_votes_X12_votesAt : GoodIn wsX12_votes wsX12_votesAt := goodIn_r _ [17, 8, 18, 2, 19, 20, 21, 22, 23, 6, 24, 25, 26, 27, 28, 29, 30, 31, 32, 33, 34, 35, 36, 37, 38, 39, 40, 41, 42, 43, 44, 45, 46, 51, 52, 53, 54, 55, 56, 57, 58, 59, 60, 61, 62, 63, 64, 65, 66, 67, 68, 69, 70, 71, 72, 73] (by decide +kernel) (by decide +kernel)
set_option maxRecDepth 20000 in
theorem gX12_votes_X12_votesAt : GoodIn wsX12_votes (wsV RX12 205 RX12 yX12_votesAt wsX12_votesAt) := goodIn_app (goodIn_of _ (by decide +kernel)) ggX12_votes_X12_votesAt
set_option maxRecDepth 20000 in
theorem ggX12_votes_X12_tells : GoodIn wsX12_votes wsX12_tells := goodIn_r _ [50, 13, 51, 52, 53, 54, 55, 56, 57, 58, 59, 60, 61, 62, 63, 64, 65, 66, 67, 68, 69, 70, 71, 72, 73] (by decide +kernel) (by decide +kernel)
set_option maxRecDepth 20000 in
theorem gX12_votes_X12_tells : GoodIn wsX12_votes (wsV RX12 56 RX12 yX12_tells wsX12_tells) := goodIn_app (goodIn_of _ (by decide +kernel)) ggX12_votes_X12_tells
theorem dX12_votes_0 : decode cX12_votes 0 = .ok (.aload_n 0, 1) := by decide +kernel
theorem dX12_votes_1 : decode cX12_votes 1 = .ok (.iload_n 1, 1) := by decide +kernel
theorem dX12_votes_2 : decode cX12_votes 2 = .ok (.invokevirtual 209, 3) := by decide +kernel
theorem dX12_votes_5 : decode cX12_votes 5 = .ok (.ifCond .ne 9, 3) := by decide +kernel
theorem dX12_votes_8 : decode cX12_votes 8 = .ok (.aload_n 0, 1) := by decide +kernel
theorem dX12_votes_9 : decode cX12_votes 9 = .ok (.iconst 1, 1) := by decide +kernel
theorem dX12_votes_10 : decode cX12_votes 10 = .ok (.invokevirtual 141, 3) := by decide +kernel
theorem dX12_votes_13 : decode cX12_votes 13 = .ok (.ireturn, 1) := by decide +kernel
theorem dX12_votes_14 : decode cX12_votes 14 = .ok (.aload_n 0, 1) := by decide +kernel
theorem dX12_votes_15 : decode cX12_votes 15 = .ok (.iload_n 1, 1) := by decide +kernel
theorem dX12_votes_16 : decode cX12_votes 16 = .ok (.ldc 71, 2) := by decide +kernel
theorem dX12_votes_18 : decode cX12_votes 18 = .ok (.invokevirtual 205, 3) := by decide +kernel
theorem dX12_votes_21 : decode cX12_votes 21 = .ok (.aload_n 0, 1) := by decide +kernel
theorem dX12_votes_22 : decode cX12_votes 22 = .ok (.aload_n 0, 1) := by decide +kernel
theorem dX12_votes_23 : decode cX12_votes 23 = .ok (.getfield 37, 3) := by decide +kernel
theorem dX12_votes_26 : decode cX12_votes 26 = .ok (.iload_n 1, 1) := by decide +kernel
theorem dX12_votes_27 : decode cX12_votes 27 = .ok (.iaload, 1) := by decide +kernel
theorem dX12_votes_28 : decode cX12_votes 28 = .ok (.invokevirtual 56, 3) := by decide +kernel
theorem dX12_votes_31 : decode cX12_votes 31 = .ok (.ireturn, 1) := by decide +kernel
set_option maxRecDepth 20000 in
theorem ggX12_error_X12_isCell : GoodIn wsX12_error wsX12_isCell := goodIn_r _ [7, 8, 51, 52, 53, 54, 55, 56, 57, 58, 59, 60, 61, 62, 63, 64, 65, 66, 67, 68, 69, 70, 71, 72, 73] (by decide +kernel) (by decide +kernel)
set_option maxRecDepth 20000 in
theorem gX12_error_X12_isCell : GoodIn wsX12_error (wsV RX12 209 RX12 yX12_isCell wsX12_isCell) := goodIn_app (goodIn_of _ (by decide +kernel)) ggX12_error_X12_isCell
set_option maxRecDepth 20000 in
theorem ggX12_error_X12_fails : GoodIn wsX12_error wsX12_fails := goodIn_r _ [12, 13, 51, 52, 53, 54, 55, 56, 57, 58, 59, 60, 61, 62, 63, 64, 65, 66, 67, 68, 69, 70, 71, 72, 73] (by decide +kernel) (by decide +kernel)
set_option maxRecDepth 20000 in
theorem gX12_error_X12_fails : GoodIn wsX12_error (wsV RX12 141 RX12 yX12_fails wsX12_fails) := goodIn_app (goodIn_of _ (by decide +kernel)) ggX12_error_X12_fails
set_option maxRecDepth 20000 in
theorem ggX12_error_X12_votesAt : GoodIn wsX12_error wsX12_votesAt := goodIn_r _ [17, 8, 18, 19, 2, 20, 21, 22, 23, 6, 24, 25, 26, 27, 28, 29, 30, 31, 32, 33, 34, 35, 36, 37, 38, 39, 40, 41, 42, 43, 44, 45, 46, 51, 52, 53, 54, 55, 56, 57, 58, 59, 60, 61, 62, 63, 64, 65, 66, 67, 68, 69, 70, 71, 72, 73] (by decide +kernel) (by decide +kernel)
set_option maxRecDepth 20000 in
theorem gX12_error_X12_votesAt : GoodIn wsX12_error (wsV RX12 205 RX12 yX12_votesAt wsX12_votesAt) := goodIn_app (goodIn_of _ (by decide +kernel)) ggX12_error_X12_votesAt
set_option maxRecDepth 20000 in
theorem ggX12_error_X12_tells : GoodIn wsX12_error wsX12_tells := goodIn_r _ [50, 13, 51, 52, 53, 54, 55, 56, 57, 58, 59, 60, 61, 62, 63, 64, 65, 66, 67, 68, 69, 70, 71, 72, 73] (by decide +kernel) (by decide +kernel)
set_option maxRecDepth 20000 in
theorem gX12_error_X12_tells : GoodIn wsX12_error (wsV RX12 56 RX12 yX12_tells wsX12_tells) := goodIn_app (goodIn_of _ (by decide +kernel)) ggX12_error_X12_tells
theorem dX12_error_0 : decode cX12_error 0 = .ok (.aload_n 0, 1) := by decide +kernel
theorem dX12_error_1 : decode cX12_error 1 = .ok (.iload_n 1, 1) := by decide +kernel
theorem dX12_error_2 : decode cX12_error 2 = .ok (.invokevirtual 209, 3) := by decide +kernel
theorem dX12_error_5 : decode cX12_error 5 = .ok (.ifCond .ne 9, 3) := by decide +kernel
theorem dX12_error_8 : decode cX12_error 8 = .ok (.aload_n 0, 1) := by decide +kernel
theorem dX12_error_9 : decode cX12_error 9 = .ok (.iconst 1, 1) := by decide +kernel
theorem dX12_error_10 : decode cX12_error 10 = .ok (.invokevirtual 141, 3) := by decide +kernel
theorem dX12_error_13 : decode cX12_error 13 = .ok (.ireturn, 1) := by decide +kernel
theorem dX12_error_14 : decode cX12_error 14 = .ok (.aload_n 0, 1) := by decide +kernel
theorem dX12_error_15 : decode cX12_error 15 = .ok (.iload_n 1, 1) := by decide +kernel
theorem dX12_error_16 : decode cX12_error 16 = .ok (.ldc 71, 2) := by decide +kernel
theorem dX12_error_18 : decode cX12_error 18 = .ok (.invokevirtual 205, 3) := by decide +kernel
theorem dX12_error_21 : decode cX12_error 21 = .ok (.aload_n 0, 1) := by decide +kernel
theorem dX12_error_22 : decode cX12_error 22 = .ok (.aload_n 0, 1) := by decide +kernel
theorem dX12_error_23 : decode cX12_error 23 = .ok (.getfield 40, 3) := by decide +kernel
theorem dX12_error_26 : decode cX12_error 26 = .ok (.iload_n 1, 1) := by decide +kernel
theorem dX12_error_27 : decode cX12_error 27 = .ok (.iaload, 1) := by decide +kernel
theorem dX12_error_28 : decode cX12_error 28 = .ok (.invokevirtual 56, 3) := by decide +kernel
theorem dX12_error_31 : decode cX12_error 31 = .ok (.ireturn, 1) := by decide +kernel
set_option maxRecDepth 20000 in
theorem ggX12_found_X12_finds : GoodIn wsX12_found wsX12_finds := goodIn_r _ [6, 1, 7, 8, 9, 10, 11, 12, 13, 5, 14, 15, 16, 17, 18, 19, 20, 21, 22, 23, 24, 25, 26, 27, 28, 29, 30, 31, 32, 33, 34, 35, 36, 37, 38, 39, 40, 41, 47, 48, 49, 50, 51, 52, 53, 54, 55, 56, 57, 58, 59, 60, 61, 62, 63, 64, 65, 66, 67, 68, 69] (by decide +kernel) (by decide +kernel)
set_option maxRecDepth 20000 in
theorem gX12_found_X12_finds : GoodIn wsX12_found (wsV RX12 212 RX12 yX12_finds wsX12_finds) := goodIn_app (goodIn_of _ (by decide +kernel)) ggX12_found_X12_finds
set_option maxRecDepth 20000 in
theorem ggX12_found_X12_tells : GoodIn wsX12_found wsX12_tells := goodIn_r _ [45, 46, 47, 48, 49, 50, 51, 52, 53, 54, 55, 56, 57, 58, 59, 60, 61, 62, 63, 64, 65, 66, 67, 68, 69] (by decide +kernel) (by decide +kernel)
set_option maxRecDepth 20000 in
theorem gX12_found_X12_tells : GoodIn wsX12_found (wsV RX12 56 RX12 yX12_tells wsX12_tells) := goodIn_app (goodIn_of _ (by decide +kernel)) ggX12_found_X12_tells
theorem dX12_found_0 : decode cX12_found 0 = .ok (.aload_n 0, 1) := by decide +kernel
theorem dX12_found_1 : decode cX12_found 1 = .ok (.aload_n 0, 1) := by decide +kernel
theorem dX12_found_2 : decode cX12_found 2 = .ok (.ldc 71, 2) := by decide +kernel
theorem dX12_found_4 : decode cX12_found 4 = .ok (.invokevirtual 212, 3) := by decide +kernel
theorem dX12_found_7 : decode cX12_found 7 = .ok (.invokevirtual 56, 3) := by decide +kernel
theorem dX12_found_10 : decode cX12_found 10 = .ok (.ireturn, 1) := by decide +kernel
theorem dX12_likes_0 : decode cX12_likes 0 = .ok (.iconst 0, 1) := by decide +kernel
theorem dX12_likes_1 : decode cX12_likes 1 = .ok (.istore_n 2, 1) := by decide +kernel
theorem dX12_likes_2 : decode cX12_likes 2 = .ok (.iconst 0, 1) := by decide +kernel
theorem dX12_likes_3 : decode cX12_likes 3 = .ok (.istore_n 3, 1) := by decide +kernel
theorem dX12_likes_4 : decode cX12_likes 4 = .ok (.iload_n 3, 1) := by decide +kernel
theorem dX12_likes_5 : decode cX12_likes 5 = .ok (.aload_n 0, 1) := by decide +kernel
theorem dX12_likes_6 : decode cX12_likes 6 = .ok (.getfield 7, 3) := by decide +kernel
theorem dX12_likes_9 : decode cX12_likes 9 = .ok (.iconst 0, 1) := by decide +kernel
theorem dX12_likes_10 : decode cX12_likes 10 = .ok (.iaload, 1) := by decide +kernel
theorem dX12_likes_11 : decode cX12_likes 11 = .ok (.aload_n 0, 1) := by decide +kernel
theorem dX12_likes_12 : decode cX12_likes 12 = .ok (.getfield 7, 3) := by decide +kernel
theorem dX12_likes_15 : decode cX12_likes 15 = .ok (.iconst 1, 1) := by decide +kernel
theorem dX12_likes_16 : decode cX12_likes 16 = .ok (.iaload, 1) := by decide +kernel
theorem dX12_likes_17 : decode cX12_likes 17 = .ok (.imul, 1) := by decide +kernel
theorem dX12_likes_18 : decode cX12_likes 18 = .ok (.if_icmp .ge 38, 3) := by decide +kernel
theorem dX12_likes_21 : decode cX12_likes 21 = .ok (.iload_n 1, 1) := by decide +kernel
theorem dX12_likes_22 : decode cX12_likes 22 = .ok (.ldc 71, 2) := by decide +kernel
theorem dX12_likes_24 : decode cX12_likes 24 = .ok (.if_icmp .eq 32, 3) := by decide +kernel
theorem dX12_likes_27 : decode cX12_likes 27 = .ok (.iload_n 2, 1) := by decide +kernel
theorem dX12_likes_28 : decode cX12_likes 28 = .ok (.aload_n 0, 1) := by decide +kernel
theorem dX12_likes_29 : decode cX12_likes 29 = .ok (.getfield 37, 3) := by decide +kernel
theorem dX12_likes_32 : decode cX12_likes 32 = .ok (.iload_n 3, 1) := by decide +kernel
theorem dX12_likes_33 : decode cX12_likes 33 = .ok (.iaload, 1) := by decide +kernel
theorem dX12_likes_34 : decode cX12_likes 34 = .ok (.aload_n 0, 1) := by decide +kernel
theorem dX12_likes_35 : decode cX12_likes 35 = .ok (.getfield 37, 3) := by decide +kernel
theorem dX12_likes_38 : decode cX12_likes 38 = .ok (.iload_n 1, 1) := by decide +kernel
theorem dX12_likes_39 : decode cX12_likes 39 = .ok (.iaload, 1) := by decide +kernel
theorem dX12_likes_40 : decode cX12_likes 40 = .ok (.if_icmp .ne 7, 3) := by decide +kernel
theorem dX12_likes_43 : decode cX12_likes 43 = .ok (.iconst 1, 1) := by decide +kernel
theorem dX12_likes_44 : decode cX12_likes 44 = .ok (.goto 4, 3) := by decide +kernel
theorem dX12_likes_47 : decode cX12_likes 47 = .ok (.iconst 0, 1) := by decide +kernel
theorem dX12_likes_48 : decode cX12_likes 48 = .ok (.iadd, 1) := by decide +kernel
theorem dX12_likes_49 : decode cX12_likes 49 = .ok (.istore_n 2, 1) := by decide +kernel
theorem dX12_likes_50 : decode cX12_likes 50 = .ok (.iinc 3 1, 3) := by decide +kernel
theorem dX12_likes_53 : decode cX12_likes 53 = .ok (.goto (-49), 3) := by decide +kernel
theorem dX12_likes_56 : decode cX12_likes 56 = .ok (.iload_n 2, 1) := by decide +kernel
theorem dX12_likes_57 : decode cX12_likes 57 = .ok (.ireturn, 1) := by decide +kernel
set_option maxRecDepth 20000 in
theorem ggX12_middle_X12_finds : GoodIn wsX12_middle wsX12_finds := goodIn_r _ [10, 2, 4, 5, 11, 12, 13, 14, 15, 9, 16, 17, 18, 19, 20, 21, 22, 23, 24, 25, 26, 27, 28, 29, 30, 31, 32, 33, 34, 35, 36, 37, 38, 39, 40, 41, 42, 43, 48, 49, 50, 51, 52, 53, 54, 55, 56, 57, 58, 59, 60, 61, 62, 63, 64, 65, 66, 67, 68, 69, 70] (by decide +kernel) (by decide +kernel)
set_option maxRecDepth 20000 in
theorem gX12_middle_X12_finds : GoodIn wsX12_middle (wsV RX12 212 RX12 yX12_finds wsX12_finds) := goodIn_app (goodIn_of _ (by decide +kernel)) ggX12_middle_X12_finds
set_option maxRecDepth 20000 in
theorem ggX12_middle_X12_likes : GoodIn wsX12_middle wsX12_likes := goodIn_r _ [47, 4, 2, 5, 48, 49, 50, 51, 52, 53, 54, 55, 56, 57, 58, 59, 60, 61, 62, 63, 64, 65, 66, 67, 68, 69, 70] (by decide +kernel) (by decide +kernel)
set_option maxRecDepth 20000 in
theorem gX12_middle_X12_likes : GoodIn wsX12_middle (wsV RX12 217 RX12 yX12_likes wsX12_likes) := goodIn_app (goodIn_of _ (by decide +kernel)) ggX12_middle_X12_likes
theorem dX12_middle_0 : decode cX12_middle 0 = .ok (.aload_n 0, 1) := by decide +kernel
theorem dX12_middle_1 : decode cX12_middle 1 = .ok (.iconst 0, 1) := by decide +kernel
theorem dX12_middle_2 : decode cX12_middle 2 = .ok (.putfield 49, 3) := by decide +kernel
theorem dX12_middle_5 : decode cX12_middle 5 = .ok (.aload_n 0, 1) := by decide +kernel
theorem dX12_middle_6 : decode cX12_middle 6 = .ok (.ldc 71, 2) := by decide +kernel
theorem dX12_middle_8 : decode cX12_middle 8 = .ok (.invokevirtual 212, 3) := by decide +kernel
theorem dX12_middle_11 : decode cX12_middle 11 = .ok (.istore_n 2, 1) := by decide +kernel
theorem dX12_middle_12 : decode cX12_middle 12 = .ok (.iload_n 2, 1) := by decide +kernel
theorem dX12_middle_13 : decode cX12_middle 13 = .ok (.ldc 71, 2) := by decide +kernel
theorem dX12_middle_15 : decode cX12_middle 15 = .ok (.if_icmp .ne 7, 3) := by decide +kernel
theorem dX12_middle_18 : decode cX12_middle 18 = .ok (.ldc2_w 215, 3) := by decide +kernel
theorem dX12_middle_21 : decode cX12_middle 21 = .ok (.dreturn, 1) := by decide +kernel
theorem dX12_middle_22 : decode cX12_middle 22 = .ok (.iconst 0, 1) := by decide +kernel
theorem dX12_middle_23 : decode cX12_middle 23 = .ok (.istore_n 3, 1) := by decide +kernel
theorem dX12_middle_24 : decode cX12_middle 24 = .ok (.iconst 0, 1) := by decide +kernel
theorem dX12_middle_25 : decode cX12_middle 25 = .ok (.istore 4, 2) := by decide +kernel
theorem dX12_middle_27 : decode cX12_middle 27 = .ok (.iload 4, 2) := by decide +kernel
theorem dX12_middle_29 : decode cX12_middle 29 = .ok (.aload_n 0, 1) := by decide +kernel
theorem dX12_middle_30 : decode cX12_middle 30 = .ok (.getfield 7, 3) := by decide +kernel
theorem dX12_middle_33 : decode cX12_middle 33 = .ok (.iconst 0, 1) := by decide +kernel
theorem dX12_middle_34 : decode cX12_middle 34 = .ok (.iaload, 1) := by decide +kernel
theorem dX12_middle_35 : decode cX12_middle 35 = .ok (.aload_n 0, 1) := by decide +kernel
theorem dX12_middle_36 : decode cX12_middle 36 = .ok (.getfield 7, 3) := by decide +kernel
theorem dX12_middle_39 : decode cX12_middle 39 = .ok (.iconst 1, 1) := by decide +kernel
theorem dX12_middle_40 : decode cX12_middle 40 = .ok (.iaload, 1) := by decide +kernel
theorem dX12_middle_41 : decode cX12_middle 41 = .ok (.imul, 1) := by decide +kernel
theorem dX12_middle_42 : decode cX12_middle 42 = .ok (.if_icmp .ge 61, 3) := by decide +kernel
theorem dX12_middle_45 : decode cX12_middle 45 = .ok (.iload_n 1, 1) := by decide +kernel
theorem dX12_middle_46 : decode cX12_middle 46 = .ok (.ifCond .eq 15, 3) := by decide +kernel
theorem dX12_middle_49 : decode cX12_middle 49 = .ok (.iload 4, 2) := by decide +kernel
theorem dX12_middle_51 : decode cX12_middle 51 = .ok (.aload_n 0, 1) := by decide +kernel
theorem dX12_middle_52 : decode cX12_middle 52 = .ok (.getfield 7, 3) := by decide +kernel
theorem dX12_middle_55 : decode cX12_middle 55 = .ok (.iconst 0, 1) := by decide +kernel
theorem dX12_middle_56 : decode cX12_middle 56 = .ok (.iaload, 1) := by decide +kernel
theorem dX12_middle_57 : decode cX12_middle 57 = .ok (.idiv, 1) := by decide +kernel
theorem dX12_middle_58 : decode cX12_middle 58 = .ok (.goto 12, 3) := by decide +kernel
theorem dX12_middle_61 : decode cX12_middle 61 = .ok (.iload 4, 2) := by decide +kernel
theorem dX12_middle_63 : decode cX12_middle 63 = .ok (.aload_n 0, 1) := by decide +kernel
theorem dX12_middle_64 : decode cX12_middle 64 = .ok (.getfield 7, 3) := by decide +kernel
theorem dX12_middle_67 : decode cX12_middle 67 = .ok (.iconst 0, 1) := by decide +kernel
theorem dX12_middle_68 : decode cX12_middle 68 = .ok (.iaload, 1) := by decide +kernel
theorem dX12_middle_69 : decode cX12_middle 69 = .ok (.irem, 1) := by decide +kernel
theorem dX12_middle_70 : decode cX12_middle 70 = .ok (.istore 5, 2) := by decide +kernel
theorem dX12_middle_72 : decode cX12_middle 72 = .ok (.iload_n 3, 1) := by decide +kernel
theorem dX12_middle_73 : decode cX12_middle 73 = .ok (.aload_n 0, 1) := by decide +kernel
theorem dX12_middle_74 : decode cX12_middle 74 = .ok (.getfield 37, 3) := by decide +kernel
theorem dX12_middle_77 : decode cX12_middle 77 = .ok (.iload 4, 2) := by decide +kernel
theorem dX12_middle_79 : decode cX12_middle 79 = .ok (.iaload, 1) := by decide +kernel
theorem dX12_middle_80 : decode cX12_middle 80 = .ok (.aload_n 0, 1) := by decide +kernel
theorem dX12_middle_81 : decode cX12_middle 81 = .ok (.getfield 37, 3) := by decide +kernel
theorem dX12_middle_84 : decode cX12_middle 84 = .ok (.iload_n 2, 1) := by decide +kernel
theorem dX12_middle_85 : decode cX12_middle 85 = .ok (.iaload, 1) := by decide +kernel
theorem dX12_middle_86 : decode cX12_middle 86 = .ok (.if_icmp .ne 8, 3) := by decide +kernel
theorem dX12_middle_89 : decode cX12_middle 89 = .ok (.iload 5, 2) := by decide +kernel
theorem dX12_middle_91 : decode cX12_middle 91 = .ok (.goto 4, 3) := by decide +kernel
theorem dX12_middle_94 : decode cX12_middle 94 = .ok (.iconst 0, 1) := by decide +kernel
theorem dX12_middle_95 : decode cX12_middle 95 = .ok (.iadd, 1) := by decide +kernel
theorem dX12_middle_96 : decode cX12_middle 96 = .ok (.istore_n 3, 1) := by decide +kernel
theorem dX12_middle_97 : decode cX12_middle 97 = .ok (.iinc 4 1, 3) := by decide +kernel
theorem dX12_middle_100 : decode cX12_middle 100 = .ok (.goto (-73), 3) := by decide +kernel
theorem dX12_middle_103 : decode cX12_middle 103 = .ok (.iload_n 3, 1) := by decide +kernel
theorem dX12_middle_104 : decode cX12_middle 104 = .ok (.i2d, 1) := by decide +kernel
theorem dX12_middle_105 : decode cX12_middle 105 = .ok (.aload_n 0, 1) := by decide +kernel
theorem dX12_middle_106 : decode cX12_middle 106 = .ok (.iload_n 2, 1) := by decide +kernel
theorem dX12_middle_107 : decode cX12_middle 107 = .ok (.invokevirtual 217, 3) := by decide +kernel
theorem dX12_middle_110 : decode cX12_middle 110 = .ok (.i2d, 1) := by decide +kernel
theorem dX12_middle_111 : decode cX12_middle 111 = .ok (.ddiv, 1) := by decide +kernel
theorem dX12_middle_112 : decode cX12_middle 112 = .ok (.dreturn, 1) := by decide +kernel
set_option maxRecDepth 20000 in
theorem ggX12_blameOf_X12_arePair : GoodIn wsX12_blameOf wsX12_arePair := goodIn_r _ [7, 8, 9, 10, 6, 11, 2, 30, 31, 32, 33, 34, 35, 36, 37, 38, 39, 40, 41, 42, 43, 44, 45, 46, 47, 48, 49, 50, 51, 52] (by decide +kernel) (by decide +kernel)
set_option maxRecDepth 20000 in
theorem gX12_blameOf_X12_arePair : GoodIn wsX12_blameOf (wsV RX12 199 RX12 yX12_arePair wsX12_arePair) := goodIn_app (goodIn_of _ (by decide +kernel)) ggX12_blameOf_X12_arePair
set_option maxRecDepth 20000 in
theorem ggX12_blameOf_X12_of : GoodIn wsX12_blameOf wsX12_of := goodIn_r _ [11, 2, 30, 31, 32, 33, 34, 35, 36, 37, 38, 39, 40, 41, 42, 43, 44, 45, 46, 47, 48, 49, 50, 51, 52] (by decide +kernel) (by decide +kernel)
set_option maxRecDepth 20000 in
theorem gX12_blameOf_X12_of : GoodIn wsX12_blameOf (wsV RX12 60 RX12 yX12_of wsX12_of) := goodIn_app (goodIn_of _ (by decide +kernel)) ggX12_blameOf_X12_of
set_option maxRecDepth 20000 in
theorem ggX12_blameOf_X12_timeFrom : GoodIn wsX12_blameOf wsX12_timeFrom := goodIn_r _ [15, 2, 16, 17, 18, 6, 19, 8, 9, 10, 11, 20, 21, 22, 23, 24, 25, 26, 30, 31, 32, 33, 34, 35, 36, 37, 38, 39, 40, 41, 42, 43, 44, 45, 46, 47, 48, 49, 50, 51, 52] (by decide +kernel) (by decide +kernel)
set_option maxRecDepth 20000 in
theorem gX12_blameOf_X12_timeFrom : GoodIn wsX12_blameOf (wsV RX12 193 RX12 yX12_timeFrom wsX12_timeFrom) := goodIn_app (goodIn_of _ (by decide +kernel)) ggX12_blameOf_X12_timeFrom
set_option maxRecDepth 20000 in
theorem ggX12_blameOf_X12_apart : GoodIn wsX12_blameOf wsX12_apart := goodIn_r _ [29] (by decide +kernel) (by decide +kernel)
set_option maxRecDepth 20000 in
theorem gX12_blameOf_X12_apart : GoodIn wsX12_blameOf (va_wsS RX12 202 yX12_apart wsX12_apart) := goodIn_app (goodIn_of _ (by decide +kernel)) ggX12_blameOf_X12_apart
theorem dX12_blameOf_0 : decode cX12_blameOf 0 = .ok (.iload_n 2, 1) := by decide +kernel
theorem dX12_blameOf_1 : decode cX12_blameOf 1 = .ok (.ldc 71, 2) := by decide +kernel
theorem dX12_blameOf_3 : decode cX12_blameOf 3 = .ok (.if_icmp .ne 6, 3) := by decide +kernel
theorem dX12_blameOf_6 : decode cX12_blameOf 6 = .ok (.ldc 71, 2) := by decide +kernel
theorem dX12_blameOf_8 : decode cX12_blameOf 8 = .ok (.ireturn, 1) := by decide +kernel
theorem dX12_blameOf_9 : decode cX12_blameOf 9 = .ok (.iconst 0, 1) := by decide +kernel
theorem dX12_blameOf_10 : decode cX12_blameOf 10 = .ok (.istore_n 3, 1) := by decide +kernel
theorem dX12_blameOf_11 : decode cX12_blameOf 11 = .ok (.iconst 0, 1) := by decide +kernel
theorem dX12_blameOf_12 : decode cX12_blameOf 12 = .ok (.istore 4, 2) := by decide +kernel
theorem dX12_blameOf_14 : decode cX12_blameOf 14 = .ok (.iload 4, 2) := by decide +kernel
theorem dX12_blameOf_16 : decode cX12_blameOf 16 = .ok (.aload_n 0, 1) := by decide +kernel
theorem dX12_blameOf_17 : decode cX12_blameOf 17 = .ok (.getfield 7, 3) := by decide +kernel
theorem dX12_blameOf_20 : decode cX12_blameOf 20 = .ok (.iconst 2, 1) := by decide +kernel
theorem dX12_blameOf_21 : decode cX12_blameOf 21 = .ok (.iaload, 1) := by decide +kernel
theorem dX12_blameOf_22 : decode cX12_blameOf 22 = .ok (.if_icmp .ge 80, 3) := by decide +kernel
theorem dX12_blameOf_25 : decode cX12_blameOf 25 = .ok (.iload 4, 2) := by decide +kernel
theorem dX12_blameOf_27 : decode cX12_blameOf 27 = .ok (.iload_n 1, 1) := by decide +kernel
theorem dX12_blameOf_28 : decode cX12_blameOf 28 = .ok (.if_icmp .eq 68, 3) := by decide +kernel
theorem dX12_blameOf_31 : decode cX12_blameOf 31 = .ok (.aload_n 0, 1) := by decide +kernel
theorem dX12_blameOf_32 : decode cX12_blameOf 32 = .ok (.iload_n 1, 1) := by decide +kernel
theorem dX12_blameOf_33 : decode cX12_blameOf 33 = .ok (.iload 4, 2) := by decide +kernel
theorem dX12_blameOf_35 : decode cX12_blameOf 35 = .ok (.ldc 71, 2) := by decide +kernel
theorem dX12_blameOf_37 : decode cX12_blameOf 37 = .ok (.invokevirtual 199, 3) := by decide +kernel
theorem dX12_blameOf_40 : decode cX12_blameOf 40 = .ok (.ifCond .eq 56, 3) := by decide +kernel
theorem dX12_blameOf_43 : decode cX12_blameOf 43 = .ok (.aload_n 0, 1) := by decide +kernel
theorem dX12_blameOf_44 : decode cX12_blameOf 44 = .ok (.iload_n 1, 1) := by decide +kernel
theorem dX12_blameOf_45 : decode cX12_blameOf 45 = .ok (.iconst 5, 1) := by decide +kernel
theorem dX12_blameOf_46 : decode cX12_blameOf 46 = .ok (.invokevirtual 60, 3) := by decide +kernel
theorem dX12_blameOf_49 : decode cX12_blameOf 49 = .ok (.aload_n 0, 1) := by decide +kernel
theorem dX12_blameOf_50 : decode cX12_blameOf 50 = .ok (.iload 4, 2) := by decide +kernel
theorem dX12_blameOf_52 : decode cX12_blameOf 52 = .ok (.iconst 5, 1) := by decide +kernel
theorem dX12_blameOf_53 : decode cX12_blameOf 53 = .ok (.invokevirtual 60, 3) := by decide +kernel
theorem dX12_blameOf_56 : decode cX12_blameOf 56 = .ok (.isub, 1) := by decide +kernel
theorem dX12_blameOf_57 : decode cX12_blameOf 57 = .ok (.aload_n 0, 1) := by decide +kernel
theorem dX12_blameOf_58 : decode cX12_blameOf 58 = .ok (.iload_n 2, 1) := by decide +kernel
theorem dX12_blameOf_59 : decode cX12_blameOf 59 = .ok (.iload_n 1, 1) := by decide +kernel
theorem dX12_blameOf_60 : decode cX12_blameOf 60 = .ok (.invokevirtual 193, 3) := by decide +kernel
theorem dX12_blameOf_63 : decode cX12_blameOf 63 = .ok (.aload_n 0, 1) := by decide +kernel
theorem dX12_blameOf_64 : decode cX12_blameOf 64 = .ok (.iload_n 2, 1) := by decide +kernel
theorem dX12_blameOf_65 : decode cX12_blameOf 65 = .ok (.iload 4, 2) := by decide +kernel
theorem dX12_blameOf_67 : decode cX12_blameOf 67 = .ok (.invokevirtual 193, 3) := by decide +kernel
theorem dX12_blameOf_70 : decode cX12_blameOf 70 = .ok (.isub, 1) := by decide +kernel
theorem dX12_blameOf_71 : decode cX12_blameOf 71 = .ok (.invokestatic 202, 3) := by decide +kernel
theorem dX12_blameOf_74 : decode cX12_blameOf 74 = .ok (.istore 5, 2) := by decide +kernel
theorem dX12_blameOf_76 : decode cX12_blameOf 76 = .ok (.iload_n 3, 1) := by decide +kernel
theorem dX12_blameOf_77 : decode cX12_blameOf 77 = .ok (.iload 5, 2) := by decide +kernel
theorem dX12_blameOf_79 : decode cX12_blameOf 79 = .ok (.aload_n 0, 1) := by decide +kernel
theorem dX12_blameOf_80 : decode cX12_blameOf 80 = .ok (.getfield 7, 3) := by decide +kernel
theorem dX12_blameOf_83 : decode cX12_blameOf 83 = .ok (.bipush 13, 2) := by decide +kernel
theorem dX12_blameOf_85 : decode cX12_blameOf 85 = .ok (.iaload, 1) := by decide +kernel
theorem dX12_blameOf_86 : decode cX12_blameOf 86 = .ok (.if_icmp .le 7, 3) := by decide +kernel
theorem dX12_blameOf_89 : decode cX12_blameOf 89 = .ok (.iconst 1, 1) := by decide +kernel
theorem dX12_blameOf_90 : decode cX12_blameOf 90 = .ok (.goto 4, 3) := by decide +kernel
theorem dX12_blameOf_93 : decode cX12_blameOf 93 = .ok (.iconst 0, 1) := by decide +kernel
theorem dX12_blameOf_94 : decode cX12_blameOf 94 = .ok (.iadd, 1) := by decide +kernel
theorem dX12_blameOf_95 : decode cX12_blameOf 95 = .ok (.istore_n 3, 1) := by decide +kernel
theorem dX12_blameOf_96 : decode cX12_blameOf 96 = .ok (.iinc 4 1, 3) := by decide +kernel
theorem dX12_blameOf_99 : decode cX12_blameOf 99 = .ok (.goto (-85), 3) := by decide +kernel
theorem dX12_blameOf_102 : decode cX12_blameOf 102 = .ok (.iload_n 3, 1) := by decide +kernel
theorem dX12_blameOf_103 : decode cX12_blameOf 103 = .ok (.ireturn, 1) := by decide +kernel
set_option maxRecDepth 20000 in
theorem ggX12_blame_X12_isMicrophone : GoodIn wsX12_blame wsX12_isMicrophone := goodIn_r _ [6, 7, 59, 60, 61, 62, 63, 64, 65, 66, 67, 68, 69, 70, 71, 72, 73, 74, 75, 76, 77, 78, 79, 80, 81] (by decide +kernel) (by decide +kernel)
set_option maxRecDepth 20000 in
theorem gX12_blame_X12_isMicrophone : GoodIn wsX12_blame (wsV RX12 159 RX12 yX12_isMicrophone wsX12_isMicrophone) := goodIn_app (goodIn_of _ (by decide +kernel)) ggX12_blame_X12_isMicrophone
set_option maxRecDepth 20000 in
theorem ggX12_blame_X12_finds : GoodIn wsX12_blame wsX12_finds := goodIn_r _ [11, 1, 7, 12, 13, 14, 15, 16, 17, 5, 18, 19, 20, 21, 22, 23, 24, 25, 26, 27, 28, 29, 30, 31, 32, 33, 34, 35, 36, 37, 38, 39, 40, 41, 42, 43, 44, 45, 59, 60, 61, 62, 63, 64, 65, 66, 67, 68, 69, 70, 71, 72, 73, 74, 75, 76, 77, 78, 79, 80, 81] (by decide +kernel) (by decide +kernel)
set_option maxRecDepth 20000 in
theorem gX12_blame_X12_finds : GoodIn wsX12_blame (wsV RX12 212 RX12 yX12_finds wsX12_finds) := goodIn_app (goodIn_of _ (by decide +kernel)) ggX12_blame_X12_finds
set_option maxRecDepth 20000 in
theorem ggX12_blame_X12_blameOf : GoodIn wsX12_blame wsX12_blameOf := goodIn_r _ [49, 1, 7, 39, 40, 41, 5, 42, 28, 29, 30, 31, 20, 21, 22, 23, 24, 25, 26, 27, 32, 33, 34, 35, 36, 37, 38, 43, 44, 45, 59, 60, 61, 62, 63, 64, 65, 66, 67, 68, 69, 70, 71, 72, 73, 74, 75, 76, 77, 78, 79, 80, 81] (by decide +kernel) (by decide +kernel)
set_option maxRecDepth 20000 in
theorem gX12_blame_X12_blameOf : GoodIn wsX12_blame (wsV RX12 220 RX12 yX12_blameOf wsX12_blameOf) := goodIn_app (goodIn_of _ (by decide +kernel)) ggX12_blame_X12_blameOf
set_option maxRecDepth 20000 in
theorem ggX12_blame_X12_tells : GoodIn wsX12_blame wsX12_tells := goodIn_r _ [53, 54, 59, 60, 61, 62, 63, 64, 65, 66, 67, 68, 69, 70, 71, 72, 73, 74, 75, 76, 77, 78, 79, 80, 81] (by decide +kernel) (by decide +kernel)
set_option maxRecDepth 20000 in
theorem gX12_blame_X12_tells : GoodIn wsX12_blame (wsV RX12 56 RX12 yX12_tells wsX12_tells) := goodIn_app (goodIn_of _ (by decide +kernel)) ggX12_blame_X12_tells
set_option maxRecDepth 20000 in
theorem ggX12_blame_X12_fails : GoodIn wsX12_blame wsX12_fails := goodIn_r _ [58, 54, 59, 60, 61, 62, 63, 64, 65, 66, 67, 68, 69, 70, 71, 72, 73, 74, 75, 76, 77, 78, 79, 80, 81] (by decide +kernel) (by decide +kernel)
set_option maxRecDepth 20000 in
theorem gX12_blame_X12_fails : GoodIn wsX12_blame (wsV RX12 141 RX12 yX12_fails wsX12_fails) := goodIn_app (goodIn_of _ (by decide +kernel)) ggX12_blame_X12_fails
theorem dX12_blame_0 : decode cX12_blame 0 = .ok (.aload_n 0, 1) := by decide +kernel
theorem dX12_blame_1 : decode cX12_blame 1 = .ok (.iload_n 1, 1) := by decide +kernel
theorem dX12_blame_2 : decode cX12_blame 2 = .ok (.invokevirtual 159, 3) := by decide +kernel
theorem dX12_blame_5 : decode cX12_blame 5 = .ok (.ifCond .eq 21, 3) := by decide +kernel
theorem dX12_blame_8 : decode cX12_blame 8 = .ok (.aload_n 0, 1) := by decide +kernel
theorem dX12_blame_9 : decode cX12_blame 9 = .ok (.aload_n 0, 1) := by decide +kernel
theorem dX12_blame_10 : decode cX12_blame 10 = .ok (.iload_n 1, 1) := by decide +kernel
theorem dX12_blame_11 : decode cX12_blame 11 = .ok (.aload_n 0, 1) := by decide +kernel
theorem dX12_blame_12 : decode cX12_blame 12 = .ok (.ldc 71, 2) := by decide +kernel
theorem dX12_blame_14 : decode cX12_blame 14 = .ok (.invokevirtual 212, 3) := by decide +kernel
theorem dX12_blame_17 : decode cX12_blame 17 = .ok (.invokevirtual 220, 3) := by decide +kernel
theorem dX12_blame_20 : decode cX12_blame 20 = .ok (.invokevirtual 56, 3) := by decide +kernel
theorem dX12_blame_23 : decode cX12_blame 23 = .ok (.goto 8, 3) := by decide +kernel
theorem dX12_blame_26 : decode cX12_blame 26 = .ok (.aload_n 0, 1) := by decide +kernel
theorem dX12_blame_27 : decode cX12_blame 27 = .ok (.iconst 1, 1) := by decide +kernel
theorem dX12_blame_28 : decode cX12_blame 28 = .ok (.invokevirtual 141, 3) := by decide +kernel
theorem dX12_blame_31 : decode cX12_blame 31 = .ok (.ireturn, 1) := by decide +kernel
set_option maxRecDepth 20000 in
theorem ggX12_suspectBy_X12_blameOf : GoodIn wsX12_suspectBy wsX12_blameOf := goodIn_r _ [7, 1, 2, 8, 9, 10, 6, 11, 12, 13, 14, 15, 16, 17, 18, 19, 20, 21, 22, 23, 24, 25, 26, 27, 28, 29, 30, 31, 32, 33, 34, 35, 36, 37, 38, 39, 40, 41, 42, 43, 44, 45, 46, 47, 48, 49, 50, 51, 52, 53, 54, 55, 56] (by decide +kernel) (by decide +kernel)
set_option maxRecDepth 20000 in
theorem gX12_suspectBy_X12_blameOf : GoodIn wsX12_suspectBy (wsV RX12 220 RX12 yX12_blameOf wsX12_blameOf) := goodIn_app (goodIn_of _ (by decide +kernel)) ggX12_suspectBy_X12_blameOf
theorem dX12_suspectBy_0 : decode cX12_suspectBy 0 = .ok (.ldc 71, 2) := by decide +kernel
theorem dX12_suspectBy_2 : decode cX12_suspectBy 2 = .ok (.istore_n 2, 1) := by decide +kernel
theorem dX12_suspectBy_3 : decode cX12_suspectBy 3 = .ok (.iconst 0, 1) := by decide +kernel
theorem dX12_suspectBy_4 : decode cX12_suspectBy 4 = .ok (.istore_n 3, 1) := by decide +kernel
theorem dX12_suspectBy_5 : decode cX12_suspectBy 5 = .ok (.iconst 0, 1) := by decide +kernel
theorem dX12_suspectBy_6 : decode cX12_suspectBy 6 = .ok (.istore 4, 2) := by decide +kernel
theorem dX12_suspectBy_8 : decode cX12_suspectBy 8 = .ok (.iload 4, 2) := by decide +kernel
theorem dX12_suspectBy_10 : decode cX12_suspectBy 10 = .ok (.aload_n 0, 1) := by decide +kernel
theorem dX12_suspectBy_11 : decode cX12_suspectBy 11 = .ok (.getfield 7, 3) := by decide +kernel
theorem dX12_suspectBy_14 : decode cX12_suspectBy 14 = .ok (.iconst 2, 1) := by decide +kernel
theorem dX12_suspectBy_15 : decode cX12_suspectBy 15 = .ok (.iaload, 1) := by decide +kernel
theorem dX12_suspectBy_16 : decode cX12_suspectBy 16 = .ok (.if_icmp .ge 44, 3) := by decide +kernel
theorem dX12_suspectBy_19 : decode cX12_suspectBy 19 = .ok (.aload_n 0, 1) := by decide +kernel
theorem dX12_suspectBy_20 : decode cX12_suspectBy 20 = .ok (.iload 4, 2) := by decide +kernel
theorem dX12_suspectBy_22 : decode cX12_suspectBy 22 = .ok (.iload_n 1, 1) := by decide +kernel
theorem dX12_suspectBy_23 : decode cX12_suspectBy 23 = .ok (.invokevirtual 220, 3) := by decide +kernel
theorem dX12_suspectBy_26 : decode cX12_suspectBy 26 = .ok (.istore 5, 2) := by decide +kernel
theorem dX12_suspectBy_28 : decode cX12_suspectBy 28 = .ok (.iload 5, 2) := by decide +kernel
theorem dX12_suspectBy_30 : decode cX12_suspectBy 30 = .ok (.iload_n 3, 1) := by decide +kernel
theorem dX12_suspectBy_31 : decode cX12_suspectBy 31 = .ok (.if_icmp .le 8, 3) := by decide +kernel
theorem dX12_suspectBy_34 : decode cX12_suspectBy 34 = .ok (.iload 4, 2) := by decide +kernel
theorem dX12_suspectBy_36 : decode cX12_suspectBy 36 = .ok (.goto 4, 3) := by decide +kernel
theorem dX12_suspectBy_39 : decode cX12_suspectBy 39 = .ok (.iload_n 2, 1) := by decide +kernel
theorem dX12_suspectBy_40 : decode cX12_suspectBy 40 = .ok (.istore_n 2, 1) := by decide +kernel
theorem dX12_suspectBy_41 : decode cX12_suspectBy 41 = .ok (.iload 5, 2) := by decide +kernel
theorem dX12_suspectBy_43 : decode cX12_suspectBy 43 = .ok (.iload_n 3, 1) := by decide +kernel
theorem dX12_suspectBy_44 : decode cX12_suspectBy 44 = .ok (.if_icmp .le 8, 3) := by decide +kernel
theorem dX12_suspectBy_47 : decode cX12_suspectBy 47 = .ok (.iload 5, 2) := by decide +kernel
theorem dX12_suspectBy_49 : decode cX12_suspectBy 49 = .ok (.goto 4, 3) := by decide +kernel
theorem dX12_suspectBy_52 : decode cX12_suspectBy 52 = .ok (.iload_n 3, 1) := by decide +kernel
theorem dX12_suspectBy_53 : decode cX12_suspectBy 53 = .ok (.istore_n 3, 1) := by decide +kernel
theorem dX12_suspectBy_54 : decode cX12_suspectBy 54 = .ok (.iinc 4 1, 3) := by decide +kernel
theorem dX12_suspectBy_57 : decode cX12_suspectBy 57 = .ok (.goto (-49), 3) := by decide +kernel
theorem dX12_suspectBy_60 : decode cX12_suspectBy 60 = .ok (.iload_n 2, 1) := by decide +kernel
theorem dX12_suspectBy_61 : decode cX12_suspectBy 61 = .ok (.ireturn, 1) := by decide +kernel
set_option maxRecDepth 20000 in
theorem ggX12_suspect_X12_finds : GoodIn wsX12_suspect wsX12_finds := goodIn_r _ [6, 1, 7, 8, 9, 10, 11, 12, 13, 5, 14, 15, 16, 17, 18, 19, 20, 21, 22, 23, 24, 25, 26, 27, 28, 29, 30, 31, 32, 33, 34, 35, 36, 37, 38, 39, 40, 41, 55, 56, 57, 58, 59, 60, 61, 62, 63, 64, 65, 66, 67, 68, 69, 70, 71, 72, 73, 74, 75, 76, 77] (by decide +kernel) (by decide +kernel)
set_option maxRecDepth 20000 in
theorem gX12_suspect_X12_finds : GoodIn wsX12_suspect (wsV RX12 212 RX12 yX12_finds wsX12_finds) := goodIn_app (goodIn_of _ (by decide +kernel)) ggX12_suspect_X12_finds
set_option maxRecDepth 20000 in
theorem ggX12_suspect_X12_suspectBy : GoodIn wsX12_suspect wsX12_suspectBy := goodIn_r _ [45, 1, 7, 46, 47, 48, 5, 49, 35, 36, 37, 38, 24, 25, 26, 27, 16, 17, 18, 19, 20, 21, 22, 23, 28, 29, 30, 31, 32, 33, 34, 39, 40, 41, 55, 56, 57, 58, 59, 60, 61, 62, 63, 64, 65, 66, 67, 68, 69, 70, 71, 72, 73, 74, 75, 76, 77] (by decide +kernel) (by decide +kernel)
set_option maxRecDepth 20000 in
theorem gX12_suspect_X12_suspectBy : GoodIn wsX12_suspect (wsV RX12 223 RX12 yX12_suspectBy wsX12_suspectBy) := goodIn_app (goodIn_of _ (by decide +kernel)) ggX12_suspect_X12_suspectBy
set_option maxRecDepth 20000 in
theorem ggX12_suspect_X12_tells : GoodIn wsX12_suspect wsX12_tells := goodIn_r _ [53, 54, 55, 56, 57, 58, 59, 60, 61, 62, 63, 64, 65, 66, 67, 68, 69, 70, 71, 72, 73, 74, 75, 76, 77] (by decide +kernel) (by decide +kernel)
set_option maxRecDepth 20000 in
theorem gX12_suspect_X12_tells : GoodIn wsX12_suspect (wsV RX12 56 RX12 yX12_tells wsX12_tells) := goodIn_app (goodIn_of _ (by decide +kernel)) ggX12_suspect_X12_tells
theorem dX12_suspect_0 : decode cX12_suspect 0 = .ok (.aload_n 0, 1) := by decide +kernel
theorem dX12_suspect_1 : decode cX12_suspect 1 = .ok (.aload_n 0, 1) := by decide +kernel
theorem dX12_suspect_2 : decode cX12_suspect 2 = .ok (.aload_n 0, 1) := by decide +kernel
theorem dX12_suspect_3 : decode cX12_suspect 3 = .ok (.ldc 71, 2) := by decide +kernel
theorem dX12_suspect_5 : decode cX12_suspect 5 = .ok (.invokevirtual 212, 3) := by decide +kernel
theorem dX12_suspect_8 : decode cX12_suspect 8 = .ok (.invokevirtual 223, 3) := by decide +kernel
theorem dX12_suspect_11 : decode cX12_suspect 11 = .ok (.invokevirtual 56, 3) := by decide +kernel
theorem dX12_suspect_14 : decode cX12_suspect 14 = .ok (.ireturn, 1) := by decide +kernel
set_option maxRecDepth 20000 in
theorem ggX12_foundWithout_X12_isMicrophone : GoodIn wsX12_foundWithout wsX12_isMicrophone := goodIn_r _ [5, 6, 55, 56, 57, 58, 59, 60, 61, 62, 63, 64, 65, 66, 67, 68, 69, 70, 71, 72, 73, 74, 75, 76, 77] (by decide +kernel) (by decide +kernel)
set_option maxRecDepth 20000 in
theorem gX12_foundWithout_X12_isMicrophone : GoodIn wsX12_foundWithout (wsV RX12 159 RX12 yX12_isMicrophone wsX12_isMicrophone) := goodIn_app (goodIn_of _ (by decide +kernel)) ggX12_foundWithout_X12_isMicrophone
set_option maxRecDepth 20000 in
theorem ggX12_foundWithout_X12_finds : GoodIn wsX12_foundWithout wsX12_finds := goodIn_r _ [10, 11, 6, 12, 13, 14, 15, 16, 17, 4, 18, 19, 20, 21, 22, 23, 24, 25, 26, 27, 28, 29, 30, 31, 32, 33, 34, 35, 36, 37, 38, 39, 40, 41, 42, 43, 44, 45, 55, 56, 57, 58, 59, 60, 61, 62, 63, 64, 65, 66, 67, 68, 69, 70, 71, 72, 73, 74, 75, 76, 77] (by decide +kernel) (by decide +kernel)
set_option maxRecDepth 20000 in
theorem gX12_foundWithout_X12_finds : GoodIn wsX12_foundWithout (wsV RX12 212 RX12 yX12_finds wsX12_finds) := goodIn_app (goodIn_of _ (by decide +kernel)) ggX12_foundWithout_X12_finds
set_option maxRecDepth 20000 in
theorem ggX12_foundWithout_X12_tells : GoodIn wsX12_foundWithout wsX12_tells := goodIn_r _ [49, 50, 55, 56, 57, 58, 59, 60, 61, 62, 63, 64, 65, 66, 67, 68, 69, 70, 71, 72, 73, 74, 75, 76, 77] (by decide +kernel) (by decide +kernel)
set_option maxRecDepth 20000 in
theorem gX12_foundWithout_X12_tells : GoodIn wsX12_foundWithout (wsV RX12 56 RX12 yX12_tells wsX12_tells) := goodIn_app (goodIn_of _ (by decide +kernel)) ggX12_foundWithout_X12_tells
set_option maxRecDepth 20000 in
theorem ggX12_foundWithout_X12_fails : GoodIn wsX12_foundWithout wsX12_fails := goodIn_r _ [54, 50, 55, 56, 57, 58, 59, 60, 61, 62, 63, 64, 65, 66, 67, 68, 69, 70, 71, 72, 73, 74, 75, 76, 77] (by decide +kernel) (by decide +kernel)
set_option maxRecDepth 20000 in
theorem gX12_foundWithout_X12_fails : GoodIn wsX12_foundWithout (wsV RX12 141 RX12 yX12_fails wsX12_fails) := goodIn_app (goodIn_of _ (by decide +kernel)) ggX12_foundWithout_X12_fails
theorem dX12_foundWithout_0 : decode cX12_foundWithout 0 = .ok (.aload_n 0, 1) := by decide +kernel
theorem dX12_foundWithout_1 : decode cX12_foundWithout 1 = .ok (.iload_n 1, 1) := by decide +kernel
theorem dX12_foundWithout_2 : decode cX12_foundWithout 2 = .ok (.invokevirtual 159, 3) := by decide +kernel
theorem dX12_foundWithout_5 : decode cX12_foundWithout 5 = .ok (.ifCond .eq 15, 3) := by decide +kernel
theorem dX12_foundWithout_8 : decode cX12_foundWithout 8 = .ok (.aload_n 0, 1) := by decide +kernel
theorem dX12_foundWithout_9 : decode cX12_foundWithout 9 = .ok (.aload_n 0, 1) := by decide +kernel
theorem dX12_foundWithout_10 : decode cX12_foundWithout 10 = .ok (.iload_n 1, 1) := by decide +kernel
theorem dX12_foundWithout_11 : decode cX12_foundWithout 11 = .ok (.invokevirtual 212, 3) := by decide +kernel
theorem dX12_foundWithout_14 : decode cX12_foundWithout 14 = .ok (.invokevirtual 56, 3) := by decide +kernel
theorem dX12_foundWithout_17 : decode cX12_foundWithout 17 = .ok (.goto 8, 3) := by decide +kernel
theorem dX12_foundWithout_20 : decode cX12_foundWithout 20 = .ok (.aload_n 0, 1) := by decide +kernel
theorem dX12_foundWithout_21 : decode cX12_foundWithout 21 = .ok (.iconst 1, 1) := by decide +kernel
theorem dX12_foundWithout_22 : decode cX12_foundWithout 22 = .ok (.invokevirtual 141, 3) := by decide +kernel
theorem dX12_foundWithout_25 : decode cX12_foundWithout 25 = .ok (.ireturn, 1) := by decide +kernel
set_option maxRecDepth 20000 in
theorem ggX12_wholeOf_X12_noted : GoodIn wsX12_wholeOf wsX12_noted := goodIn_r _ [9, 4, 10, 11, 12, 8, 13, 18, 19, 20, 21, 22, 23, 24, 25, 26, 27, 28, 29, 30, 31, 32, 33, 34, 35, 36, 37, 38, 39, 40] (by decide +kernel) (by decide +kernel)
set_option maxRecDepth 20000 in
theorem gX12_wholeOf_X12_noted : GoodIn wsX12_wholeOf (wsV RX12 137 RX12 yX12_noted wsX12_noted) := goodIn_app (goodIn_of _ (by decide +kernel)) ggX12_wholeOf_X12_noted
set_option maxRecDepth 20000 in
theorem ggX12_wholeOf_X12_likes : GoodIn wsX12_wholeOf wsX12_likes := goodIn_r _ [17, 4, 2, 3, 18, 19, 20, 21, 22, 23, 24, 25, 26, 27, 28, 29, 30, 31, 32, 33, 34, 35, 36, 37, 38, 39, 40] (by decide +kernel) (by decide +kernel)
set_option maxRecDepth 20000 in
theorem gX12_wholeOf_X12_likes : GoodIn wsX12_wholeOf (wsV RX12 217 RX12 yX12_likes wsX12_likes) := goodIn_app (goodIn_of _ (by decide +kernel)) ggX12_wholeOf_X12_likes
theorem dX12_wholeOf_0 : decode cX12_wholeOf 0 = .ok (.iload_n 1, 1) := by decide +kernel
theorem dX12_wholeOf_1 : decode cX12_wholeOf 1 = .ok (.tableswitch 76 6 10 #[35, 40, 45, 62, 68], 35) := by decide +kernel
theorem dX12_wholeOf_36 : decode cX12_wholeOf 36 = .ok (.aload_n 0, 1) := by decide +kernel
theorem dX12_wholeOf_37 : decode cX12_wholeOf 37 = .ok (.invokevirtual 137, 3) := by decide +kernel
theorem dX12_wholeOf_40 : decode cX12_wholeOf 40 = .ok (.ireturn, 1) := by decide +kernel
theorem dX12_wholeOf_41 : decode cX12_wholeOf 41 = .ok (.aload_n 0, 1) := by decide +kernel
theorem dX12_wholeOf_42 : decode cX12_wholeOf 42 = .ok (.getfield 196, 3) := by decide +kernel
theorem dX12_wholeOf_45 : decode cX12_wholeOf 45 = .ok (.ireturn, 1) := by decide +kernel
theorem dX12_wholeOf_46 : decode cX12_wholeOf 46 = .ok (.iload_n 2, 1) := by decide +kernel
theorem dX12_wholeOf_47 : decode cX12_wholeOf 47 = .ok (.ldc 71, 2) := by decide +kernel
theorem dX12_wholeOf_49 : decode cX12_wholeOf 49 = .ok (.if_icmp .ne 7, 3) := by decide +kernel
theorem dX12_wholeOf_52 : decode cX12_wholeOf 52 = .ok (.iconst 0, 1) := by decide +kernel
theorem dX12_wholeOf_53 : decode cX12_wholeOf 53 = .ok (.goto 9, 3) := by decide +kernel
theorem dX12_wholeOf_56 : decode cX12_wholeOf 56 = .ok (.aload_n 0, 1) := by decide +kernel
theorem dX12_wholeOf_57 : decode cX12_wholeOf 57 = .ok (.getfield 37, 3) := by decide +kernel
theorem dX12_wholeOf_60 : decode cX12_wholeOf 60 = .ok (.iload_n 2, 1) := by decide +kernel
theorem dX12_wholeOf_61 : decode cX12_wholeOf 61 = .ok (.iaload, 1) := by decide +kernel
theorem dX12_wholeOf_62 : decode cX12_wholeOf 62 = .ok (.ireturn, 1) := by decide +kernel
theorem dX12_wholeOf_63 : decode cX12_wholeOf 63 = .ok (.aload_n 0, 1) := by decide +kernel
theorem dX12_wholeOf_64 : decode cX12_wholeOf 64 = .ok (.iload_n 2, 1) := by decide +kernel
theorem dX12_wholeOf_65 : decode cX12_wholeOf 65 = .ok (.invokevirtual 217, 3) := by decide +kernel
theorem dX12_wholeOf_68 : decode cX12_wholeOf 68 = .ok (.ireturn, 1) := by decide +kernel
theorem dX12_wholeOf_69 : decode cX12_wholeOf 69 = .ok (.aload_n 0, 1) := by decide +kernel
theorem dX12_wholeOf_70 : decode cX12_wholeOf 70 = .ok (.getfield 7, 3) := by decide +kernel
theorem dX12_wholeOf_73 : decode cX12_wholeOf 73 = .ok (.bipush 6, 2) := by decide +kernel
theorem dX12_wholeOf_75 : decode cX12_wholeOf 75 = .ok (.iaload, 1) := by decide +kernel
theorem dX12_wholeOf_76 : decode cX12_wholeOf 76 = .ok (.ireturn, 1) := by decide +kernel
theorem dX12_wholeOf_77 : decode cX12_wholeOf 77 = .ok (.aload_n 0, 1) := by decide +kernel
theorem dX12_wholeOf_78 : decode cX12_wholeOf 78 = .ok (.getfield 7, 3) := by decide +kernel
theorem dX12_wholeOf_81 : decode cX12_wholeOf 81 = .ok (.iload_n 1, 1) := by decide +kernel
theorem dX12_wholeOf_82 : decode cX12_wholeOf 82 = .ok (.iaload, 1) := by decide +kernel
theorem dX12_wholeOf_83 : decode cX12_wholeOf 83 = .ok (.ireturn, 1) := by decide +kernel
set_option maxRecDepth 20000 in
theorem ggX12_whole_X12_in : GoodIn wsX12_whole wsX12_in := goodIn_r _ [5] (by decide +kernel) (by decide +kernel)
set_option maxRecDepth 20000 in
theorem gX12_whole_X12_in : GoodIn wsX12_whole (va_wsS RX12 116 yX12_in wsX12_in) := goodIn_app (goodIn_of _ (by decide +kernel)) ggX12_whole_X12_in
set_option maxRecDepth 20000 in
theorem ggX12_whole_X12_finds : GoodIn wsX12_whole wsX12_finds := goodIn_r _ [9, 1, 10, 11, 12, 13, 14, 15, 16, 4, 17, 18, 19, 20, 21, 22, 23, 24, 25, 26, 27, 28, 29, 30, 31, 32, 33, 34, 35, 36, 37, 38, 39, 40, 41, 42, 43, 44, 66, 67, 68, 69, 70, 71, 72, 73, 74, 75, 76, 77, 78, 79, 80, 81, 82, 83, 84, 85, 86, 87, 88] (by decide +kernel) (by decide +kernel)
set_option maxRecDepth 20000 in
theorem gX12_whole_X12_finds : GoodIn wsX12_whole (wsV RX12 212 RX12 yX12_finds wsX12_finds) := goodIn_app (goodIn_of _ (by decide +kernel)) ggX12_whole_X12_finds
set_option maxRecDepth 20000 in
theorem ggX12_whole_X12_wholeOf : GoodIn wsX12_whole wsX12_wholeOf := goodIn_r _ [48, 13, 1, 11, 10, 49, 50, 51, 4, 52, 27, 28, 29, 30, 53, 54, 55, 56, 66, 67, 68, 69, 70, 71, 72, 73, 74, 75, 76, 77, 78, 79, 80, 81, 82, 83, 84, 85, 86, 87, 88] (by decide +kernel) (by decide +kernel)
set_option maxRecDepth 20000 in
theorem gX12_whole_X12_wholeOf : GoodIn wsX12_whole (wsV RX12 226 RX12 yX12_wholeOf wsX12_wholeOf) := goodIn_app (goodIn_of _ (by decide +kernel)) ggX12_whole_X12_wholeOf
set_option maxRecDepth 20000 in
theorem ggX12_whole_X12_tells : GoodIn wsX12_whole wsX12_tells := goodIn_r _ [60, 61, 66, 67, 68, 69, 70, 71, 72, 73, 74, 75, 76, 77, 78, 79, 80, 81, 82, 83, 84, 85, 86, 87, 88] (by decide +kernel) (by decide +kernel)
set_option maxRecDepth 20000 in
theorem gX12_whole_X12_tells : GoodIn wsX12_whole (wsV RX12 56 RX12 yX12_tells wsX12_tells) := goodIn_app (goodIn_of _ (by decide +kernel)) ggX12_whole_X12_tells
set_option maxRecDepth 20000 in
theorem ggX12_whole_X12_fails : GoodIn wsX12_whole wsX12_fails := goodIn_r _ [65, 61, 66, 67, 68, 69, 70, 71, 72, 73, 74, 75, 76, 77, 78, 79, 80, 81, 82, 83, 84, 85, 86, 87, 88] (by decide +kernel) (by decide +kernel)
set_option maxRecDepth 20000 in
theorem gX12_whole_X12_fails : GoodIn wsX12_whole (wsV RX12 141 RX12 yX12_fails wsX12_fails) := goodIn_app (goodIn_of _ (by decide +kernel)) ggX12_whole_X12_fails
theorem dX12_whole_0 : decode cX12_whole 0 = .ok (.iload_n 1, 1) := by decide +kernel
theorem dX12_whole_1 : decode cX12_whole 1 = .ok (.iconst 0, 1) := by decide +kernel
theorem dX12_whole_2 : decode cX12_whole 2 = .ok (.bipush 10, 2) := by decide +kernel
theorem dX12_whole_4 : decode cX12_whole 4 = .ok (.invokestatic 116, 3) := by decide +kernel
theorem dX12_whole_7 : decode cX12_whole 7 = .ok (.ifCond .eq 21, 3) := by decide +kernel
theorem dX12_whole_10 : decode cX12_whole 10 = .ok (.aload_n 0, 1) := by decide +kernel
theorem dX12_whole_11 : decode cX12_whole 11 = .ok (.aload_n 0, 1) := by decide +kernel
theorem dX12_whole_12 : decode cX12_whole 12 = .ok (.iload_n 1, 1) := by decide +kernel
theorem dX12_whole_13 : decode cX12_whole 13 = .ok (.aload_n 0, 1) := by decide +kernel
theorem dX12_whole_14 : decode cX12_whole 14 = .ok (.ldc 71, 2) := by decide +kernel
theorem dX12_whole_16 : decode cX12_whole 16 = .ok (.invokevirtual 212, 3) := by decide +kernel
theorem dX12_whole_19 : decode cX12_whole 19 = .ok (.invokevirtual 226, 3) := by decide +kernel
theorem dX12_whole_22 : decode cX12_whole 22 = .ok (.invokevirtual 56, 3) := by decide +kernel
theorem dX12_whole_25 : decode cX12_whole 25 = .ok (.goto 8, 3) := by decide +kernel
theorem dX12_whole_28 : decode cX12_whole 28 = .ok (.aload_n 0, 1) := by decide +kernel
theorem dX12_whole_29 : decode cX12_whole 29 = .ok (.iconst 1, 1) := by decide +kernel
theorem dX12_whole_30 : decode cX12_whole 30 = .ok (.invokevirtual 141, 3) := by decide +kernel
theorem dX12_whole_33 : decode cX12_whole 33 = .ok (.ireturn, 1) := by decide +kernel
theorem dX12_parts_0 : decode cX12_parts 0 = .ok (.iload_n 0, 1) := by decide +kernel
theorem dX12_parts_1 : decode cX12_parts 1 = .ok (.ifCond .eq 8, 3) := by decide +kernel
theorem dX12_parts_4 : decode cX12_parts 4 = .ok (.iload_n 0, 1) := by decide +kernel
theorem dX12_parts_5 : decode cX12_parts 5 = .ok (.iconst 2, 1) := by decide +kernel
theorem dX12_parts_6 : decode cX12_parts 6 = .ok (.if_icmp .ne 7, 3) := by decide +kernel
theorem dX12_parts_9 : decode cX12_parts 9 = .ok (.iconst 4, 1) := by decide +kernel
theorem dX12_parts_10 : decode cX12_parts 10 = .ok (.goto 13, 3) := by decide +kernel
theorem dX12_parts_13 : decode cX12_parts 13 = .ok (.iload_n 0, 1) := by decide +kernel
theorem dX12_parts_14 : decode cX12_parts 14 = .ok (.iconst 1, 1) := by decide +kernel
theorem dX12_parts_15 : decode cX12_parts 15 = .ok (.if_icmp .ne 7, 3) := by decide +kernel
theorem dX12_parts_18 : decode cX12_parts 18 = .ok (.iconst 3, 1) := by decide +kernel
theorem dX12_parts_19 : decode cX12_parts 19 = .ok (.goto 4, 3) := by decide +kernel
theorem dX12_parts_22 : decode cX12_parts 22 = .ok (.iconst 1, 1) := by decide +kernel
theorem dX12_parts_23 : decode cX12_parts 23 = .ok (.ireturn, 1) := by decide +kernel
set_option maxRecDepth 20000 in
theorem ggX12_partOf_X12_startOf : GoodIn wsX12_partOf wsX12_startOf := goodIn_r _ [5] (by decide +kernel) (by decide +kernel)
set_option maxRecDepth 20000 in
theorem gX12_partOf_X12_startOf : GoodIn wsX12_partOf (va_wsS RX12 172 yX12_startOf wsX12_startOf) := goodIn_app (goodIn_of _ (by decide +kernel)) ggX12_partOf_X12_startOf
set_option maxRecDepth 20000 in
theorem ggX12_partOf_X12_wide : GoodIn wsX12_partOf wsX12_wide := goodIn_r _ [8] (by decide +kernel) (by decide +kernel)
set_option maxRecDepth 20000 in
theorem gX12_partOf_X12_wide : GoodIn wsX12_partOf (va_wsS RX12 169 yX12_wide wsX12_wide) := goodIn_app (goodIn_of _ (by decide +kernel)) ggX12_partOf_X12_wide
theorem dX12_partOf_0 : decode cX12_partOf 0 = .ok (.iload_n 1, 1) := by decide +kernel
theorem dX12_partOf_1 : decode cX12_partOf 1 = .ok (.iconst 3, 1) := by decide +kernel
theorem dX12_partOf_2 : decode cX12_partOf 2 = .ok (.if_icmp .ne 15, 3) := by decide +kernel
theorem dX12_partOf_5 : decode cX12_partOf 5 = .ok (.aload_n 0, 1) := by decide +kernel
theorem dX12_partOf_6 : decode cX12_partOf 6 = .ok (.getfield 7, 3) := by decide +kernel
theorem dX12_partOf_9 : decode cX12_partOf 9 = .ok (.bipush 7, 2) := by decide +kernel
theorem dX12_partOf_11 : decode cX12_partOf 11 = .ok (.iload_n 2, 1) := by decide +kernel
theorem dX12_partOf_12 : decode cX12_partOf 12 = .ok (.iadd, 1) := by decide +kernel
theorem dX12_partOf_13 : decode cX12_partOf 13 = .ok (.iaload, 1) := by decide +kernel
theorem dX12_partOf_14 : decode cX12_partOf 14 = .ok (.goto 21, 3) := by decide +kernel
theorem dX12_partOf_17 : decode cX12_partOf 17 = .ok (.aload_n 0, 1) := by decide +kernel
theorem dX12_partOf_18 : decode cX12_partOf 18 = .ok (.getfield 7, 3) := by decide +kernel
theorem dX12_partOf_21 : decode cX12_partOf 21 = .ok (.iload_n 1, 1) := by decide +kernel
theorem dX12_partOf_22 : decode cX12_partOf 22 = .ok (.invokestatic 172, 3) := by decide +kernel
theorem dX12_partOf_25 : decode cX12_partOf 25 = .ok (.iload_n 1, 1) := by decide +kernel
theorem dX12_partOf_26 : decode cX12_partOf 26 = .ok (.invokestatic 169, 3) := by decide +kernel
theorem dX12_partOf_29 : decode cX12_partOf 29 = .ok (.iload_n 2, 1) := by decide +kernel
theorem dX12_partOf_30 : decode cX12_partOf 30 = .ok (.imul, 1) := by decide +kernel
theorem dX12_partOf_31 : decode cX12_partOf 31 = .ok (.iadd, 1) := by decide +kernel
theorem dX12_partOf_32 : decode cX12_partOf 32 = .ok (.iload_n 3, 1) := by decide +kernel
theorem dX12_partOf_33 : decode cX12_partOf 33 = .ok (.iadd, 1) := by decide +kernel
theorem dX12_partOf_34 : decode cX12_partOf 34 = .ok (.iaload, 1) := by decide +kernel
theorem dX12_partOf_35 : decode cX12_partOf 35 = .ok (.ireturn, 1) := by decide +kernel
set_option maxRecDepth 20000 in
theorem ggX12_part_X12_in : GoodIn wsX12_part wsX12_in := goodIn_r _ [5] (by decide +kernel) (by decide +kernel)
set_option maxRecDepth 20000 in
theorem gX12_part_X12_in : GoodIn wsX12_part (va_wsS RX12 116 yX12_in wsX12_in) := goodIn_app (goodIn_of _ (by decide +kernel)) ggX12_part_X12_in
set_option maxRecDepth 20000 in
theorem ggX12_part_X12_parts : GoodIn wsX12_part wsX12_parts := goodIn_r _ [8] (by decide +kernel) (by decide +kernel)
set_option maxRecDepth 20000 in
theorem gX12_part_X12_parts : GoodIn wsX12_part (va_wsS RX12 229 yX12_parts wsX12_parts) := goodIn_app (goodIn_of _ (by decide +kernel)) ggX12_part_X12_parts
set_option maxRecDepth 20000 in
theorem ggX12_part_X12_fails : GoodIn wsX12_part wsX12_fails := goodIn_r _ [12, 13, 28, 29, 30, 31, 32, 33, 34, 35, 36, 37, 38, 39, 40, 41, 42, 43, 44, 45, 46, 47, 48, 49, 50] (by decide +kernel) (by decide +kernel)
set_option maxRecDepth 20000 in
theorem gX12_part_X12_fails : GoodIn wsX12_part (wsV RX12 141 RX12 yX12_fails wsX12_fails) := goodIn_app (goodIn_of _ (by decide +kernel)) ggX12_part_X12_fails
set_option maxRecDepth 20000 in
theorem ggX12_part_X12_partOf : GoodIn wsX12_part wsX12_partOf := goodIn_r _ [17, 1, 18, 19, 4, 20, 21, 22, 23, 28, 29, 30, 31, 32, 33, 34, 35, 36, 37, 38, 39, 40, 41, 42, 43, 44, 45, 46, 47, 48, 49, 50] (by decide +kernel) (by decide +kernel)
set_option maxRecDepth 20000 in
theorem gX12_part_X12_partOf : GoodIn wsX12_part (wsV RX12 232 RX12 yX12_partOf wsX12_partOf) := goodIn_app (goodIn_of _ (by decide +kernel)) ggX12_part_X12_partOf
set_option maxRecDepth 20000 in
theorem ggX12_part_X12_tells : GoodIn wsX12_part wsX12_tells := goodIn_r _ [27, 13, 28, 29, 30, 31, 32, 33, 34, 35, 36, 37, 38, 39, 40, 41, 42, 43, 44, 45, 46, 47, 48, 49, 50] (by decide +kernel) (by decide +kernel)
set_option maxRecDepth 20000 in
theorem gX12_part_X12_tells : GoodIn wsX12_part (wsV RX12 56 RX12 yX12_tells wsX12_tells) := goodIn_app (goodIn_of _ (by decide +kernel)) ggX12_part_X12_tells
theorem dX12_part_0 : decode cX12_part 0 = .ok (.iload_n 1, 1) := by decide +kernel
theorem dX12_part_1 : decode cX12_part 1 = .ok (.iconst 0, 1) := by decide +kernel
theorem dX12_part_2 : decode cX12_part 2 = .ok (.iconst 3, 1) := by decide +kernel
theorem dX12_part_3 : decode cX12_part 3 = .ok (.invokestatic 116, 3) := by decide +kernel
theorem dX12_part_6 : decode cX12_part 6 = .ok (.ifCond .eq 15, 3) := by decide +kernel
theorem dX12_part_9 : decode cX12_part 9 = .ok (.iload_n 3, 1) := by decide +kernel
theorem dX12_part_10 : decode cX12_part 10 = .ok (.ifCond .lt 11, 3) := by decide +kernel
theorem dX12_part_13 : decode cX12_part 13 = .ok (.iload_n 3, 1) := by decide +kernel
theorem dX12_part_14 : decode cX12_part 14 = .ok (.iload_n 1, 1) := by decide +kernel
theorem dX12_part_15 : decode cX12_part 15 = .ok (.invokestatic 229, 3) := by decide +kernel
theorem dX12_part_18 : decode cX12_part 18 = .ok (.if_icmp .lt 9, 3) := by decide +kernel
theorem dX12_part_21 : decode cX12_part 21 = .ok (.aload_n 0, 1) := by decide +kernel
theorem dX12_part_22 : decode cX12_part 22 = .ok (.iconst 1, 1) := by decide +kernel
theorem dX12_part_23 : decode cX12_part 23 = .ok (.invokevirtual 141, 3) := by decide +kernel
theorem dX12_part_26 : decode cX12_part 26 = .ok (.ireturn, 1) := by decide +kernel
theorem dX12_part_27 : decode cX12_part 27 = .ok (.iload_n 2, 1) := by decide +kernel
theorem dX12_part_28 : decode cX12_part 28 = .ok (.ifCond .lt 25, 3) := by decide +kernel
theorem dX12_part_31 : decode cX12_part 31 = .ok (.iload_n 2, 1) := by decide +kernel
theorem dX12_part_32 : decode cX12_part 32 = .ok (.iload_n 1, 1) := by decide +kernel
theorem dX12_part_33 : decode cX12_part 33 = .ok (.iconst 3, 1) := by decide +kernel
theorem dX12_part_34 : decode cX12_part 34 = .ok (.if_icmp .ne 8, 3) := by decide +kernel
theorem dX12_part_37 : decode cX12_part 37 = .ok (.bipush 7, 2) := by decide +kernel
theorem dX12_part_39 : decode cX12_part 39 = .ok (.goto 11, 3) := by decide +kernel
theorem dX12_part_42 : decode cX12_part 42 = .ok (.aload_n 0, 1) := by decide +kernel
theorem dX12_part_43 : decode cX12_part 43 = .ok (.getfield 7, 3) := by decide +kernel
theorem dX12_part_46 : decode cX12_part 46 = .ok (.iconst 2, 1) := by decide +kernel
theorem dX12_part_47 : decode cX12_part 47 = .ok (.iload_n 1, 1) := by decide +kernel
theorem dX12_part_48 : decode cX12_part 48 = .ok (.iadd, 1) := by decide +kernel
theorem dX12_part_49 : decode cX12_part 49 = .ok (.iaload, 1) := by decide +kernel
theorem dX12_part_50 : decode cX12_part 50 = .ok (.if_icmp .lt 9, 3) := by decide +kernel
theorem dX12_part_53 : decode cX12_part 53 = .ok (.aload_n 0, 1) := by decide +kernel
theorem dX12_part_54 : decode cX12_part 54 = .ok (.iconst 2, 1) := by decide +kernel
theorem dX12_part_55 : decode cX12_part 55 = .ok (.invokevirtual 141, 3) := by decide +kernel
theorem dX12_part_58 : decode cX12_part 58 = .ok (.ireturn, 1) := by decide +kernel
theorem dX12_part_59 : decode cX12_part 59 = .ok (.aload_n 0, 1) := by decide +kernel
theorem dX12_part_60 : decode cX12_part 60 = .ok (.aload_n 0, 1) := by decide +kernel
theorem dX12_part_61 : decode cX12_part 61 = .ok (.iload_n 1, 1) := by decide +kernel
theorem dX12_part_62 : decode cX12_part 62 = .ok (.iload_n 2, 1) := by decide +kernel
theorem dX12_part_63 : decode cX12_part 63 = .ok (.iload_n 3, 1) := by decide +kernel
theorem dX12_part_64 : decode cX12_part 64 = .ok (.invokevirtual 232, 3) := by decide +kernel
theorem dX12_part_67 : decode cX12_part 67 = .ok (.invokevirtual 56, 3) := by decide +kernel
theorem dX12_part_70 : decode cX12_part 70 = .ok (.ireturn, 1) := by decide +kernel
set_option maxRecDepth 20000 in
theorem ggX12_type_X12_in : GoodIn wsX12_type wsX12_in := goodIn_r _ [6] (by decide +kernel) (by decide +kernel)
set_option maxRecDepth 20000 in
theorem gX12_type_X12_in : GoodIn wsX12_type (va_wsS RX12 116 yX12_in wsX12_in) := goodIn_app (goodIn_of _ (by decide +kernel)) ggX12_type_X12_in
set_option maxRecDepth 20000 in
theorem ggX12_type_X12_fails : GoodIn wsX12_type wsX12_fails := goodIn_r _ [10, 11, 16, 17, 18, 19, 20, 21, 22, 23, 24, 25, 26, 27, 28, 29, 30, 31, 32, 33, 34, 35, 36, 37, 38] (by decide +kernel) (by decide +kernel)
set_option maxRecDepth 20000 in
theorem gX12_type_X12_fails : GoodIn wsX12_type (wsV RX12 141 RX12 yX12_fails wsX12_fails) := goodIn_app (goodIn_of _ (by decide +kernel)) ggX12_type_X12_fails
set_option maxRecDepth 20000 in
theorem ggX12_type_X12_tells : GoodIn wsX12_type wsX12_tells := goodIn_r _ [15, 11, 16, 17, 18, 19, 20, 21, 22, 23, 24, 25, 26, 27, 28, 29, 30, 31, 32, 33, 34, 35, 36, 37, 38] (by decide +kernel) (by decide +kernel)
set_option maxRecDepth 20000 in
theorem gX12_type_X12_tells : GoodIn wsX12_type (wsV RX12 56 RX12 yX12_tells wsX12_tells) := goodIn_app (goodIn_of _ (by decide +kernel)) ggX12_type_X12_tells
theorem dX12_type_0 : decode cX12_type 0 = .ok (.iload_n 1, 1) := by decide +kernel
theorem dX12_type_1 : decode cX12_type 1 = .ok (.iconst 0, 1) := by decide +kernel
theorem dX12_type_2 : decode cX12_type 2 = .ok (.bipush 127, 2) := by decide +kernel
theorem dX12_type_4 : decode cX12_type 4 = .ok (.invokestatic 116, 3) := by decide +kernel
theorem dX12_type_7 : decode cX12_type 7 = .ok (.ifCond .ne 9, 3) := by decide +kernel
theorem dX12_type_10 : decode cX12_type 10 = .ok (.aload_n 0, 1) := by decide +kernel
theorem dX12_type_11 : decode cX12_type 11 = .ok (.iconst 1, 1) := by decide +kernel
theorem dX12_type_12 : decode cX12_type 12 = .ok (.invokevirtual 141, 3) := by decide +kernel
theorem dX12_type_15 : decode cX12_type 15 = .ok (.ireturn, 1) := by decide +kernel
theorem dX12_type_16 : decode cX12_type 16 = .ok (.aload_n 0, 1) := by decide +kernel
theorem dX12_type_17 : decode cX12_type 17 = .ok (.getfield 235, 3) := by decide +kernel
theorem dX12_type_20 : decode cX12_type 20 = .ok (.sipush 150, 3) := by decide +kernel
theorem dX12_type_23 : decode cX12_type 23 = .ok (.if_icmp .ne 9, 3) := by decide +kernel
theorem dX12_type_26 : decode cX12_type 26 = .ok (.aload_n 0, 1) := by decide +kernel
theorem dX12_type_27 : decode cX12_type 27 = .ok (.iconst 2, 1) := by decide +kernel
theorem dX12_type_28 : decode cX12_type 28 = .ok (.invokevirtual 141, 3) := by decide +kernel
theorem dX12_type_31 : decode cX12_type 31 = .ok (.ireturn, 1) := by decide +kernel
theorem dX12_type_32 : decode cX12_type 32 = .ok (.aload_n 0, 1) := by decide +kernel
theorem dX12_type_33 : decode cX12_type 33 = .ok (.getfield 19, 3) := by decide +kernel
theorem dX12_type_36 : decode cX12_type 36 = .ok (.aload_n 0, 1) := by decide +kernel
theorem dX12_type_37 : decode cX12_type 37 = .ok (.getfield 235, 3) := by decide +kernel
theorem dX12_type_40 : decode cX12_type 40 = .ok (.iload_n 1, 1) := by decide +kernel
theorem dX12_type_41 : decode cX12_type 41 = .ok (.iastore, 1) := by decide +kernel
theorem dX12_type_42 : decode cX12_type 42 = .ok (.aload_n 0, 1) := by decide +kernel
theorem dX12_type_43 : decode cX12_type 43 = .ok (.dup, 1) := by decide +kernel
theorem dX12_type_44 : decode cX12_type 44 = .ok (.getfield 235, 3) := by decide +kernel
theorem dX12_type_47 : decode cX12_type 47 = .ok (.iconst 1, 1) := by decide +kernel
theorem dX12_type_48 : decode cX12_type 48 = .ok (.iadd, 1) := by decide +kernel
theorem dX12_type_49 : decode cX12_type 49 = .ok (.putfield 235, 3) := by decide +kernel
theorem dX12_type_52 : decode cX12_type 52 = .ok (.aload_n 0, 1) := by decide +kernel
theorem dX12_type_53 : decode cX12_type 53 = .ok (.aload_n 0, 1) := by decide +kernel
theorem dX12_type_54 : decode cX12_type 54 = .ok (.getfield 235, 3) := by decide +kernel
theorem dX12_type_57 : decode cX12_type 57 = .ok (.invokevirtual 56, 3) := by decide +kernel
theorem dX12_type_60 : decode cX12_type 60 = .ok (.ireturn, 1) := by decide +kernel
set_option maxRecDepth 20000 in
theorem ggX12_clearCommands_X12_tells : GoodIn wsX12_clearCommands wsX12_tells := goodIn_r _ [6, 7, 8, 9, 10, 11, 12, 13, 14, 15, 16, 17, 18, 19, 20, 21, 22, 23, 24, 25, 26, 27, 28, 29, 30] (by decide +kernel) (by decide +kernel)
set_option maxRecDepth 20000 in
theorem gX12_clearCommands_X12_tells : GoodIn wsX12_clearCommands (wsV RX12 56 RX12 yX12_tells wsX12_tells) := goodIn_app (goodIn_of _ (by decide +kernel)) ggX12_clearCommands_X12_tells
theorem dX12_clearCommands_0 : decode cX12_clearCommands 0 = .ok (.aload_n 0, 1) := by decide +kernel
theorem dX12_clearCommands_1 : decode cX12_clearCommands 1 = .ok (.getfield 235, 3) := by decide +kernel
theorem dX12_clearCommands_4 : decode cX12_clearCommands 4 = .ok (.istore_n 1, 1) := by decide +kernel
theorem dX12_clearCommands_5 : decode cX12_clearCommands 5 = .ok (.aload_n 0, 1) := by decide +kernel
theorem dX12_clearCommands_6 : decode cX12_clearCommands 6 = .ok (.iconst 0, 1) := by decide +kernel
theorem dX12_clearCommands_7 : decode cX12_clearCommands 7 = .ok (.putfield 235, 3) := by decide +kernel
theorem dX12_clearCommands_10 : decode cX12_clearCommands 10 = .ok (.aload_n 0, 1) := by decide +kernel
theorem dX12_clearCommands_11 : decode cX12_clearCommands 11 = .ok (.iload_n 1, 1) := by decide +kernel
theorem dX12_clearCommands_12 : decode cX12_clearCommands 12 = .ok (.invokevirtual 56, 3) := by decide +kernel
theorem dX12_clearCommands_15 : decode cX12_clearCommands 15 = .ok (.ireturn, 1) := by decide +kernel
set_option maxRecDepth 20000 in
theorem ggX12_isAt_X12_in : GoodIn wsX12_isAt wsX12_in := goodIn_r _ [7] (by decide +kernel) (by decide +kernel)
set_option maxRecDepth 20000 in
theorem gX12_isAt_X12_in : GoodIn wsX12_isAt (va_wsS RX12 116 yX12_in wsX12_in) := goodIn_app (goodIn_of _ (by decide +kernel)) ggX12_isAt_X12_in
theorem dX12_isAt_0 : decode cX12_isAt 0 = .ok (.aload_n 0, 1) := by decide +kernel
theorem dX12_isAt_1 : decode cX12_isAt 1 = .ok (.getfield 238, 3) := by decide +kernel
theorem dX12_isAt_4 : decode cX12_isAt 4 = .ok (.aload_n 0, 1) := by decide +kernel
theorem dX12_isAt_5 : decode cX12_isAt 5 = .ok (.getfield 235, 3) := by decide +kernel
theorem dX12_isAt_8 : decode cX12_isAt 8 = .ok (.if_icmp .ge 24, 3) := by decide +kernel
theorem dX12_isAt_11 : decode cX12_isAt 11 = .ok (.aload_n 0, 1) := by decide +kernel
theorem dX12_isAt_12 : decode cX12_isAt 12 = .ok (.getfield 19, 3) := by decide +kernel
theorem dX12_isAt_15 : decode cX12_isAt 15 = .ok (.aload_n 0, 1) := by decide +kernel
theorem dX12_isAt_16 : decode cX12_isAt 16 = .ok (.getfield 238, 3) := by decide +kernel
theorem dX12_isAt_19 : decode cX12_isAt 19 = .ok (.iaload, 1) := by decide +kernel
theorem dX12_isAt_20 : decode cX12_isAt 20 = .ok (.iload_n 1, 1) := by decide +kernel
theorem dX12_isAt_21 : decode cX12_isAt 21 = .ok (.iload_n 2, 1) := by decide +kernel
theorem dX12_isAt_22 : decode cX12_isAt 22 = .ok (.invokestatic 116, 3) := by decide +kernel
theorem dX12_isAt_25 : decode cX12_isAt 25 = .ok (.ifCond .eq 7, 3) := by decide +kernel
theorem dX12_isAt_28 : decode cX12_isAt 28 = .ok (.iconst 1, 1) := by decide +kernel
theorem dX12_isAt_29 : decode cX12_isAt 29 = .ok (.goto 4, 3) := by decide +kernel
theorem dX12_isAt_32 : decode cX12_isAt 32 = .ok (.iconst 0, 1) := by decide +kernel
theorem dX12_isAt_33 : decode cX12_isAt 33 = .ok (.ireturn, 1) := by decide +kernel
set_option maxRecDepth 20000 in
theorem ggX12_skips_X12_isAt : GoodIn wsX12_skips wsX12_isAt := goodIn_r _ [6, 1, 7, 8, 9, 10, 5, 11, 12, 13, 14, 15, 16, 17, 18, 19, 20, 21, 22, 23, 24, 25, 26, 27, 28, 29, 30, 31, 32, 33, 34] (by decide +kernel) (by decide +kernel)
set_option maxRecDepth 20000 in
theorem gX12_skips_X12_isAt : GoodIn wsX12_skips (wsV RX12 241 RX12 yX12_isAt wsX12_isAt) := goodIn_app (goodIn_of _ (by decide +kernel)) ggX12_skips_X12_isAt
theorem dX12_skips_0 : decode cX12_skips 0 = .ok (.aload_n 0, 1) := by decide +kernel
theorem dX12_skips_1 : decode cX12_skips 1 = .ok (.bipush 32, 2) := by decide +kernel
theorem dX12_skips_3 : decode cX12_skips 3 = .ok (.bipush 32, 2) := by decide +kernel
theorem dX12_skips_5 : decode cX12_skips 5 = .ok (.invokevirtual 241, 3) := by decide +kernel
theorem dX12_skips_8 : decode cX12_skips 8 = .ok (.ifCond .eq 16, 3) := by decide +kernel
theorem dX12_skips_11 : decode cX12_skips 11 = .ok (.aload_n 0, 1) := by decide +kernel
theorem dX12_skips_12 : decode cX12_skips 12 = .ok (.dup, 1) := by decide +kernel
theorem dX12_skips_13 : decode cX12_skips 13 = .ok (.getfield 238, 3) := by decide +kernel
theorem dX12_skips_16 : decode cX12_skips 16 = .ok (.iconst 1, 1) := by decide +kernel
theorem dX12_skips_17 : decode cX12_skips 17 = .ok (.iadd, 1) := by decide +kernel
theorem dX12_skips_18 : decode cX12_skips 18 = .ok (.putfield 238, 3) := by decide +kernel
theorem dX12_skips_21 : decode cX12_skips 21 = .ok (.goto (-21), 3) := by decide +kernel
theorem dX12_skips_24 : decode cX12_skips 24 = .ok (.return_, 1) := by decide +kernel
theorem dX12_manyOf_0 : decode cX12_manyOf 0 = .ok (.lload_n 0, 1) := by decide +kernel
theorem dX12_manyOf_1 : decode cX12_manyOf 1 = .ok (.ldc2_w 244, 3) := by decide +kernel
theorem dX12_manyOf_4 : decode cX12_manyOf 4 = .ok (.lcmp, 1) := by decide +kernel
theorem dX12_manyOf_5 : decode cX12_manyOf 5 = .ok (.ifCond .eq 19, 3) := by decide +kernel
theorem dX12_manyOf_8 : decode cX12_manyOf 8 = .ok (.lload_n 0, 1) := by decide +kernel
theorem dX12_manyOf_9 : decode cX12_manyOf 9 = .ok (.ldc2_w 246, 3) := by decide +kernel
theorem dX12_manyOf_12 : decode cX12_manyOf 12 = .ok (.lcmp, 1) := by decide +kernel
theorem dX12_manyOf_13 : decode cX12_manyOf 13 = .ok (.ifCond .eq 11, 3) := by decide +kernel
theorem dX12_manyOf_16 : decode cX12_manyOf 16 = .ok (.lload_n 0, 1) := by decide +kernel
theorem dX12_manyOf_17 : decode cX12_manyOf 17 = .ok (.ldc2_w 248, 3) := by decide +kernel
theorem dX12_manyOf_20 : decode cX12_manyOf 20 = .ok (.lcmp, 1) := by decide +kernel
theorem dX12_manyOf_21 : decode cX12_manyOf 21 = .ok (.ifCond .ne 5, 3) := by decide +kernel
theorem dX12_manyOf_24 : decode cX12_manyOf 24 = .ok (.iconst 2, 1) := by decide +kernel
theorem dX12_manyOf_25 : decode cX12_manyOf 25 = .ok (.ireturn, 1) := by decide +kernel
theorem dX12_manyOf_26 : decode cX12_manyOf 26 = .ok (.lload_n 0, 1) := by decide +kernel
theorem dX12_manyOf_27 : decode cX12_manyOf 27 = .ok (.ldc2_w 250, 3) := by decide +kernel
theorem dX12_manyOf_30 : decode cX12_manyOf 30 = .ok (.lcmp, 1) := by decide +kernel
theorem dX12_manyOf_31 : decode cX12_manyOf 31 = .ok (.ifCond .eq 19, 3) := by decide +kernel
theorem dX12_manyOf_34 : decode cX12_manyOf 34 = .ok (.lload_n 0, 1) := by decide +kernel
theorem dX12_manyOf_35 : decode cX12_manyOf 35 = .ok (.ldc2_w 252, 3) := by decide +kernel
theorem dX12_manyOf_38 : decode cX12_manyOf 38 = .ok (.lcmp, 1) := by decide +kernel
theorem dX12_manyOf_39 : decode cX12_manyOf 39 = .ok (.ifCond .eq 11, 3) := by decide +kernel
theorem dX12_manyOf_42 : decode cX12_manyOf 42 = .ok (.lload_n 0, 1) := by decide +kernel
theorem dX12_manyOf_43 : decode cX12_manyOf 43 = .ok (.ldc2_w 254, 3) := by decide +kernel
theorem dX12_manyOf_46 : decode cX12_manyOf 46 = .ok (.lcmp, 1) := by decide +kernel
theorem dX12_manyOf_47 : decode cX12_manyOf 47 = .ok (.ifCond .ne 5, 3) := by decide +kernel
theorem dX12_manyOf_50 : decode cX12_manyOf 50 = .ok (.iconst 3, 1) := by decide +kernel
theorem dX12_manyOf_51 : decode cX12_manyOf 51 = .ok (.ireturn, 1) := by decide +kernel
theorem dX12_manyOf_52 : decode cX12_manyOf 52 = .ok (.lload_n 0, 1) := by decide +kernel
theorem dX12_manyOf_53 : decode cX12_manyOf 53 = .ok (.ldc2_w 256, 3) := by decide +kernel
theorem dX12_manyOf_56 : decode cX12_manyOf 56 = .ok (.lcmp, 1) := by decide +kernel
theorem dX12_manyOf_57 : decode cX12_manyOf 57 = .ok (.ifCond .ne 7, 3) := by decide +kernel
theorem dX12_manyOf_60 : decode cX12_manyOf 60 = .ok (.iconst 4, 1) := by decide +kernel
theorem dX12_manyOf_61 : decode cX12_manyOf 61 = .ok (.goto 5, 3) := by decide +kernel
theorem dX12_manyOf_64 : decode cX12_manyOf 64 = .ok (.ldc 71, 2) := by decide +kernel
theorem dX12_manyOf_66 : decode cX12_manyOf 66 = .ok (.ireturn, 1) := by decide +kernel
set_option maxRecDepth 20000 in
theorem ggX12_isWord_X12_isAt : GoodIn wsX12_isWord wsX12_isAt := goodIn_r _ [9, 1, 10, 3, 11, 12, 8, 13, 24, 25, 26, 27, 28, 29, 30, 31, 32, 33, 34, 35, 36, 37, 38, 39, 40, 41, 42, 43, 44, 45, 46] (by decide +kernel) (by decide +kernel)
set_option maxRecDepth 20000 in
theorem gX12_isWord_X12_isAt : GoodIn wsX12_isWord (wsV RX12 241 RX12 yX12_isAt wsX12_isAt) := goodIn_app (goodIn_of _ (by decide +kernel)) ggX12_isWord_X12_isAt
set_option maxRecDepth 20000 in
theorem ggX12_isWord_X12_manyOf : GoodIn wsX12_isWord wsX12_manyOf := goodIn_r _ [16, 17, 18, 19, 20, 21, 22, 23, 4] (by decide +kernel) (by decide +kernel)
set_option maxRecDepth 20000 in
theorem gX12_isWord_X12_manyOf : GoodIn wsX12_isWord (va_wsS RX12 262 yX12_manyOf wsX12_manyOf) := goodIn_app (goodIn_of _ (by decide +kernel)) ggX12_isWord_X12_manyOf
theorem dX12_isWord_0 : decode cX12_isWord 0 = .ok (.aload_n 0, 1) := by decide +kernel
theorem dX12_isWord_1 : decode cX12_isWord 1 = .ok (.getfield 238, 3) := by decide +kernel
theorem dX12_isWord_4 : decode cX12_isWord 4 = .ok (.istore_n 1, 1) := by decide +kernel
theorem dX12_isWord_5 : decode cX12_isWord 5 = .ok (.aload_n 0, 1) := by decide +kernel
theorem dX12_isWord_6 : decode cX12_isWord 6 = .ok (.lconst 0, 1) := by decide +kernel
theorem dX12_isWord_7 : decode cX12_isWord 7 = .ok (.putfield 258, 3) := by decide +kernel
theorem dX12_isWord_10 : decode cX12_isWord 10 = .ok (.aload_n 0, 1) := by decide +kernel
theorem dX12_isWord_11 : decode cX12_isWord 11 = .ok (.bipush 97, 2) := by decide +kernel
theorem dX12_isWord_13 : decode cX12_isWord 13 = .ok (.bipush 122, 2) := by decide +kernel
theorem dX12_isWord_15 : decode cX12_isWord 15 = .ok (.invokevirtual 241, 3) := by decide +kernel
theorem dX12_isWord_18 : decode cX12_isWord 18 = .ok (.ifCond .eq 53, 3) := by decide +kernel
theorem dX12_isWord_21 : decode cX12_isWord 21 = .ok (.aload_n 0, 1) := by decide +kernel
theorem dX12_isWord_22 : decode cX12_isWord 22 = .ok (.aload_n 0, 1) := by decide +kernel
theorem dX12_isWord_23 : decode cX12_isWord 23 = .ok (.getfield 238, 3) := by decide +kernel
theorem dX12_isWord_26 : decode cX12_isWord 26 = .ok (.iload_n 1, 1) := by decide +kernel
theorem dX12_isWord_27 : decode cX12_isWord 27 = .ok (.isub, 1) := by decide +kernel
theorem dX12_isWord_28 : decode cX12_isWord 28 = .ok (.bipush 6, 2) := by decide +kernel
theorem dX12_isWord_30 : decode cX12_isWord 30 = .ok (.if_icmp .ge 24, 3) := by decide +kernel
theorem dX12_isWord_33 : decode cX12_isWord 33 = .ok (.aload_n 0, 1) := by decide +kernel
theorem dX12_isWord_34 : decode cX12_isWord 34 = .ok (.getfield 258, 3) := by decide +kernel
theorem dX12_isWord_37 : decode cX12_isWord 37 = .ok (.bipush 8, 2) := by decide +kernel
theorem dX12_isWord_39 : decode cX12_isWord 39 = .ok (.lshl, 1) := by decide +kernel
theorem dX12_isWord_40 : decode cX12_isWord 40 = .ok (.aload_n 0, 1) := by decide +kernel
theorem dX12_isWord_41 : decode cX12_isWord 41 = .ok (.getfield 19, 3) := by decide +kernel
theorem dX12_isWord_44 : decode cX12_isWord 44 = .ok (.aload_n 0, 1) := by decide +kernel
theorem dX12_isWord_45 : decode cX12_isWord 45 = .ok (.getfield 238, 3) := by decide +kernel
theorem dX12_isWord_48 : decode cX12_isWord 48 = .ok (.iaload, 1) := by decide +kernel
theorem dX12_isWord_49 : decode cX12_isWord 49 = .ok (.i2l, 1) := by decide +kernel
theorem dX12_isWord_50 : decode cX12_isWord 50 = .ok (.lor, 1) := by decide +kernel
theorem dX12_isWord_51 : decode cX12_isWord 51 = .ok (.goto 4, 3) := by decide +kernel
theorem dX12_isWord_54 : decode cX12_isWord 54 = .ok (.lconst 0, 1) := by decide +kernel
theorem dX12_isWord_55 : decode cX12_isWord 55 = .ok (.putfield 258, 3) := by decide +kernel
theorem dX12_isWord_58 : decode cX12_isWord 58 = .ok (.aload_n 0, 1) := by decide +kernel
theorem dX12_isWord_59 : decode cX12_isWord 59 = .ok (.dup, 1) := by decide +kernel
theorem dX12_isWord_60 : decode cX12_isWord 60 = .ok (.getfield 238, 3) := by decide +kernel
theorem dX12_isWord_63 : decode cX12_isWord 63 = .ok (.iconst 1, 1) := by decide +kernel
theorem dX12_isWord_64 : decode cX12_isWord 64 = .ok (.iadd, 1) := by decide +kernel
theorem dX12_isWord_65 : decode cX12_isWord 65 = .ok (.putfield 238, 3) := by decide +kernel
theorem dX12_isWord_68 : decode cX12_isWord 68 = .ok (.goto (-58), 3) := by decide +kernel
theorem dX12_isWord_71 : decode cX12_isWord 71 = .ok (.aload_n 0, 1) := by decide +kernel
theorem dX12_isWord_72 : decode cX12_isWord 72 = .ok (.getfield 238, 3) := by decide +kernel
theorem dX12_isWord_75 : decode cX12_isWord 75 = .ok (.iload_n 1, 1) := by decide +kernel
theorem dX12_isWord_76 : decode cX12_isWord 76 = .ok (.isub, 1) := by decide +kernel
theorem dX12_isWord_77 : decode cX12_isWord 77 = .ok (.bipush 6, 2) := by decide +kernel
theorem dX12_isWord_79 : decode cX12_isWord 79 = .ok (.if_icmp .gt 15, 3) := by decide +kernel
theorem dX12_isWord_82 : decode cX12_isWord 82 = .ok (.aload_n 0, 1) := by decide +kernel
theorem dX12_isWord_83 : decode cX12_isWord 83 = .ok (.getfield 258, 3) := by decide +kernel
theorem dX12_isWord_86 : decode cX12_isWord 86 = .ok (.invokestatic 262, 3) := by decide +kernel
theorem dX12_isWord_89 : decode cX12_isWord 89 = .ok (.ldc 71, 2) := by decide +kernel
theorem dX12_isWord_91 : decode cX12_isWord 91 = .ok (.if_icmp .ne 10, 3) := by decide +kernel
theorem dX12_isWord_94 : decode cX12_isWord 94 = .ok (.aload_n 0, 1) := by decide +kernel
theorem dX12_isWord_95 : decode cX12_isWord 95 = .ok (.iload_n 1, 1) := by decide +kernel
theorem dX12_isWord_96 : decode cX12_isWord 96 = .ok (.putfield 238, 3) := by decide +kernel
theorem dX12_isWord_99 : decode cX12_isWord 99 = .ok (.iconst 0, 1) := by decide +kernel
theorem dX12_isWord_100 : decode cX12_isWord 100 = .ok (.ireturn, 1) := by decide +kernel
theorem dX12_isWord_101 : decode cX12_isWord 101 = .ok (.iconst 1, 1) := by decide +kernel
theorem dX12_isWord_102 : decode cX12_isWord 102 = .ok (.ireturn, 1) := by decide +kernel
set_option maxRecDepth 20000 in
theorem ggX12_isNumber_X12_isAt : GoodIn wsX12_isNumber wsX12_isAt := goodIn_r _ [8, 1, 9, 3, 10, 11, 7, 12, 17, 18, 19, 20, 21, 22, 23, 24, 25, 26, 27, 28, 29, 30, 31, 32, 33, 34, 35, 36, 37, 38, 39] (by decide +kernel) (by decide +kernel)
set_option maxRecDepth 20000 in
theorem gX12_isNumber_X12_isAt : GoodIn wsX12_isNumber (wsV RX12 241 RX12 yX12_isAt wsX12_isAt) := goodIn_app (goodIn_of _ (by decide +kernel)) ggX12_isNumber_X12_isAt
set_option maxRecDepth 20000 in
theorem ggX12_isNumber_X12_skips : GoodIn wsX12_isNumber wsX12_skips := goodIn_r _ [16, 1, 4, 5, 6, 7, 8, 9, 3, 10, 11, 12, 17, 18, 19, 20, 21, 22, 23, 24, 25, 26, 27, 28, 29, 30, 31, 32, 33, 34, 35, 36, 37, 38, 39] (by decide +kernel) (by decide +kernel)
set_option maxRecDepth 20000 in
theorem gX12_isNumber_X12_skips : GoodIn wsX12_isNumber (wsV RX12 266 RX12 yX12_skips wsX12_skips) := goodIn_app (goodIn_of _ (by decide +kernel)) ggX12_isNumber_X12_skips
theorem dX12_isNumber_0 : decode cX12_isNumber 0 = .ok (.aload_n 0, 1) := by decide +kernel
theorem dX12_isNumber_1 : decode cX12_isNumber 1 = .ok (.bipush 32, 2) := by decide +kernel
theorem dX12_isNumber_3 : decode cX12_isNumber 3 = .ok (.bipush 32, 2) := by decide +kernel
theorem dX12_isNumber_5 : decode cX12_isNumber 5 = .ok (.invokevirtual 241, 3) := by decide +kernel
theorem dX12_isNumber_8 : decode cX12_isNumber 8 = .ok (.ifCond .ne 5, 3) := by decide +kernel
theorem dX12_isNumber_11 : decode cX12_isNumber 11 = .ok (.iconst 0, 1) := by decide +kernel
theorem dX12_isNumber_12 : decode cX12_isNumber 12 = .ok (.ireturn, 1) := by decide +kernel
theorem dX12_isNumber_13 : decode cX12_isNumber 13 = .ok (.aload_n 0, 1) := by decide +kernel
theorem dX12_isNumber_14 : decode cX12_isNumber 14 = .ok (.invokevirtual 266, 3) := by decide +kernel
theorem dX12_isNumber_17 : decode cX12_isNumber 17 = .ok (.aload_n 0, 1) := by decide +kernel
theorem dX12_isNumber_18 : decode cX12_isNumber 18 = .ok (.getfield 238, 3) := by decide +kernel
theorem dX12_isNumber_21 : decode cX12_isNumber 21 = .ok (.istore_n 2, 1) := by decide +kernel
theorem dX12_isNumber_22 : decode cX12_isNumber 22 = .ok (.aload_n 0, 1) := by decide +kernel
theorem dX12_isNumber_23 : decode cX12_isNumber 23 = .ok (.getfield 46, 3) := by decide +kernel
theorem dX12_isNumber_26 : decode cX12_isNumber 26 = .ok (.iload_n 1, 1) := by decide +kernel
theorem dX12_isNumber_27 : decode cX12_isNumber 27 = .ok (.iconst 0, 1) := by decide +kernel
theorem dX12_isNumber_28 : decode cX12_isNumber 28 = .ok (.iastore, 1) := by decide +kernel
theorem dX12_isNumber_29 : decode cX12_isNumber 29 = .ok (.aload_n 0, 1) := by decide +kernel
theorem dX12_isNumber_30 : decode cX12_isNumber 30 = .ok (.getfield 238, 3) := by decide +kernel
theorem dX12_isNumber_33 : decode cX12_isNumber 33 = .ok (.iload_n 2, 1) := by decide +kernel
theorem dX12_isNumber_34 : decode cX12_isNumber 34 = .ok (.isub, 1) := by decide +kernel
theorem dX12_isNumber_35 : decode cX12_isNumber 35 = .ok (.iconst 5, 1) := by decide +kernel
theorem dX12_isNumber_36 : decode cX12_isNumber 36 = .ok (.if_icmp .ge 55, 3) := by decide +kernel
theorem dX12_isNumber_39 : decode cX12_isNumber 39 = .ok (.aload_n 0, 1) := by decide +kernel
theorem dX12_isNumber_40 : decode cX12_isNumber 40 = .ok (.bipush 48, 2) := by decide +kernel
theorem dX12_isNumber_42 : decode cX12_isNumber 42 = .ok (.bipush 57, 2) := by decide +kernel
theorem dX12_isNumber_44 : decode cX12_isNumber 44 = .ok (.invokevirtual 241, 3) := by decide +kernel
theorem dX12_isNumber_47 : decode cX12_isNumber 47 = .ok (.ifCond .eq 44, 3) := by decide +kernel
theorem dX12_isNumber_50 : decode cX12_isNumber 50 = .ok (.aload_n 0, 1) := by decide +kernel
theorem dX12_isNumber_51 : decode cX12_isNumber 51 = .ok (.getfield 46, 3) := by decide +kernel
theorem dX12_isNumber_54 : decode cX12_isNumber 54 = .ok (.iload_n 1, 1) := by decide +kernel
theorem dX12_isNumber_55 : decode cX12_isNumber 55 = .ok (.bipush 10, 2) := by decide +kernel
theorem dX12_isNumber_57 : decode cX12_isNumber 57 = .ok (.aload_n 0, 1) := by decide +kernel
theorem dX12_isNumber_58 : decode cX12_isNumber 58 = .ok (.getfield 46, 3) := by decide +kernel
theorem dX12_isNumber_61 : decode cX12_isNumber 61 = .ok (.iload_n 1, 1) := by decide +kernel
theorem dX12_isNumber_62 : decode cX12_isNumber 62 = .ok (.iaload, 1) := by decide +kernel
theorem dX12_isNumber_63 : decode cX12_isNumber 63 = .ok (.imul, 1) := by decide +kernel
theorem dX12_isNumber_64 : decode cX12_isNumber 64 = .ok (.aload_n 0, 1) := by decide +kernel
theorem dX12_isNumber_65 : decode cX12_isNumber 65 = .ok (.getfield 19, 3) := by decide +kernel
theorem dX12_isNumber_68 : decode cX12_isNumber 68 = .ok (.aload_n 0, 1) := by decide +kernel
theorem dX12_isNumber_69 : decode cX12_isNumber 69 = .ok (.getfield 238, 3) := by decide +kernel
theorem dX12_isNumber_72 : decode cX12_isNumber 72 = .ok (.iaload, 1) := by decide +kernel
theorem dX12_isNumber_73 : decode cX12_isNumber 73 = .ok (.iadd, 1) := by decide +kernel
theorem dX12_isNumber_74 : decode cX12_isNumber 74 = .ok (.bipush 48, 2) := by decide +kernel
theorem dX12_isNumber_76 : decode cX12_isNumber 76 = .ok (.isub, 1) := by decide +kernel
theorem dX12_isNumber_77 : decode cX12_isNumber 77 = .ok (.iastore, 1) := by decide +kernel
theorem dX12_isNumber_78 : decode cX12_isNumber 78 = .ok (.aload_n 0, 1) := by decide +kernel
theorem dX12_isNumber_79 : decode cX12_isNumber 79 = .ok (.dup, 1) := by decide +kernel
theorem dX12_isNumber_80 : decode cX12_isNumber 80 = .ok (.getfield 238, 3) := by decide +kernel
theorem dX12_isNumber_83 : decode cX12_isNumber 83 = .ok (.iconst 1, 1) := by decide +kernel
theorem dX12_isNumber_84 : decode cX12_isNumber 84 = .ok (.iadd, 1) := by decide +kernel
theorem dX12_isNumber_85 : decode cX12_isNumber 85 = .ok (.putfield 238, 3) := by decide +kernel
theorem dX12_isNumber_88 : decode cX12_isNumber 88 = .ok (.goto (-59), 3) := by decide +kernel
theorem dX12_isNumber_91 : decode cX12_isNumber 91 = .ok (.aload_n 0, 1) := by decide +kernel
theorem dX12_isNumber_92 : decode cX12_isNumber 92 = .ok (.getfield 238, 3) := by decide +kernel
theorem dX12_isNumber_95 : decode cX12_isNumber 95 = .ok (.iload_n 2, 1) := by decide +kernel
theorem dX12_isNumber_96 : decode cX12_isNumber 96 = .ok (.if_icmp .le 18, 3) := by decide +kernel
theorem dX12_isNumber_99 : decode cX12_isNumber 99 = .ok (.aload_n 0, 1) := by decide +kernel
theorem dX12_isNumber_100 : decode cX12_isNumber 100 = .ok (.bipush 48, 2) := by decide +kernel
theorem dX12_isNumber_102 : decode cX12_isNumber 102 = .ok (.bipush 57, 2) := by decide +kernel
theorem dX12_isNumber_104 : decode cX12_isNumber 104 = .ok (.invokevirtual 241, 3) := by decide +kernel
theorem dX12_isNumber_107 : decode cX12_isNumber 107 = .ok (.ifCond .ne 7, 3) := by decide +kernel
theorem dX12_isNumber_110 : decode cX12_isNumber 110 = .ok (.iconst 1, 1) := by decide +kernel
theorem dX12_isNumber_111 : decode cX12_isNumber 111 = .ok (.goto 4, 3) := by decide +kernel
theorem dX12_isNumber_114 : decode cX12_isNumber 114 = .ok (.iconst 0, 1) := by decide +kernel
theorem dX12_isNumber_115 : decode cX12_isNumber 115 = .ok (.ireturn, 1) := by decide +kernel
set_option maxRecDepth 20000 in
theorem ggX12_isCommand_X12_isWord : GoodIn wsX12_isCommand wsX12_isWord := goodIn_r _ [7, 2, 1, 8, 9, 10, 11, 12, 6, 13, 14, 15, 16, 17, 18, 19, 20, 21, 22, 23, 24, 25, 26, 27, 37, 38, 39, 40, 41, 42, 43, 44, 45, 46, 47, 48, 49, 50, 51, 52, 53, 54, 55, 56, 57, 58, 59] (by decide +kernel) (by decide +kernel)
set_option maxRecDepth 20000 in
theorem gX12_isCommand_X12_isWord : GoodIn wsX12_isCommand (wsV RX12 269 RX12 yX12_isWord wsX12_isWord) := goodIn_app (goodIn_of _ (by decide +kernel)) ggX12_isCommand_X12_isWord
set_option maxRecDepth 20000 in
theorem ggX12_isCommand_X12_manyOf : GoodIn wsX12_isCommand wsX12_manyOf := goodIn_r _ [20, 21, 22, 23, 24, 25, 26, 27, 9] (by decide +kernel) (by decide +kernel)
set_option maxRecDepth 20000 in
theorem gX12_isCommand_X12_manyOf : GoodIn wsX12_isCommand (va_wsS RX12 262 yX12_manyOf wsX12_manyOf) := goodIn_app (goodIn_of _ (by decide +kernel)) ggX12_isCommand_X12_manyOf
set_option maxRecDepth 20000 in
theorem ggX12_isCommand_X12_isNumber : GoodIn wsX12_isCommand wsX12_isNumber := goodIn_r _ [31, 2, 32, 8, 10, 11, 12, 6, 13, 14, 15, 16, 17, 33, 34, 35, 36, 37, 38, 39, 40, 41, 42, 43, 44, 45, 46, 47, 48, 49, 50, 51, 52, 53, 54, 55, 56, 57, 58, 59] (by decide +kernel) (by decide +kernel)
set_option maxRecDepth 20000 in
theorem gX12_isCommand_X12_isNumber : GoodIn wsX12_isCommand (wsV RX12 273 RX12 yX12_isNumber wsX12_isNumber) := goodIn_app (goodIn_of _ (by decide +kernel)) ggX12_isCommand_X12_isNumber
set_option maxRecDepth 20000 in
theorem ggX12_isCommand_X12_skips : GoodIn wsX12_isCommand wsX12_skips := goodIn_r _ [36, 2, 10, 11, 12, 6, 13, 14, 8, 15, 16, 17, 37, 38, 39, 40, 41, 42, 43, 44, 45, 46, 47, 48, 49, 50, 51, 52, 53, 54, 55, 56, 57, 58, 59] (by decide +kernel) (by decide +kernel)
set_option maxRecDepth 20000 in
theorem gX12_isCommand_X12_skips : GoodIn wsX12_isCommand (wsV RX12 266 RX12 yX12_skips wsX12_skips) := goodIn_app (goodIn_of _ (by decide +kernel)) ggX12_isCommand_X12_skips
set_option maxRecDepth 20000 in
theorem ggX12_isCommand_X12_isAt : GoodIn wsX12_isCommand wsX12_isAt := goodIn_r _ [13, 2, 14, 8, 15, 16, 6, 17, 37, 38, 39, 40, 41, 42, 43, 44, 45, 46, 47, 48, 49, 50, 51, 52, 53, 54, 55, 56, 57, 58, 59] (by decide +kernel) (by decide +kernel)
set_option maxRecDepth 20000 in
theorem gX12_isCommand_X12_isAt : GoodIn wsX12_isCommand (wsV RX12 241 RX12 yX12_isAt wsX12_isAt) := goodIn_app (goodIn_of _ (by decide +kernel)) ggX12_isCommand_X12_isAt
theorem dX12_isCommand_0 : decode cX12_isCommand 0 = .ok (.aload_n 0, 1) := by decide +kernel
theorem dX12_isCommand_1 : decode cX12_isCommand 1 = .ok (.invokevirtual 269, 3) := by decide +kernel
theorem dX12_isCommand_4 : decode cX12_isCommand 4 = .ok (.ifCond .ne 5, 3) := by decide +kernel
theorem dX12_isCommand_7 : decode cX12_isCommand 7 = .ok (.iconst 0, 1) := by decide +kernel
theorem dX12_isCommand_8 : decode cX12_isCommand 8 = .ok (.ireturn, 1) := by decide +kernel
theorem dX12_isCommand_9 : decode cX12_isCommand 9 = .ok (.aload_n 0, 1) := by decide +kernel
theorem dX12_isCommand_10 : decode cX12_isCommand 10 = .ok (.getfield 258, 3) := by decide +kernel
theorem dX12_isCommand_13 : decode cX12_isCommand 13 = .ok (.invokestatic 262, 3) := by decide +kernel
theorem dX12_isCommand_16 : decode cX12_isCommand 16 = .ok (.istore_n 1, 1) := by decide +kernel
theorem dX12_isCommand_17 : decode cX12_isCommand 17 = .ok (.iconst 0, 1) := by decide +kernel
theorem dX12_isCommand_18 : decode cX12_isCommand 18 = .ok (.istore_n 2, 1) := by decide +kernel
theorem dX12_isCommand_19 : decode cX12_isCommand 19 = .ok (.iload_n 2, 1) := by decide +kernel
theorem dX12_isCommand_20 : decode cX12_isCommand 20 = .ok (.iload_n 1, 1) := by decide +kernel
theorem dX12_isCommand_21 : decode cX12_isCommand 21 = .ok (.if_icmp .ge 19, 3) := by decide +kernel
theorem dX12_isCommand_24 : decode cX12_isCommand 24 = .ok (.aload_n 0, 1) := by decide +kernel
theorem dX12_isCommand_25 : decode cX12_isCommand 25 = .ok (.iload_n 2, 1) := by decide +kernel
theorem dX12_isCommand_26 : decode cX12_isCommand 26 = .ok (.invokevirtual 273, 3) := by decide +kernel
theorem dX12_isCommand_29 : decode cX12_isCommand 29 = .ok (.ifCond .ne 5, 3) := by decide +kernel
theorem dX12_isCommand_32 : decode cX12_isCommand 32 = .ok (.iconst 0, 1) := by decide +kernel
theorem dX12_isCommand_33 : decode cX12_isCommand 33 = .ok (.ireturn, 1) := by decide +kernel
theorem dX12_isCommand_34 : decode cX12_isCommand 34 = .ok (.iinc 2 1, 3) := by decide +kernel
theorem dX12_isCommand_37 : decode cX12_isCommand 37 = .ok (.goto (-18), 3) := by decide +kernel
theorem dX12_isCommand_40 : decode cX12_isCommand 40 = .ok (.aload_n 0, 1) := by decide +kernel
theorem dX12_isCommand_41 : decode cX12_isCommand 41 = .ok (.invokevirtual 266, 3) := by decide +kernel
theorem dX12_isCommand_44 : decode cX12_isCommand 44 = .ok (.aload_n 0, 1) := by decide +kernel
theorem dX12_isCommand_45 : decode cX12_isCommand 45 = .ok (.bipush 59, 2) := by decide +kernel
theorem dX12_isCommand_47 : decode cX12_isCommand 47 = .ok (.bipush 59, 2) := by decide +kernel
theorem dX12_isCommand_49 : decode cX12_isCommand 49 = .ok (.invokevirtual 241, 3) := by decide +kernel
theorem dX12_isCommand_52 : decode cX12_isCommand 52 = .ok (.ifCond .ne 5, 3) := by decide +kernel
theorem dX12_isCommand_55 : decode cX12_isCommand 55 = .ok (.iconst 0, 1) := by decide +kernel
theorem dX12_isCommand_56 : decode cX12_isCommand 56 = .ok (.ireturn, 1) := by decide +kernel
theorem dX12_isCommand_57 : decode cX12_isCommand 57 = .ok (.aload_n 0, 1) := by decide +kernel
theorem dX12_isCommand_58 : decode cX12_isCommand 58 = .ok (.dup, 1) := by decide +kernel
theorem dX12_isCommand_59 : decode cX12_isCommand 59 = .ok (.getfield 238, 3) := by decide +kernel
theorem dX12_isCommand_62 : decode cX12_isCommand 62 = .ok (.iconst 1, 1) := by decide +kernel
theorem dX12_isCommand_63 : decode cX12_isCommand 63 = .ok (.iadd, 1) := by decide +kernel
theorem dX12_isCommand_64 : decode cX12_isCommand 64 = .ok (.putfield 238, 3) := by decide +kernel
theorem dX12_isCommand_67 : decode cX12_isCommand 67 = .ok (.aload_n 0, 1) := by decide +kernel
theorem dX12_isCommand_68 : decode cX12_isCommand 68 = .ok (.invokevirtual 266, 3) := by decide +kernel
theorem dX12_isCommand_71 : decode cX12_isCommand 71 = .ok (.iconst 1, 1) := by decide +kernel
theorem dX12_isCommand_72 : decode cX12_isCommand 72 = .ok (.ireturn, 1) := by decide +kernel
set_option maxRecDepth 20000 in
theorem ggX12_faultAt_X12_skips : GoodIn wsX12_faultAt wsX12_skips := goodIn_r _ [8, 1, 9, 10, 11, 7, 12, 2, 13, 14, 15, 16, 41, 42, 43, 44, 45, 46, 47, 48, 49, 50, 51, 52, 53, 54, 55, 56, 57, 58, 59, 60, 61, 62, 63] (by decide +kernel) (by decide +kernel)
set_option maxRecDepth 20000 in
theorem gX12_faultAt_X12_skips : GoodIn wsX12_faultAt (wsV RX12 266 RX12 yX12_skips wsX12_skips) := goodIn_app (goodIn_of _ (by decide +kernel)) ggX12_faultAt_X12_skips
set_option maxRecDepth 20000 in
theorem ggX12_faultAt_X12_isCommand : GoodIn wsX12_faultAt wsX12_isCommand := goodIn_r _ [20, 21, 1, 22, 23, 24, 7, 25, 13, 3, 9, 10, 11, 12, 2, 14, 15, 16, 26, 27, 28, 29, 30, 31, 32, 33, 34, 35, 36, 37, 38, 39, 40, 4, 5, 6, 8, 41, 42, 43, 44, 45, 46, 47, 48, 49, 50, 51, 52, 53, 54, 55, 56, 57, 58, 59, 60, 61, 62, 63] (by decide +kernel) (by decide +kernel)
set_option maxRecDepth 20000 in
theorem gX12_faultAt_X12_isCommand : GoodIn wsX12_faultAt (wsV RX12 276 RX12 yX12_isCommand wsX12_isCommand) := goodIn_app (goodIn_of _ (by decide +kernel)) ggX12_faultAt_X12_isCommand
theorem dX12_faultAt_0 : decode cX12_faultAt 0 = .ok (.aload_n 0, 1) := by decide +kernel
theorem dX12_faultAt_1 : decode cX12_faultAt 1 = .ok (.iconst 0, 1) := by decide +kernel
theorem dX12_faultAt_2 : decode cX12_faultAt 2 = .ok (.putfield 238, 3) := by decide +kernel
theorem dX12_faultAt_5 : decode cX12_faultAt 5 = .ok (.aload_n 0, 1) := by decide +kernel
theorem dX12_faultAt_6 : decode cX12_faultAt 6 = .ok (.invokevirtual 266, 3) := by decide +kernel
theorem dX12_faultAt_9 : decode cX12_faultAt 9 = .ok (.aload_n 0, 1) := by decide +kernel
theorem dX12_faultAt_10 : decode cX12_faultAt 10 = .ok (.getfield 238, 3) := by decide +kernel
theorem dX12_faultAt_13 : decode cX12_faultAt 13 = .ok (.aload_n 0, 1) := by decide +kernel
theorem dX12_faultAt_14 : decode cX12_faultAt 14 = .ok (.getfield 235, 3) := by decide +kernel
theorem dX12_faultAt_17 : decode cX12_faultAt 17 = .ok (.if_icmp .ge 15, 3) := by decide +kernel
theorem dX12_faultAt_20 : decode cX12_faultAt 20 = .ok (.aload_n 0, 1) := by decide +kernel
theorem dX12_faultAt_21 : decode cX12_faultAt 21 = .ok (.invokevirtual 276, 3) := by decide +kernel
theorem dX12_faultAt_24 : decode cX12_faultAt 24 = .ok (.ifCond .ne (-15), 3) := by decide +kernel
theorem dX12_faultAt_27 : decode cX12_faultAt 27 = .ok (.aload_n 0, 1) := by decide +kernel
theorem dX12_faultAt_28 : decode cX12_faultAt 28 = .ok (.getfield 238, 3) := by decide +kernel
theorem dX12_faultAt_31 : decode cX12_faultAt 31 = .ok (.ireturn, 1) := by decide +kernel
theorem dX12_faultAt_32 : decode cX12_faultAt 32 = .ok (.ldc 71, 2) := by decide +kernel
theorem dX12_faultAt_34 : decode cX12_faultAt 34 = .ok (.ireturn, 1) := by decide +kernel
set_option maxRecDepth 20000 in
theorem ggX12_does_X12_begins : GoodIn wsX12_does wsX12_begins := goodIn_r _ [13, 14, 15, 16, 17, 12, 18, 122, 123, 124, 125, 126, 127, 128, 129, 130, 131, 132, 133, 134, 135, 136, 137, 138, 139, 140, 141, 142, 143, 144] (by decide +kernel) (by decide +kernel)
set_option maxRecDepth 20000 in
theorem gX12_does_X12_begins : GoodIn wsX12_does (wsV RX12 150 RX12 yX12_begins wsX12_begins) := goodIn_app (goodIn_of _ (by decide +kernel)) ggX12_does_X12_begins
set_option maxRecDepth 20000 in
theorem ggX12_does_X12_comes : GoodIn wsX12_does wsX12_comes := goodIn_r _ [22, 14, 15, 16, 17, 12, 18, 23, 24, 25, 26, 122, 123, 124, 125, 126, 127, 128, 129, 130, 131, 132, 133, 134, 135, 136, 137, 138, 139, 140, 141, 142, 143, 144] (by decide +kernel) (by decide +kernel)
set_option maxRecDepth 20000 in
theorem gX12_does_X12_comes : GoodIn wsX12_does (wsV RX12 156 RX12 yX12_comes wsX12_comes) := goodIn_app (goodIn_of _ (by decide +kernel)) ggX12_does_X12_comes
set_option maxRecDepth 20000 in
theorem ggX12_does_X12_walls : GoodIn wsX12_does wsX12_walls := goodIn_r _ [30, 14, 15, 16, 17, 12, 18, 31, 32, 33, 122, 123, 124, 125, 126, 127, 128, 129, 130, 131, 132, 133, 134, 135, 136, 137, 138, 139, 140, 141, 142, 143, 144] (by decide +kernel) (by decide +kernel)
set_option maxRecDepth 20000 in
theorem gX12_does_X12_walls : GoodIn wsX12_does (wsV RX12 162 RX12 yX12_walls wsX12_walls) := goodIn_app (goodIn_of _ (by decide +kernel)) ggX12_does_X12_walls
set_option maxRecDepth 20000 in
theorem ggX12_does_X12_screens : GoodIn wsX12_does wsX12_screens := goodIn_r _ [37, 14, 15, 16, 17, 12, 18, 31, 32, 33, 122, 123, 124, 125, 126, 127, 128, 129, 130, 131, 132, 133, 134, 135, 136, 137, 138, 139, 140, 141, 142, 143, 144] (by decide +kernel) (by decide +kernel)
set_option maxRecDepth 20000 in
theorem gX12_does_X12_screens : GoodIn wsX12_does (wsV RX12 165 RX12 yX12_screens wsX12_screens) := goodIn_app (goodIn_of _ (by decide +kernel)) ggX12_does_X12_screens
set_option maxRecDepth 20000 in
theorem ggX12_does_X12_sets : GoodIn wsX12_does wsX12_sets := goodIn_r _ [41, 14, 15, 42, 43, 12, 44, 16, 17, 18, 122, 123, 124, 125, 126, 127, 128, 129, 130, 131, 132, 133, 134, 135, 136, 137, 138, 139, 140, 141, 142, 143, 144] (by decide +kernel) (by decide +kernel)
set_option maxRecDepth 20000 in
theorem gX12_does_X12_sets : GoodIn wsX12_does (wsV RX12 175 RX12 yX12_sets wsX12_sets) := goodIn_app (goodIn_of _ (by decide +kernel)) ggX12_does_X12_sets
set_option maxRecDepth 20000 in
theorem ggX12_does_X12_clicks : GoodIn wsX12_does wsX12_clicks := goodIn_r _ [48, 14, 15, 49, 50, 51, 12, 52, 53, 31, 32, 33, 16, 17, 18, 54, 55, 56, 57, 58, 59, 60, 61, 62, 63, 64, 65, 66, 67, 68, 69, 70, 71, 72, 73, 74, 75, 76, 77, 78, 79, 80, 81, 82, 83, 84, 85, 86, 87, 88, 89, 90, 91, 92, 93, 94, 95, 96, 97, 98, 99, 100, 101, 102, 103, 104, 105, 106, 107, 108, 109, 110, 111, 112, 113, 23, 24, 25, 26, 114, 115, 116, 117, 122, 123, 124, 125, 126, 127, 128, 129, 130, 131, 132, 133, 134, 135, 136, 137, 138, 139, 140, 141, 142, 143, 144] (by decide +kernel) (by decide +kernel)
set_option maxRecDepth 20000 in
theorem gX12_does_X12_clicks : GoodIn wsX12_does (wsV RX12 178 RX12 yX12_clicks wsX12_clicks) := goodIn_app (goodIn_of _ (by decide +kernel)) ggX12_does_X12_clicks
set_option maxRecDepth 20000 in
theorem ggX12_does_X12_calibrates : GoodIn wsX12_does wsX12_calibrates := goodIn_r _ [121, 14, 15, 49, 50, 51, 12, 52, 53, 31, 32, 33, 16, 17, 18, 73, 74, 75, 76, 23, 24, 25, 26, 54, 55, 56, 57, 58, 59, 60, 61, 62, 63, 64, 65, 66, 67, 68, 69, 70, 71, 72, 77, 78, 79, 80, 81, 82, 83, 84, 85, 86, 87, 88, 89, 90, 91, 92, 93, 94, 95, 96, 97, 98, 99, 100, 101, 102, 103, 104, 105, 106, 107, 108, 109, 110, 111, 112, 113, 122, 123, 124, 125, 126, 127, 128, 129, 130, 131, 132, 133, 134, 135, 136, 137, 138, 139, 140, 141, 142, 143, 144] (by decide +kernel) (by decide +kernel)
set_option maxRecDepth 20000 in
theorem gX12_does_X12_calibrates : GoodIn wsX12_does (wsV RX12 181 RX12 yX12_calibrates wsX12_calibrates) := goodIn_app (goodIn_of _ (by decide +kernel)) ggX12_does_X12_calibrates
theorem dX12_does_0 : decode cX12_does 0 = .ok (.aload_n 0, 1) := by decide +kernel
theorem dX12_does_1 : decode cX12_does 1 = .ok (.getfield 46, 3) := by decide +kernel
theorem dX12_does_4 : decode cX12_does 4 = .ok (.iconst 0, 1) := by decide +kernel
theorem dX12_does_5 : decode cX12_does 5 = .ok (.iaload, 1) := by decide +kernel
theorem dX12_does_6 : decode cX12_does 6 = .ok (.istore_n 1, 1) := by decide +kernel
theorem dX12_does_7 : decode cX12_does 7 = .ok (.aload_n 0, 1) := by decide +kernel
theorem dX12_does_8 : decode cX12_does 8 = .ok (.getfield 46, 3) := by decide +kernel
theorem dX12_does_11 : decode cX12_does 11 = .ok (.iconst 1, 1) := by decide +kernel
theorem dX12_does_12 : decode cX12_does 12 = .ok (.iaload, 1) := by decide +kernel
theorem dX12_does_13 : decode cX12_does 13 = .ok (.istore_n 2, 1) := by decide +kernel
theorem dX12_does_14 : decode cX12_does 14 = .ok (.aload_n 0, 1) := by decide +kernel
theorem dX12_does_15 : decode cX12_does 15 = .ok (.getfield 46, 3) := by decide +kernel
theorem dX12_does_18 : decode cX12_does 18 = .ok (.iconst 2, 1) := by decide +kernel
theorem dX12_does_19 : decode cX12_does 19 = .ok (.iaload, 1) := by decide +kernel
theorem dX12_does_20 : decode cX12_does 20 = .ok (.istore_n 3, 1) := by decide +kernel
theorem dX12_does_21 : decode cX12_does 21 = .ok (.aload_n 0, 1) := by decide +kernel
theorem dX12_does_22 : decode cX12_does 22 = .ok (.getfield 258, 3) := by decide +kernel
theorem dX12_does_25 : decode cX12_does 25 = .ok (.ldc2_w 244, 3) := by decide +kernel
theorem dX12_does_28 : decode cX12_does 28 = .ok (.lcmp, 1) := by decide +kernel
theorem dX12_does_29 : decode cX12_does 29 = .ok (.ifCond .ne 10, 3) := by decide +kernel
theorem dX12_does_32 : decode cX12_does 32 = .ok (.aload_n 0, 1) := by decide +kernel
theorem dX12_does_33 : decode cX12_does 33 = .ok (.iload_n 1, 1) := by decide +kernel
theorem dX12_does_34 : decode cX12_does 34 = .ok (.iload_n 2, 1) := by decide +kernel
theorem dX12_does_35 : decode cX12_does 35 = .ok (.invokevirtual 150, 3) := by decide +kernel
theorem dX12_does_38 : decode cX12_does 38 = .ok (.ireturn, 1) := by decide +kernel
theorem dX12_does_39 : decode cX12_does 39 = .ok (.aload_n 0, 1) := by decide +kernel
theorem dX12_does_40 : decode cX12_does 40 = .ok (.getfield 258, 3) := by decide +kernel
theorem dX12_does_43 : decode cX12_does 43 = .ok (.ldc2_w 246, 3) := by decide +kernel
theorem dX12_does_46 : decode cX12_does 46 = .ok (.lcmp, 1) := by decide +kernel
theorem dX12_does_47 : decode cX12_does 47 = .ok (.ifCond .ne 10, 3) := by decide +kernel
theorem dX12_does_50 : decode cX12_does 50 = .ok (.aload_n 0, 1) := by decide +kernel
theorem dX12_does_51 : decode cX12_does 51 = .ok (.iload_n 1, 1) := by decide +kernel
theorem dX12_does_52 : decode cX12_does 52 = .ok (.iload_n 2, 1) := by decide +kernel
theorem dX12_does_53 : decode cX12_does 53 = .ok (.invokevirtual 156, 3) := by decide +kernel
theorem dX12_does_56 : decode cX12_does 56 = .ok (.ireturn, 1) := by decide +kernel
theorem dX12_does_57 : decode cX12_does 57 = .ok (.aload_n 0, 1) := by decide +kernel
theorem dX12_does_58 : decode cX12_does 58 = .ok (.getfield 258, 3) := by decide +kernel
theorem dX12_does_61 : decode cX12_does 61 = .ok (.ldc2_w 250, 3) := by decide +kernel
theorem dX12_does_64 : decode cX12_does 64 = .ok (.lcmp, 1) := by decide +kernel
theorem dX12_does_65 : decode cX12_does 65 = .ok (.ifCond .ne 11, 3) := by decide +kernel
theorem dX12_does_68 : decode cX12_does 68 = .ok (.aload_n 0, 1) := by decide +kernel
theorem dX12_does_69 : decode cX12_does 69 = .ok (.iload_n 1, 1) := by decide +kernel
theorem dX12_does_70 : decode cX12_does 70 = .ok (.iload_n 2, 1) := by decide +kernel
theorem dX12_does_71 : decode cX12_does 71 = .ok (.iload_n 3, 1) := by decide +kernel
theorem dX12_does_72 : decode cX12_does 72 = .ok (.invokevirtual 162, 3) := by decide +kernel
theorem dX12_does_75 : decode cX12_does 75 = .ok (.ireturn, 1) := by decide +kernel
theorem dX12_does_76 : decode cX12_does 76 = .ok (.aload_n 0, 1) := by decide +kernel
theorem dX12_does_77 : decode cX12_does 77 = .ok (.getfield 258, 3) := by decide +kernel
theorem dX12_does_80 : decode cX12_does 80 = .ok (.ldc2_w 256, 3) := by decide +kernel
theorem dX12_does_83 : decode cX12_does 83 = .ok (.lcmp, 1) := by decide +kernel
theorem dX12_does_84 : decode cX12_does 84 = .ok (.ifCond .ne 17, 3) := by decide +kernel
theorem dX12_does_87 : decode cX12_does 87 = .ok (.aload_n 0, 1) := by decide +kernel
theorem dX12_does_88 : decode cX12_does 88 = .ok (.iload_n 1, 1) := by decide +kernel
theorem dX12_does_89 : decode cX12_does 89 = .ok (.iload_n 2, 1) := by decide +kernel
theorem dX12_does_90 : decode cX12_does 90 = .ok (.iload_n 3, 1) := by decide +kernel
theorem dX12_does_91 : decode cX12_does 91 = .ok (.aload_n 0, 1) := by decide +kernel
theorem dX12_does_92 : decode cX12_does 92 = .ok (.getfield 46, 3) := by decide +kernel
theorem dX12_does_95 : decode cX12_does 95 = .ok (.iconst 3, 1) := by decide +kernel
theorem dX12_does_96 : decode cX12_does 96 = .ok (.iaload, 1) := by decide +kernel
theorem dX12_does_97 : decode cX12_does 97 = .ok (.invokevirtual 165, 3) := by decide +kernel
theorem dX12_does_100 : decode cX12_does 100 = .ok (.ireturn, 1) := by decide +kernel
theorem dX12_does_101 : decode cX12_does 101 = .ok (.aload_n 0, 1) := by decide +kernel
theorem dX12_does_102 : decode cX12_does 102 = .ok (.getfield 258, 3) := by decide +kernel
theorem dX12_does_105 : decode cX12_does 105 = .ok (.ldc2_w 248, 3) := by decide +kernel
theorem dX12_does_108 : decode cX12_does 108 = .ok (.lcmp, 1) := by decide +kernel
theorem dX12_does_109 : decode cX12_does 109 = .ok (.ifCond .ne 10, 3) := by decide +kernel
theorem dX12_does_112 : decode cX12_does 112 = .ok (.aload_n 0, 1) := by decide +kernel
theorem dX12_does_113 : decode cX12_does 113 = .ok (.iload_n 1, 1) := by decide +kernel
theorem dX12_does_114 : decode cX12_does 114 = .ok (.iload_n 2, 1) := by decide +kernel
theorem dX12_does_115 : decode cX12_does 115 = .ok (.invokevirtual 175, 3) := by decide +kernel
theorem dX12_does_118 : decode cX12_does 118 = .ok (.ireturn, 1) := by decide +kernel
theorem dX12_does_119 : decode cX12_does 119 = .ok (.aload_n 0, 1) := by decide +kernel
theorem dX12_does_120 : decode cX12_does 120 = .ok (.getfield 258, 3) := by decide +kernel
theorem dX12_does_123 : decode cX12_does 123 = .ok (.ldc2_w 252, 3) := by decide +kernel
theorem dX12_does_126 : decode cX12_does 126 = .ok (.lcmp, 1) := by decide +kernel
theorem dX12_does_127 : decode cX12_does 127 = .ok (.ifCond .ne 13, 3) := by decide +kernel
theorem dX12_does_130 : decode cX12_does 130 = .ok (.aload_n 0, 1) := by decide +kernel
theorem dX12_does_131 : decode cX12_does 131 = .ok (.iload_n 1, 1) := by decide +kernel
theorem dX12_does_132 : decode cX12_does 132 = .ok (.iload_n 2, 1) := by decide +kernel
theorem dX12_does_133 : decode cX12_does 133 = .ok (.iload_n 3, 1) := by decide +kernel
theorem dX12_does_134 : decode cX12_does 134 = .ok (.invokevirtual 178, 3) := by decide +kernel
theorem dX12_does_137 : decode cX12_does 137 = .ok (.goto 10, 3) := by decide +kernel
theorem dX12_does_140 : decode cX12_does 140 = .ok (.aload_n 0, 1) := by decide +kernel
theorem dX12_does_141 : decode cX12_does 141 = .ok (.iload_n 1, 1) := by decide +kernel
theorem dX12_does_142 : decode cX12_does 142 = .ok (.iload_n 2, 1) := by decide +kernel
theorem dX12_does_143 : decode cX12_does 143 = .ok (.iload_n 3, 1) := by decide +kernel
theorem dX12_does_144 : decode cX12_does 144 = .ok (.invokevirtual 181, 3) := by decide +kernel
theorem dX12_does_147 : decode cX12_does 147 = .ok (.ireturn, 1) := by decide +kernel
set_option maxRecDepth 20000 in
theorem ggX12_runCommands_X12_faultAt : GoodIn wsX12_runCommands wsX12_faultAt := goodIn_r _ [9, 3, 4, 1, 10, 11, 12, 8, 13, 14, 15, 16, 17, 18, 19, 20, 21, 22, 23, 24, 25, 26, 27, 28, 29, 30, 31, 32, 33, 34, 35, 36, 37, 38, 39, 40, 41, 42, 43, 44, 45, 174, 175, 176, 177, 178, 179, 180, 181, 182, 183, 184, 185, 186, 187, 188, 189, 190, 191, 192, 193, 194, 195, 196] (by decide +kernel) (by decide +kernel)
set_option maxRecDepth 20000 in
theorem gX12_runCommands_X12_faultAt : GoodIn wsX12_runCommands (wsV RX12 279 RX12 yX12_faultAt wsX12_faultAt) := goodIn_app (goodIn_of _ (by decide +kernel)) ggX12_runCommands_X12_faultAt
set_option maxRecDepth 20000 in
theorem ggX12_runCommands_X12_tells : GoodIn wsX12_runCommands wsX12_tells := goodIn_r _ [49, 50, 174, 175, 176, 177, 178, 179, 180, 181, 182, 183, 184, 185, 186, 187, 188, 189, 190, 191, 192, 193, 194, 195, 196] (by decide +kernel) (by decide +kernel)
set_option maxRecDepth 20000 in
theorem gX12_runCommands_X12_tells : GoodIn wsX12_runCommands (wsV RX12 56 RX12 yX12_tells wsX12_tells) := goodIn_app (goodIn_of _ (by decide +kernel)) ggX12_runCommands_X12_tells
set_option maxRecDepth 20000 in
theorem ggX12_runCommands_X12_hold : GoodIn wsX12_runCommands wsX12_hold := goodIn_r _ [54, 55, 56, 174, 175, 176, 177, 178, 179, 180, 181, 182, 183, 184, 185, 186, 187, 188, 189, 190, 191, 192, 193, 194, 195, 196] (by decide +kernel) (by decide +kernel)
set_option maxRecDepth 20000 in
theorem gX12_runCommands_X12_hold : GoodIn wsX12_runCommands (wsV RX12 147 RX12 yX12_hold wsX12_hold) := goodIn_app (goodIn_of _ (by decide +kernel)) ggX12_runCommands_X12_hold
set_option maxRecDepth 20000 in
theorem ggX12_runCommands_X12_skips : GoodIn wsX12_runCommands wsX12_skips := goodIn_r _ [13, 3, 14, 15, 16, 8, 17, 4, 18, 19, 20, 21, 174, 175, 176, 177, 178, 179, 180, 181, 182, 183, 184, 185, 186, 187, 188, 189, 190, 191, 192, 193, 194, 195, 196] (by decide +kernel) (by decide +kernel)
set_option maxRecDepth 20000 in
theorem gX12_runCommands_X12_skips : GoodIn wsX12_runCommands (wsV RX12 266 RX12 yX12_skips wsX12_skips) := goodIn_app (goodIn_of _ (by decide +kernel)) ggX12_runCommands_X12_skips
set_option maxRecDepth 20000 in
theorem ggX12_runCommands_X12_isCommand : GoodIn wsX12_runCommands wsX12_isCommand := goodIn_r _ [25, 26, 3, 27, 28, 29, 8, 30, 18, 1, 14, 15, 16, 17, 4, 19, 20, 21, 31, 32, 33, 34, 35, 36, 37, 38, 39, 40, 41, 42, 43, 44, 45, 10, 11, 12, 13, 174, 175, 176, 177, 178, 179, 180, 181, 182, 183, 184, 185, 186, 187, 188, 189, 190, 191, 192, 193, 194, 195, 196] (by decide +kernel) (by decide +kernel)
set_option maxRecDepth 20000 in
theorem gX12_runCommands_X12_isCommand : GoodIn wsX12_runCommands (wsV RX12 276 RX12 yX12_isCommand wsX12_isCommand) := goodIn_app (goodIn_of _ (by decide +kernel)) ggX12_runCommands_X12_isCommand
set_option maxRecDepth 20000 in
theorem ggX12_runCommands_X12_does : GoodIn wsX12_runCommands wsX12_does := goodIn_r _ [60, 45, 26, 34, 35, 37, 40, 36, 38, 61, 62, 63, 8, 64, 56, 65, 19, 20, 21, 66, 67, 68, 69, 70, 71, 72, 73, 74, 75, 76, 77, 78, 79, 80, 81, 82, 83, 84, 85, 86, 87, 88, 89, 90, 91, 92, 93, 94, 95, 96, 97, 98, 99, 100, 101, 102, 103, 104, 1, 105, 106, 107, 108, 109, 110, 111, 112, 113, 114, 115, 116, 117, 118, 119, 120, 121, 122, 123, 124, 125, 126, 127, 128, 129, 130, 131, 132, 133, 134, 135, 136, 137, 138, 139, 140, 141, 142, 143, 144, 145, 146, 147, 148, 149, 150, 151, 152, 153, 154, 155, 156, 157, 158, 159, 160, 161, 162, 163, 164, 165, 166, 167, 174, 175, 176, 177, 178, 179, 180, 181, 182, 183, 184, 185, 186, 187, 188, 189, 190, 191, 192, 193, 194, 195, 196] (by decide +kernel) (by decide +kernel)
set_option maxRecDepth 20000 in
theorem gX12_runCommands_X12_does : GoodIn wsX12_runCommands (wsV RX12 285 RX12 yX12_does wsX12_does) := goodIn_app (goodIn_of _ (by decide +kernel)) ggX12_runCommands_X12_does
set_option maxRecDepth 20000 in
theorem ggX12_runCommands_X12_ends : GoodIn wsX12_runCommands wsX12_ends := goodIn_r _ [171, 172, 173, 55, 46, 47, 48, 8, 49, 50, 174, 175, 176, 177, 178, 179, 180, 181, 182, 183, 184, 185, 186, 187, 188, 189, 190, 191, 192, 193, 194, 195, 196] (by decide +kernel) (by decide +kernel)
set_option maxRecDepth 20000 in
theorem gX12_runCommands_X12_ends : GoodIn wsX12_runCommands (wsV RX12 144 RX12 yX12_ends wsX12_ends) := goodIn_app (goodIn_of _ (by decide +kernel)) ggX12_runCommands_X12_ends
theorem dX12_runCommands_0 : decode cX12_runCommands 0 = .ok (.aload_n 0, 1) := by decide +kernel
theorem dX12_runCommands_1 : decode cX12_runCommands 1 = .ok (.invokevirtual 279, 3) := by decide +kernel
theorem dX12_runCommands_4 : decode cX12_runCommands 4 = .ok (.istore_n 1, 1) := by decide +kernel
theorem dX12_runCommands_5 : decode cX12_runCommands 5 = .ok (.iload_n 1, 1) := by decide +kernel
theorem dX12_runCommands_6 : decode cX12_runCommands 6 = .ok (.ldc 71, 2) := by decide +kernel
theorem dX12_runCommands_8 : decode cX12_runCommands 8 = .ok (.if_icmp .eq 12, 3) := by decide +kernel
theorem dX12_runCommands_11 : decode cX12_runCommands 11 = .ok (.aload_n 0, 1) := by decide +kernel
theorem dX12_runCommands_12 : decode cX12_runCommands 12 = .ok (.bipush (-10), 2) := by decide +kernel
theorem dX12_runCommands_14 : decode cX12_runCommands 14 = .ok (.iload_n 1, 1) := by decide +kernel
theorem dX12_runCommands_15 : decode cX12_runCommands 15 = .ok (.isub, 1) := by decide +kernel
theorem dX12_runCommands_16 : decode cX12_runCommands 16 = .ok (.invokevirtual 56, 3) := by decide +kernel
theorem dX12_runCommands_19 : decode cX12_runCommands 19 = .ok (.ireturn, 1) := by decide +kernel
theorem dX12_runCommands_20 : decode cX12_runCommands 20 = .ok (.aload_n 0, 1) := by decide +kernel
theorem dX12_runCommands_21 : decode cX12_runCommands 21 = .ok (.invokevirtual 147, 3) := by decide +kernel
theorem dX12_runCommands_24 : decode cX12_runCommands 24 = .ok (.aload_n 0, 1) := by decide +kernel
theorem dX12_runCommands_25 : decode cX12_runCommands 25 = .ok (.iconst 0, 1) := by decide +kernel
theorem dX12_runCommands_26 : decode cX12_runCommands 26 = .ok (.putfield 282, 3) := by decide +kernel
theorem dX12_runCommands_29 : decode cX12_runCommands 29 = .ok (.aload_n 0, 1) := by decide +kernel
theorem dX12_runCommands_30 : decode cX12_runCommands 30 = .ok (.iconst 0, 1) := by decide +kernel
theorem dX12_runCommands_31 : decode cX12_runCommands 31 = .ok (.putfield 238, 3) := by decide +kernel
theorem dX12_runCommands_34 : decode cX12_runCommands 34 = .ok (.aload_n 0, 1) := by decide +kernel
theorem dX12_runCommands_35 : decode cX12_runCommands 35 = .ok (.invokevirtual 266, 3) := by decide +kernel
theorem dX12_runCommands_38 : decode cX12_runCommands 38 = .ok (.iconst 0, 1) := by decide +kernel
theorem dX12_runCommands_39 : decode cX12_runCommands 39 = .ok (.istore_n 2, 1) := by decide +kernel
theorem dX12_runCommands_40 : decode cX12_runCommands 40 = .ok (.aload_n 0, 1) := by decide +kernel
theorem dX12_runCommands_41 : decode cX12_runCommands 41 = .ok (.getfield 238, 3) := by decide +kernel
theorem dX12_runCommands_44 : decode cX12_runCommands 44 = .ok (.aload_n 0, 1) := by decide +kernel
theorem dX12_runCommands_45 : decode cX12_runCommands 45 = .ok (.getfield 235, 3) := by decide +kernel
theorem dX12_runCommands_48 : decode cX12_runCommands 48 = .ok (.if_icmp .ge 47, 3) := by decide +kernel
theorem dX12_runCommands_51 : decode cX12_runCommands 51 = .ok (.aload_n 0, 1) := by decide +kernel
theorem dX12_runCommands_52 : decode cX12_runCommands 52 = .ok (.getfield 282, 3) := by decide +kernel
theorem dX12_runCommands_55 : decode cX12_runCommands 55 = .ok (.ifCond .ne 40, 3) := by decide +kernel
theorem dX12_runCommands_58 : decode cX12_runCommands 58 = .ok (.aload_n 0, 1) := by decide +kernel
theorem dX12_runCommands_59 : decode cX12_runCommands 59 = .ok (.aload_n 0, 1) := by decide +kernel
theorem dX12_runCommands_60 : decode cX12_runCommands 60 = .ok (.invokevirtual 276, 3) := by decide +kernel
theorem dX12_runCommands_63 : decode cX12_runCommands 63 = .ok (.ifCond .eq 10, 3) := by decide +kernel
theorem dX12_runCommands_66 : decode cX12_runCommands 66 = .ok (.aload_n 0, 1) := by decide +kernel
theorem dX12_runCommands_67 : decode cX12_runCommands 67 = .ok (.invokevirtual 285, 3) := by decide +kernel
theorem dX12_runCommands_70 : decode cX12_runCommands 70 = .ok (.goto 4, 3) := by decide +kernel
theorem dX12_runCommands_73 : decode cX12_runCommands 73 = .ok (.iconst 0, 1) := by decide +kernel
theorem dX12_runCommands_74 : decode cX12_runCommands 74 = .ok (.putfield 282, 3) := by decide +kernel
theorem dX12_runCommands_77 : decode cX12_runCommands 77 = .ok (.iload_n 2, 1) := by decide +kernel
theorem dX12_runCommands_78 : decode cX12_runCommands 78 = .ok (.aload_n 0, 1) := by decide +kernel
theorem dX12_runCommands_79 : decode cX12_runCommands 79 = .ok (.getfield 282, 3) := by decide +kernel
theorem dX12_runCommands_82 : decode cX12_runCommands 82 = .ok (.ifCond .ne 7, 3) := by decide +kernel
theorem dX12_runCommands_85 : decode cX12_runCommands 85 = .ok (.iconst 1, 1) := by decide +kernel
theorem dX12_runCommands_86 : decode cX12_runCommands 86 = .ok (.goto 4, 3) := by decide +kernel
theorem dX12_runCommands_89 : decode cX12_runCommands 89 = .ok (.iconst 0, 1) := by decide +kernel
theorem dX12_runCommands_90 : decode cX12_runCommands 90 = .ok (.iadd, 1) := by decide +kernel
theorem dX12_runCommands_91 : decode cX12_runCommands 91 = .ok (.istore_n 2, 1) := by decide +kernel
theorem dX12_runCommands_92 : decode cX12_runCommands 92 = .ok (.goto (-52), 3) := by decide +kernel
theorem dX12_runCommands_95 : decode cX12_runCommands 95 = .ok (.aload_n 0, 1) := by decide +kernel
theorem dX12_runCommands_96 : decode cX12_runCommands 96 = .ok (.iload_n 2, 1) := by decide +kernel
theorem dX12_runCommands_97 : decode cX12_runCommands 97 = .ok (.invokevirtual 144, 3) := by decide +kernel
theorem dX12_runCommands_100 : decode cX12_runCommands 100 = .ok (.ireturn, 1) := by decide +kernel
set_option maxRecDepth 20000 in
theorem ggX12_stop_X12_tells : GoodIn wsX12_stop wsX12_tells := goodIn_r _ [6, 7, 8, 9, 10, 11, 12, 13, 14, 15, 16, 17, 18, 19, 20, 21, 22, 23, 24, 25, 26, 27, 28, 29, 30] (by decide +kernel) (by decide +kernel)
set_option maxRecDepth 20000 in
theorem gX12_stop_X12_tells : GoodIn wsX12_stop (wsV RX12 56 RX12 yX12_tells wsX12_tells) := goodIn_app (goodIn_of _ (by decide +kernel)) ggX12_stop_X12_tells
theorem dX12_stop_0 : decode cX12_stop 0 = .ok (.aload_n 0, 1) := by decide +kernel
theorem dX12_stop_1 : decode cX12_stop 1 = .ok (.aload_n 0, 1) := by decide +kernel
theorem dX12_stop_2 : decode cX12_stop 2 = .ok (.getfield 282, 3) := by decide +kernel
theorem dX12_stop_5 : decode cX12_stop 5 = .ok (.invokevirtual 56, 3) := by decide +kernel
theorem dX12_stop_8 : decode cX12_stop 8 = .ok (.ireturn, 1) := by decide +kernel
set_option maxRecDepth 20000 in
theorem ggX12_undo_X12_fails : GoodIn wsX12_undo wsX12_fails := goodIn_r _ [8, 9, 14, 15, 16, 17, 18, 19, 20, 21, 22, 23, 24, 25, 26, 27, 28, 29, 30, 31, 32, 33, 34, 35, 36] (by decide +kernel) (by decide +kernel)
set_option maxRecDepth 20000 in
theorem gX12_undo_X12_fails : GoodIn wsX12_undo (wsV RX12 141 RX12 yX12_fails wsX12_fails) := goodIn_app (goodIn_of _ (by decide +kernel)) ggX12_undo_X12_fails
set_option maxRecDepth 20000 in
theorem ggX12_undo_X12_tells : GoodIn wsX12_undo wsX12_tells := goodIn_r _ [13, 9, 14, 15, 16, 17, 18, 19, 20, 21, 22, 23, 24, 25, 26, 27, 28, 29, 30, 31, 32, 33, 34, 35, 36] (by decide +kernel) (by decide +kernel)
set_option maxRecDepth 20000 in
theorem gX12_undo_X12_tells : GoodIn wsX12_undo (wsV RX12 56 RX12 yX12_tells wsX12_tells) := goodIn_app (goodIn_of _ (by decide +kernel)) ggX12_undo_X12_tells
theorem dX12_undo_0 : decode cX12_undo 0 = .ok (.aload_n 0, 1) := by decide +kernel
theorem dX12_undo_1 : decode cX12_undo 1 = .ok (.getfield 53, 3) := by decide +kernel
theorem dX12_undo_4 : decode cX12_undo 4 = .ok (.ifCond .ne 9, 3) := by decide +kernel
theorem dX12_undo_7 : decode cX12_undo 7 = .ok (.aload_n 0, 1) := by decide +kernel
theorem dX12_undo_8 : decode cX12_undo 8 = .ok (.iconst 1, 1) := by decide +kernel
theorem dX12_undo_9 : decode cX12_undo 9 = .ok (.invokevirtual 141, 3) := by decide +kernel
theorem dX12_undo_12 : decode cX12_undo 12 = .ok (.ireturn, 1) := by decide +kernel
theorem dX12_undo_13 : decode cX12_undo 13 = .ok (.aload_n 0, 1) := by decide +kernel
theorem dX12_undo_14 : decode cX12_undo 14 = .ok (.dup, 1) := by decide +kernel
theorem dX12_undo_15 : decode cX12_undo 15 = .ok (.getfield 53, 3) := by decide +kernel
theorem dX12_undo_18 : decode cX12_undo 18 = .ok (.iconst 1, 1) := by decide +kernel
theorem dX12_undo_19 : decode cX12_undo 19 = .ok (.isub, 1) := by decide +kernel
theorem dX12_undo_20 : decode cX12_undo 20 = .ok (.putfield 53, 3) := by decide +kernel
theorem dX12_undo_23 : decode cX12_undo 23 = .ok (.iconst 0, 1) := by decide +kernel
theorem dX12_undo_24 : decode cX12_undo 24 = .ok (.istore_n 1, 1) := by decide +kernel
theorem dX12_undo_25 : decode cX12_undo 25 = .ok (.iload_n 1, 1) := by decide +kernel
theorem dX12_undo_26 : decode cX12_undo 26 = .ok (.bipush 122, 2) := by decide +kernel
theorem dX12_undo_28 : decode cX12_undo 28 = .ok (.if_icmp .ge 29, 3) := by decide +kernel
theorem dX12_undo_31 : decode cX12_undo 31 = .ok (.aload_n 0, 1) := by decide +kernel
theorem dX12_undo_32 : decode cX12_undo 32 = .ok (.getfield 7, 3) := by decide +kernel
theorem dX12_undo_35 : decode cX12_undo 35 = .ok (.iload_n 1, 1) := by decide +kernel
theorem dX12_undo_36 : decode cX12_undo 36 = .ok (.aload_n 0, 1) := by decide +kernel
theorem dX12_undo_37 : decode cX12_undo 37 = .ok (.getfield 13, 3) := by decide +kernel
theorem dX12_undo_40 : decode cX12_undo 40 = .ok (.bipush 122, 2) := by decide +kernel
theorem dX12_undo_42 : decode cX12_undo 42 = .ok (.aload_n 0, 1) := by decide +kernel
theorem dX12_undo_43 : decode cX12_undo 43 = .ok (.getfield 53, 3) := by decide +kernel
theorem dX12_undo_46 : decode cX12_undo 46 = .ok (.imul, 1) := by decide +kernel
theorem dX12_undo_47 : decode cX12_undo 47 = .ok (.iload_n 1, 1) := by decide +kernel
theorem dX12_undo_48 : decode cX12_undo 48 = .ok (.iadd, 1) := by decide +kernel
theorem dX12_undo_49 : decode cX12_undo 49 = .ok (.iaload, 1) := by decide +kernel
theorem dX12_undo_50 : decode cX12_undo 50 = .ok (.iastore, 1) := by decide +kernel
theorem dX12_undo_51 : decode cX12_undo 51 = .ok (.iinc 1 1, 3) := by decide +kernel
theorem dX12_undo_54 : decode cX12_undo 54 = .ok (.goto (-29), 3) := by decide +kernel
theorem dX12_undo_57 : decode cX12_undo 57 = .ok (.aload_n 0, 1) := by decide +kernel
theorem dX12_undo_58 : decode cX12_undo 58 = .ok (.aload_n 0, 1) := by decide +kernel
theorem dX12_undo_59 : decode cX12_undo 59 = .ok (.getfield 53, 3) := by decide +kernel
theorem dX12_undo_62 : decode cX12_undo 62 = .ok (.invokevirtual 56, 3) := by decide +kernel
theorem dX12_undo_65 : decode cX12_undo 65 = .ok (.ireturn, 1) := by decide +kernel
theorem dX12_mix_0 : decode cX12_mix 0 = .ok (.aload_n 0, 1) := by decide +kernel
theorem dX12_mix_1 : decode cX12_mix 1 = .ok (.ldc2_w 288, 3) := by decide +kernel
theorem dX12_mix_4 : decode cX12_mix 4 = .ok (.aload_n 0, 1) := by decide +kernel
theorem dX12_mix_5 : decode cX12_mix 5 = .ok (.getfield 290, 3) := by decide +kernel
theorem dX12_mix_8 : decode cX12_mix 8 = .ok (.lmul, 1) := by decide +kernel
theorem dX12_mix_9 : decode cX12_mix 9 = .ok (.iload_n 1, 1) := by decide +kernel
theorem dX12_mix_10 : decode cX12_mix 10 = .ok (.i2l, 1) := by decide +kernel
theorem dX12_mix_11 : decode cX12_mix 11 = .ok (.ladd, 1) := by decide +kernel
theorem dX12_mix_12 : decode cX12_mix 12 = .ok (.putfield 290, 3) := by decide +kernel
theorem dX12_mix_15 : decode cX12_mix 15 = .ok (.return_, 1) := by decide +kernel
set_option maxRecDepth 20000 in
theorem ggX12_mixMicrophone_X12_partOf : GoodIn wsX12_mixMicrophone wsX12_partOf := goodIn_r _ [5, 6, 7, 8, 4, 9, 10, 11, 12, 58, 59, 60, 61, 62, 63, 64, 65, 66, 67, 68, 69, 70, 71, 72, 73, 74, 75, 76, 77, 78, 79, 80] (by decide +kernel) (by decide +kernel)
set_option maxRecDepth 20000 in
theorem gX12_mixMicrophone_X12_partOf : GoodIn wsX12_mixMicrophone (wsV RX12 232 RX12 yX12_partOf wsX12_partOf) := goodIn_app (goodIn_of _ (by decide +kernel)) ggX12_mixMicrophone_X12_partOf
set_option maxRecDepth 20000 in
theorem ggX12_mixMicrophone_X12_mix : GoodIn wsX12_mixMicrophone wsX12_mix := goodIn_r _ [16, 17, 18, 58, 59, 60, 61, 62, 63, 64, 65, 66, 67, 68, 69, 70, 71, 72, 73, 74, 75, 76, 77, 78, 79, 80] (by decide +kernel) (by decide +kernel)
set_option maxRecDepth 20000 in
theorem gX12_mixMicrophone_X12_mix : GoodIn wsX12_mixMicrophone (wsV RX12 293 RX12 yX12_mix wsX12_mix) := goodIn_app (goodIn_of _ (by decide +kernel)) ggX12_mixMicrophone_X12_mix
set_option maxRecDepth 20000 in
theorem ggX12_mixMicrophone_X12_noteOf : GoodIn wsX12_mixMicrophone wsX12_noteOf := goodIn_r _ [22, 23, 24, 25, 26, 4, 27, 6, 58, 59, 60, 61, 62, 63, 64, 65, 66, 67, 68, 69, 70, 71, 72, 73, 74, 75, 76, 77, 78, 79, 80] (by decide +kernel) (by decide +kernel)
set_option maxRecDepth 20000 in
theorem gX12_mixMicrophone_X12_noteOf : GoodIn wsX12_mixMicrophone (wsV RX12 184 RX12 yX12_noteOf wsX12_noteOf) := goodIn_app (goodIn_of _ (by decide +kernel)) ggX12_mixMicrophone_X12_noteOf
set_option maxRecDepth 20000 in
theorem ggX12_mixMicrophone_X12_heardOf : GoodIn wsX12_mixMicrophone wsX12_heardOf := goodIn_r _ [31, 23, 24, 25, 26, 4, 27, 6, 58, 59, 60, 61, 62, 63, 64, 65, 66, 67, 68, 69, 70, 71, 72, 73, 74, 75, 76, 77, 78, 79, 80] (by decide +kernel) (by decide +kernel)
set_option maxRecDepth 20000 in
theorem gX12_mixMicrophone_X12_heardOf : GoodIn wsX12_mixMicrophone (wsV RX12 187 RX12 yX12_heardOf wsX12_heardOf) := goodIn_app (goodIn_of _ (by decide +kernel)) ggX12_mixMicrophone_X12_heardOf
set_option maxRecDepth 20000 in
theorem ggX12_mixMicrophone_X12_blameOf : GoodIn wsX12_mixMicrophone wsX12_blameOf := goodIn_r _ [35, 23, 6, 36, 37, 38, 4, 39, 24, 25, 26, 27, 40, 41, 42, 43, 44, 45, 46, 47, 48, 49, 50, 51, 52, 53, 54, 55, 56, 57, 58, 59, 60, 61, 62, 63, 64, 65, 66, 67, 68, 69, 70, 71, 72, 73, 74, 75, 76, 77, 78, 79, 80] (by decide +kernel) (by decide +kernel)
set_option maxRecDepth 20000 in
theorem gX12_mixMicrophone_X12_blameOf : GoodIn wsX12_mixMicrophone (wsV RX12 220 RX12 yX12_blameOf wsX12_blameOf) := goodIn_app (goodIn_of _ (by decide +kernel)) ggX12_mixMicrophone_X12_blameOf
theorem dX12_mixMicrophone_0 : decode cX12_mixMicrophone 0 = .ok (.iconst 0, 1) := by decide +kernel
theorem dX12_mixMicrophone_1 : decode cX12_mixMicrophone 1 = .ok (.istore_n 3, 1) := by decide +kernel
theorem dX12_mixMicrophone_2 : decode cX12_mixMicrophone 2 = .ok (.iload_n 3, 1) := by decide +kernel
theorem dX12_mixMicrophone_3 : decode cX12_mixMicrophone 3 = .ok (.iconst 4, 1) := by decide +kernel
theorem dX12_mixMicrophone_4 : decode cX12_mixMicrophone 4 = .ok (.if_icmp .ge 20, 3) := by decide +kernel
theorem dX12_mixMicrophone_7 : decode cX12_mixMicrophone 7 = .ok (.aload_n 0, 1) := by decide +kernel
theorem dX12_mixMicrophone_8 : decode cX12_mixMicrophone 8 = .ok (.aload_n 0, 1) := by decide +kernel
theorem dX12_mixMicrophone_9 : decode cX12_mixMicrophone 9 = .ok (.iconst 0, 1) := by decide +kernel
theorem dX12_mixMicrophone_10 : decode cX12_mixMicrophone 10 = .ok (.iload_n 1, 1) := by decide +kernel
theorem dX12_mixMicrophone_11 : decode cX12_mixMicrophone 11 = .ok (.iload_n 3, 1) := by decide +kernel
theorem dX12_mixMicrophone_12 : decode cX12_mixMicrophone 12 = .ok (.invokevirtual 232, 3) := by decide +kernel
theorem dX12_mixMicrophone_15 : decode cX12_mixMicrophone 15 = .ok (.invokevirtual 293, 3) := by decide +kernel
theorem dX12_mixMicrophone_18 : decode cX12_mixMicrophone 18 = .ok (.iinc 3 1, 3) := by decide +kernel
theorem dX12_mixMicrophone_21 : decode cX12_mixMicrophone 21 = .ok (.goto (-19), 3) := by decide +kernel
theorem dX12_mixMicrophone_24 : decode cX12_mixMicrophone 24 = .ok (.aload_n 0, 1) := by decide +kernel
theorem dX12_mixMicrophone_25 : decode cX12_mixMicrophone 25 = .ok (.aload_n 0, 1) := by decide +kernel
theorem dX12_mixMicrophone_26 : decode cX12_mixMicrophone 26 = .ok (.iload_n 1, 1) := by decide +kernel
theorem dX12_mixMicrophone_27 : decode cX12_mixMicrophone 27 = .ok (.invokevirtual 184, 3) := by decide +kernel
theorem dX12_mixMicrophone_30 : decode cX12_mixMicrophone 30 = .ok (.invokevirtual 293, 3) := by decide +kernel
theorem dX12_mixMicrophone_33 : decode cX12_mixMicrophone 33 = .ok (.iconst 0, 1) := by decide +kernel
theorem dX12_mixMicrophone_34 : decode cX12_mixMicrophone 34 = .ok (.istore_n 3, 1) := by decide +kernel
theorem dX12_mixMicrophone_35 : decode cX12_mixMicrophone 35 = .ok (.iload_n 3, 1) := by decide +kernel
theorem dX12_mixMicrophone_36 : decode cX12_mixMicrophone 36 = .ok (.iconst 4, 1) := by decide +kernel
theorem dX12_mixMicrophone_37 : decode cX12_mixMicrophone 37 = .ok (.if_icmp .ge 19, 3) := by decide +kernel
theorem dX12_mixMicrophone_40 : decode cX12_mixMicrophone 40 = .ok (.aload_n 0, 1) := by decide +kernel
theorem dX12_mixMicrophone_41 : decode cX12_mixMicrophone 41 = .ok (.aload_n 0, 1) := by decide +kernel
theorem dX12_mixMicrophone_42 : decode cX12_mixMicrophone 42 = .ok (.iload_n 1, 1) := by decide +kernel
theorem dX12_mixMicrophone_43 : decode cX12_mixMicrophone 43 = .ok (.iload_n 3, 1) := by decide +kernel
theorem dX12_mixMicrophone_44 : decode cX12_mixMicrophone 44 = .ok (.invokevirtual 187, 3) := by decide +kernel
theorem dX12_mixMicrophone_47 : decode cX12_mixMicrophone 47 = .ok (.invokevirtual 293, 3) := by decide +kernel
theorem dX12_mixMicrophone_50 : decode cX12_mixMicrophone 50 = .ok (.iinc 3 1, 3) := by decide +kernel
theorem dX12_mixMicrophone_53 : decode cX12_mixMicrophone 53 = .ok (.goto (-18), 3) := by decide +kernel
theorem dX12_mixMicrophone_56 : decode cX12_mixMicrophone 56 = .ok (.aload_n 0, 1) := by decide +kernel
theorem dX12_mixMicrophone_57 : decode cX12_mixMicrophone 57 = .ok (.aload_n 0, 1) := by decide +kernel
theorem dX12_mixMicrophone_58 : decode cX12_mixMicrophone 58 = .ok (.iload_n 1, 1) := by decide +kernel
theorem dX12_mixMicrophone_59 : decode cX12_mixMicrophone 59 = .ok (.iload_n 2, 1) := by decide +kernel
theorem dX12_mixMicrophone_60 : decode cX12_mixMicrophone 60 = .ok (.invokevirtual 220, 3) := by decide +kernel
theorem dX12_mixMicrophone_63 : decode cX12_mixMicrophone 63 = .ok (.invokevirtual 293, 3) := by decide +kernel
theorem dX12_mixMicrophone_66 : decode cX12_mixMicrophone 66 = .ok (.return_, 1) := by decide +kernel
set_option maxRecDepth 20000 in
theorem ggX12_digest_X12_finds : GoodIn wsX12_digest wsX12_finds := goodIn_r _ [15, 2, 8, 9, 10, 16, 17, 18, 19, 14, 20, 21, 22, 23, 24, 25, 26, 27, 28, 29, 30, 31, 32, 33, 34, 35, 36, 37, 38, 39, 40, 41, 42, 43, 44, 45, 46, 47, 95, 96, 97, 98, 99, 100, 101, 102, 103, 104, 105, 106, 107, 108, 109, 110, 111, 112, 113, 114, 115, 116, 117] (by decide +kernel) (by decide +kernel)
set_option maxRecDepth 20000 in
theorem gX12_digest_X12_finds : GoodIn wsX12_digest (wsV RX12 212 RX12 yX12_finds wsX12_finds) := goodIn_app (goodIn_of _ (by decide +kernel)) ggX12_digest_X12_finds
set_option maxRecDepth 20000 in
theorem ggX12_digest_X12_mix : GoodIn wsX12_digest wsX12_mix := goodIn_r _ [51, 52, 4, 95, 96, 97, 98, 99, 100, 101, 102, 103, 104, 105, 106, 107, 108, 109, 110, 111, 112, 113, 114, 115, 116, 117] (by decide +kernel) (by decide +kernel)
set_option maxRecDepth 20000 in
theorem gX12_digest_X12_mix : GoodIn wsX12_digest (wsV RX12 293 RX12 yX12_mix wsX12_mix) := goodIn_app (goodIn_of _ (by decide +kernel)) ggX12_digest_X12_mix
set_option maxRecDepth 20000 in
theorem ggX12_digest_X12_wholeOf : GoodIn wsX12_digest wsX12_wholeOf := goodIn_r _ [56, 16, 2, 9, 8, 57, 58, 59, 14, 60, 30, 31, 32, 33, 61, 62, 63, 64, 95, 96, 97, 98, 99, 100, 101, 102, 103, 104, 105, 106, 107, 108, 109, 110, 111, 112, 113, 114, 115, 116, 117] (by decide +kernel) (by decide +kernel)
set_option maxRecDepth 20000 in
theorem gX12_digest_X12_wholeOf : GoodIn wsX12_digest (wsV RX12 226 RX12 yX12_wholeOf wsX12_wholeOf) := goodIn_app (goodIn_of _ (by decide +kernel)) ggX12_digest_X12_wholeOf
set_option maxRecDepth 20000 in
theorem ggX12_digest_X12_mixMicrophone : GoodIn wsX12_digest wsX12_mixMicrophone := goodIn_r _ [68, 69, 70, 71, 14, 72, 8, 73, 74, 75, 76, 77, 78, 48, 49, 50, 51, 52, 4, 79, 80, 81, 82, 2, 30, 31, 32, 33, 83, 84, 85, 86, 87, 88, 89, 90, 41, 42, 43, 44, 22, 23, 24, 25, 26, 27, 28, 29, 34, 35, 36, 37, 38, 39, 40, 45, 46, 47, 95, 96, 97, 98, 99, 100, 101, 102, 103, 104, 105, 106, 107, 108, 109, 110, 111, 112, 113, 114, 115, 116, 117] (by decide +kernel) (by decide +kernel)
set_option maxRecDepth 20000 in
theorem gX12_digest_X12_mixMicrophone : GoodIn wsX12_digest (wsV RX12 299 RX12 yX12_mixMicrophone wsX12_mixMicrophone) := goodIn_app (goodIn_of _ (by decide +kernel)) ggX12_digest_X12_mixMicrophone
set_option maxRecDepth 20000 in
theorem ggX12_digest_X12_partOf : GoodIn wsX12_digest wsX12_partOf := goodIn_r _ [72, 8, 73, 74, 14, 75, 76, 77, 78, 95, 96, 97, 98, 99, 100, 101, 102, 103, 104, 105, 106, 107, 108, 109, 110, 111, 112, 113, 114, 115, 116, 117] (by decide +kernel) (by decide +kernel)
set_option maxRecDepth 20000 in
theorem gX12_digest_X12_partOf : GoodIn wsX12_digest (wsV RX12 232 RX12 yX12_partOf wsX12_partOf) := goodIn_app (goodIn_of _ (by decide +kernel)) ggX12_digest_X12_partOf
set_option maxRecDepth 20000 in
theorem ggX12_digest_X12_suspectBy : GoodIn wsX12_digest wsX12_suspectBy := goodIn_r _ [94, 2, 8, 87, 88, 89, 14, 90, 41, 42, 43, 44, 30, 31, 32, 33, 22, 23, 24, 25, 26, 27, 28, 29, 34, 35, 36, 37, 38, 39, 40, 45, 46, 47, 95, 96, 97, 98, 99, 100, 101, 102, 103, 104, 105, 106, 107, 108, 109, 110, 111, 112, 113, 114, 115, 116, 117] (by decide +kernel) (by decide +kernel)
set_option maxRecDepth 20000 in
theorem gX12_digest_X12_suspectBy : GoodIn wsX12_digest (wsV RX12 223 RX12 yX12_suspectBy wsX12_suspectBy) := goodIn_app (goodIn_of _ (by decide +kernel)) ggX12_digest_X12_suspectBy
theorem dX12_digest_0 : decode cX12_digest 0 = .ok (.aload_n 0, 1) := by decide +kernel
theorem dX12_digest_1 : decode cX12_digest 1 = .ok (.iconst 0, 1) := by decide +kernel
theorem dX12_digest_2 : decode cX12_digest 2 = .ok (.putfield 49, 3) := by decide +kernel
theorem dX12_digest_5 : decode cX12_digest 5 = .ok (.aload_n 0, 1) := by decide +kernel
theorem dX12_digest_6 : decode cX12_digest 6 = .ok (.ldc 71, 2) := by decide +kernel
theorem dX12_digest_8 : decode cX12_digest 8 = .ok (.invokevirtual 212, 3) := by decide +kernel
theorem dX12_digest_11 : decode cX12_digest 11 = .ok (.istore_n 1, 1) := by decide +kernel
theorem dX12_digest_12 : decode cX12_digest 12 = .ok (.aload_n 0, 1) := by decide +kernel
theorem dX12_digest_13 : decode cX12_digest 13 = .ok (.ldc2_w 297, 3) := by decide +kernel
theorem dX12_digest_16 : decode cX12_digest 16 = .ok (.putfield 290, 3) := by decide +kernel
theorem dX12_digest_19 : decode cX12_digest 19 = .ok (.aload_n 0, 1) := by decide +kernel
theorem dX12_digest_20 : decode cX12_digest 20 = .ok (.aload_n 0, 1) := by decide +kernel
theorem dX12_digest_21 : decode cX12_digest 21 = .ok (.getfield 53, 3) := by decide +kernel
theorem dX12_digest_24 : decode cX12_digest 24 = .ok (.invokevirtual 293, 3) := by decide +kernel
theorem dX12_digest_27 : decode cX12_digest 27 = .ok (.aload_n 0, 1) := by decide +kernel
theorem dX12_digest_28 : decode cX12_digest 28 = .ok (.aload_n 0, 1) := by decide +kernel
theorem dX12_digest_29 : decode cX12_digest 29 = .ok (.getfield 235, 3) := by decide +kernel
theorem dX12_digest_32 : decode cX12_digest 32 = .ok (.invokevirtual 293, 3) := by decide +kernel
theorem dX12_digest_35 : decode cX12_digest 35 = .ok (.aload_n 0, 1) := by decide +kernel
theorem dX12_digest_36 : decode cX12_digest 36 = .ok (.aload_n 0, 1) := by decide +kernel
theorem dX12_digest_37 : decode cX12_digest 37 = .ok (.getfield 282, 3) := by decide +kernel
theorem dX12_digest_40 : decode cX12_digest 40 = .ok (.invokevirtual 293, 3) := by decide +kernel
theorem dX12_digest_43 : decode cX12_digest 43 = .ok (.iconst 0, 1) := by decide +kernel
theorem dX12_digest_44 : decode cX12_digest 44 = .ok (.istore_n 2, 1) := by decide +kernel
theorem dX12_digest_45 : decode cX12_digest 45 = .ok (.iload_n 2, 1) := by decide +kernel
theorem dX12_digest_46 : decode cX12_digest 46 = .ok (.bipush 11, 2) := by decide +kernel
theorem dX12_digest_48 : decode cX12_digest 48 = .ok (.if_icmp .ge 19, 3) := by decide +kernel
theorem dX12_digest_51 : decode cX12_digest 51 = .ok (.aload_n 0, 1) := by decide +kernel
theorem dX12_digest_52 : decode cX12_digest 52 = .ok (.aload_n 0, 1) := by decide +kernel
theorem dX12_digest_53 : decode cX12_digest 53 = .ok (.iload_n 2, 1) := by decide +kernel
theorem dX12_digest_54 : decode cX12_digest 54 = .ok (.iload_n 1, 1) := by decide +kernel
theorem dX12_digest_55 : decode cX12_digest 55 = .ok (.invokevirtual 226, 3) := by decide +kernel
theorem dX12_digest_58 : decode cX12_digest 58 = .ok (.invokevirtual 293, 3) := by decide +kernel
theorem dX12_digest_61 : decode cX12_digest 61 = .ok (.iinc 2 1, 3) := by decide +kernel
theorem dX12_digest_64 : decode cX12_digest 64 = .ok (.goto (-19), 3) := by decide +kernel
theorem dX12_digest_67 : decode cX12_digest 67 = .ok (.iconst 0, 1) := by decide +kernel
theorem dX12_digest_68 : decode cX12_digest 68 = .ok (.istore_n 2, 1) := by decide +kernel
theorem dX12_digest_69 : decode cX12_digest 69 = .ok (.iload_n 2, 1) := by decide +kernel
theorem dX12_digest_70 : decode cX12_digest 70 = .ok (.aload_n 0, 1) := by decide +kernel
theorem dX12_digest_71 : decode cX12_digest 71 = .ok (.getfield 7, 3) := by decide +kernel
theorem dX12_digest_74 : decode cX12_digest 74 = .ok (.iconst 2, 1) := by decide +kernel
theorem dX12_digest_75 : decode cX12_digest 75 = .ok (.iaload, 1) := by decide +kernel
theorem dX12_digest_76 : decode cX12_digest 76 = .ok (.if_icmp .ge 15, 3) := by decide +kernel
theorem dX12_digest_79 : decode cX12_digest 79 = .ok (.aload_n 0, 1) := by decide +kernel
theorem dX12_digest_80 : decode cX12_digest 80 = .ok (.iload_n 2, 1) := by decide +kernel
theorem dX12_digest_81 : decode cX12_digest 81 = .ok (.iload_n 1, 1) := by decide +kernel
theorem dX12_digest_82 : decode cX12_digest 82 = .ok (.invokevirtual 299, 3) := by decide +kernel
theorem dX12_digest_85 : decode cX12_digest 85 = .ok (.iinc 2 1, 3) := by decide +kernel
theorem dX12_digest_88 : decode cX12_digest 88 = .ok (.goto (-19), 3) := by decide +kernel
theorem dX12_digest_91 : decode cX12_digest 91 = .ok (.iconst 0, 1) := by decide +kernel
theorem dX12_digest_92 : decode cX12_digest 92 = .ok (.istore_n 2, 1) := by decide +kernel
theorem dX12_digest_93 : decode cX12_digest 93 = .ok (.iload_n 2, 1) := by decide +kernel
theorem dX12_digest_94 : decode cX12_digest 94 = .ok (.iconst 3, 1) := by decide +kernel
theorem dX12_digest_95 : decode cX12_digest 95 = .ok (.aload_n 0, 1) := by decide +kernel
theorem dX12_digest_96 : decode cX12_digest 96 = .ok (.getfield 7, 3) := by decide +kernel
theorem dX12_digest_99 : decode cX12_digest 99 = .ok (.iconst 3, 1) := by decide +kernel
theorem dX12_digest_100 : decode cX12_digest 100 = .ok (.iaload, 1) := by decide +kernel
theorem dX12_digest_101 : decode cX12_digest 101 = .ok (.imul, 1) := by decide +kernel
theorem dX12_digest_102 : decode cX12_digest 102 = .ok (.if_icmp .ge 24, 3) := by decide +kernel
theorem dX12_digest_105 : decode cX12_digest 105 = .ok (.aload_n 0, 1) := by decide +kernel
theorem dX12_digest_106 : decode cX12_digest 106 = .ok (.aload_n 0, 1) := by decide +kernel
theorem dX12_digest_107 : decode cX12_digest 107 = .ok (.iconst 1, 1) := by decide +kernel
theorem dX12_digest_108 : decode cX12_digest 108 = .ok (.iload_n 2, 1) := by decide +kernel
theorem dX12_digest_109 : decode cX12_digest 109 = .ok (.iconst 3, 1) := by decide +kernel
theorem dX12_digest_110 : decode cX12_digest 110 = .ok (.idiv, 1) := by decide +kernel
theorem dX12_digest_111 : decode cX12_digest 111 = .ok (.iload_n 2, 1) := by decide +kernel
theorem dX12_digest_112 : decode cX12_digest 112 = .ok (.iconst 3, 1) := by decide +kernel
theorem dX12_digest_113 : decode cX12_digest 113 = .ok (.irem, 1) := by decide +kernel
theorem dX12_digest_114 : decode cX12_digest 114 = .ok (.invokevirtual 232, 3) := by decide +kernel
theorem dX12_digest_117 : decode cX12_digest 117 = .ok (.invokevirtual 293, 3) := by decide +kernel
theorem dX12_digest_120 : decode cX12_digest 120 = .ok (.iinc 2 1, 3) := by decide +kernel
theorem dX12_digest_123 : decode cX12_digest 123 = .ok (.goto (-30), 3) := by decide +kernel
theorem dX12_digest_126 : decode cX12_digest 126 = .ok (.iconst 0, 1) := by decide +kernel
theorem dX12_digest_127 : decode cX12_digest 127 = .ok (.istore_n 2, 1) := by decide +kernel
theorem dX12_digest_128 : decode cX12_digest 128 = .ok (.iload_n 2, 1) := by decide +kernel
theorem dX12_digest_129 : decode cX12_digest 129 = .ok (.iconst 4, 1) := by decide +kernel
theorem dX12_digest_130 : decode cX12_digest 130 = .ok (.aload_n 0, 1) := by decide +kernel
theorem dX12_digest_131 : decode cX12_digest 131 = .ok (.getfield 7, 3) := by decide +kernel
theorem dX12_digest_134 : decode cX12_digest 134 = .ok (.iconst 4, 1) := by decide +kernel
theorem dX12_digest_135 : decode cX12_digest 135 = .ok (.iaload, 1) := by decide +kernel
theorem dX12_digest_136 : decode cX12_digest 136 = .ok (.imul, 1) := by decide +kernel
theorem dX12_digest_137 : decode cX12_digest 137 = .ok (.if_icmp .ge 24, 3) := by decide +kernel
theorem dX12_digest_140 : decode cX12_digest 140 = .ok (.aload_n 0, 1) := by decide +kernel
theorem dX12_digest_141 : decode cX12_digest 141 = .ok (.aload_n 0, 1) := by decide +kernel
theorem dX12_digest_142 : decode cX12_digest 142 = .ok (.iconst 2, 1) := by decide +kernel
theorem dX12_digest_143 : decode cX12_digest 143 = .ok (.iload_n 2, 1) := by decide +kernel
theorem dX12_digest_144 : decode cX12_digest 144 = .ok (.iconst 4, 1) := by decide +kernel
theorem dX12_digest_145 : decode cX12_digest 145 = .ok (.idiv, 1) := by decide +kernel
theorem dX12_digest_146 : decode cX12_digest 146 = .ok (.iload_n 2, 1) := by decide +kernel
theorem dX12_digest_147 : decode cX12_digest 147 = .ok (.iconst 4, 1) := by decide +kernel
theorem dX12_digest_148 : decode cX12_digest 148 = .ok (.irem, 1) := by decide +kernel
theorem dX12_digest_149 : decode cX12_digest 149 = .ok (.invokevirtual 232, 3) := by decide +kernel
theorem dX12_digest_152 : decode cX12_digest 152 = .ok (.invokevirtual 293, 3) := by decide +kernel
theorem dX12_digest_155 : decode cX12_digest 155 = .ok (.iinc 2 1, 3) := by decide +kernel
theorem dX12_digest_158 : decode cX12_digest 158 = .ok (.goto (-30), 3) := by decide +kernel
theorem dX12_digest_161 : decode cX12_digest 161 = .ok (.iconst 0, 1) := by decide +kernel
theorem dX12_digest_162 : decode cX12_digest 162 = .ok (.istore_n 2, 1) := by decide +kernel
theorem dX12_digest_163 : decode cX12_digest 163 = .ok (.iload_n 2, 1) := by decide +kernel
theorem dX12_digest_164 : decode cX12_digest 164 = .ok (.bipush 7, 2) := by decide +kernel
theorem dX12_digest_166 : decode cX12_digest 166 = .ok (.if_icmp .ge 20, 3) := by decide +kernel
theorem dX12_digest_169 : decode cX12_digest 169 = .ok (.aload_n 0, 1) := by decide +kernel
theorem dX12_digest_170 : decode cX12_digest 170 = .ok (.aload_n 0, 1) := by decide +kernel
theorem dX12_digest_171 : decode cX12_digest 171 = .ok (.iconst 3, 1) := by decide +kernel
theorem dX12_digest_172 : decode cX12_digest 172 = .ok (.iload_n 2, 1) := by decide +kernel
theorem dX12_digest_173 : decode cX12_digest 173 = .ok (.iconst 0, 1) := by decide +kernel
theorem dX12_digest_174 : decode cX12_digest 174 = .ok (.invokevirtual 232, 3) := by decide +kernel
theorem dX12_digest_177 : decode cX12_digest 177 = .ok (.invokevirtual 293, 3) := by decide +kernel
theorem dX12_digest_180 : decode cX12_digest 180 = .ok (.iinc 2 1, 3) := by decide +kernel
theorem dX12_digest_183 : decode cX12_digest 183 = .ok (.goto (-20), 3) := by decide +kernel
theorem dX12_digest_186 : decode cX12_digest 186 = .ok (.aload_n 0, 1) := by decide +kernel
theorem dX12_digest_187 : decode cX12_digest 187 = .ok (.iload_n 1, 1) := by decide +kernel
theorem dX12_digest_188 : decode cX12_digest 188 = .ok (.invokevirtual 293, 3) := by decide +kernel
theorem dX12_digest_191 : decode cX12_digest 191 = .ok (.aload_n 0, 1) := by decide +kernel
theorem dX12_digest_192 : decode cX12_digest 192 = .ok (.aload_n 0, 1) := by decide +kernel
theorem dX12_digest_193 : decode cX12_digest 193 = .ok (.iload_n 1, 1) := by decide +kernel
theorem dX12_digest_194 : decode cX12_digest 194 = .ok (.invokevirtual 223, 3) := by decide +kernel
theorem dX12_digest_197 : decode cX12_digest 197 = .ok (.invokevirtual 293, 3) := by decide +kernel
theorem dX12_digest_200 : decode cX12_digest 200 = .ok (.iconst 0, 1) := by decide +kernel
theorem dX12_digest_201 : decode cX12_digest 201 = .ok (.istore_n 2, 1) := by decide +kernel
theorem dX12_digest_202 : decode cX12_digest 202 = .ok (.iload_n 2, 1) := by decide +kernel
theorem dX12_digest_203 : decode cX12_digest 203 = .ok (.aload_n 0, 1) := by decide +kernel
theorem dX12_digest_204 : decode cX12_digest 204 = .ok (.getfield 7, 3) := by decide +kernel
theorem dX12_digest_207 : decode cX12_digest 207 = .ok (.iconst 0, 1) := by decide +kernel
theorem dX12_digest_208 : decode cX12_digest 208 = .ok (.iaload, 1) := by decide +kernel
theorem dX12_digest_209 : decode cX12_digest 209 = .ok (.aload_n 0, 1) := by decide +kernel
theorem dX12_digest_210 : decode cX12_digest 210 = .ok (.getfield 7, 3) := by decide +kernel
theorem dX12_digest_213 : decode cX12_digest 213 = .ok (.iconst 1, 1) := by decide +kernel
theorem dX12_digest_214 : decode cX12_digest 214 = .ok (.iaload, 1) := by decide +kernel
theorem dX12_digest_215 : decode cX12_digest 215 = .ok (.imul, 1) := by decide +kernel
theorem dX12_digest_216 : decode cX12_digest 216 = .ok (.if_icmp .ge 29, 3) := by decide +kernel
theorem dX12_digest_219 : decode cX12_digest 219 = .ok (.aload_n 0, 1) := by decide +kernel
theorem dX12_digest_220 : decode cX12_digest 220 = .ok (.aload_n 0, 1) := by decide +kernel
theorem dX12_digest_221 : decode cX12_digest 221 = .ok (.getfield 37, 3) := by decide +kernel
theorem dX12_digest_224 : decode cX12_digest 224 = .ok (.iload_n 2, 1) := by decide +kernel
theorem dX12_digest_225 : decode cX12_digest 225 = .ok (.iaload, 1) := by decide +kernel
theorem dX12_digest_226 : decode cX12_digest 226 = .ok (.invokevirtual 293, 3) := by decide +kernel
theorem dX12_digest_229 : decode cX12_digest 229 = .ok (.aload_n 0, 1) := by decide +kernel
theorem dX12_digest_230 : decode cX12_digest 230 = .ok (.aload_n 0, 1) := by decide +kernel
theorem dX12_digest_231 : decode cX12_digest 231 = .ok (.getfield 40, 3) := by decide +kernel
theorem dX12_digest_234 : decode cX12_digest 234 = .ok (.iload_n 2, 1) := by decide +kernel
theorem dX12_digest_235 : decode cX12_digest 235 = .ok (.iaload, 1) := by decide +kernel
theorem dX12_digest_236 : decode cX12_digest 236 = .ok (.invokevirtual 293, 3) := by decide +kernel
theorem dX12_digest_239 : decode cX12_digest 239 = .ok (.iinc 2 1, 3) := by decide +kernel
theorem dX12_digest_242 : decode cX12_digest 242 = .ok (.goto (-40), 3) := by decide +kernel
theorem dX12_digest_245 : decode cX12_digest 245 = .ok (.aload_n 0, 1) := by decide +kernel
theorem dX12_digest_246 : decode cX12_digest 246 = .ok (.getfield 290, 3) := by decide +kernel
theorem dX12_digest_249 : decode cX12_digest 249 = .ok (.lreturn, 1) := by decide +kernel
