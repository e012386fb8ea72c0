set_option maxRecDepth 20000 in
theorem ggX11_foundWithout_X11_requireThere : GoodIn wsX11_foundWithout wsX11_requireThere := goodIn_ca (goodIn_ca (goodIn_ca (goodIn_r _ [14, 15, 16, 13, 17, 18, 19, 20, 21, 22, 23] (by decide +kernel) (by decide +kernel)) (goodIn_sub (fun _ h => List.mem_cons_of_mem _ (List.mem_append_left _ (List.mem_append_left _ (List.mem_append_right _ h)))) (by decide +kernel))) (goodIn_sub (fun _ h => List.mem_cons_of_mem _ (List.mem_append_left _ (List.mem_append_right _ h))) (by decide +kernel))) (goodIn_sub (fun _ h => List.mem_cons_of_mem _ (List.mem_append_right _ h)) (by decide +kernel))
set_option maxRecDepth 20000 in
theorem gX11_foundWithout_X11_requireThere : GoodIn wsX11_foundWithout (va_wsS RX11 92 yX11_requireThere wsX11_requireThere) := goodIn_app (goodIn_of _ (by decide +kernel)) ggX11_foundWithout_X11_requireThere
set_option maxRecDepth 20000 in
theorem ggX11_foundWithout_X8_take : GoodIn wsX11_foundWithout wsX8_take := goodIn_r _ [28, 29, 30, 31, 32, 33, 34, 35, 36, 37, 27, 38, 39, 40, 41, 42, 43, 44, 45, 46, 47, 48, 49, 50, 51, 52, 8, 53, 10, 54, 55, 56, 57, 58, 59, 60, 61, 62, 63, 64, 65, 66, 67, 68, 69, 70, 71, 72, 73, 74, 75, 76, 77, 78, 79, 80, 81, 82, 83, 84, 85, 86, 87, 88, 89, 90, 91, 92, 93, 94, 95, 96, 97, 98, 99, 100, 101, 102, 103, 104, 105, 106, 107, 108, 109, 110, 111, 112, 113, 114, 115, 116, 117, 118, 119, 120, 121, 122, 139, 140, 141, 142, 143, 144, 145, 146, 147, 131, 132, 133, 134, 135, 136, 137, 138, 148, 149, 150, 151] (by decide +kernel) (by decide +kernel)
set_option maxRecDepth 20000 in
theorem gX11_foundWithout_X8_take : GoodIn wsX11_foundWithout (wsV RX11 174 RX8 yX8_take wsX8_take) := goodIn_app (goodIn_of _ (by decide +kernel)) ggX11_foundWithout_X8_take
theorem dX11_foundWithout_0 : decode cX11_foundWithout 0 = .ok (.aload_n 0, 1) := by decide +kernel
theorem dX11_foundWithout_1 : decode cX11_foundWithout 1 = .ok (.getfield 10, 3) := by decide +kernel
theorem dX11_foundWithout_4 : decode cX11_foundWithout 4 = .ok (.getfield 82, 3) := by decide +kernel
theorem dX11_foundWithout_7 : decode cX11_foundWithout 7 = .ok (.iload_n 1, 1) := by decide +kernel
theorem dX11_foundWithout_8 : decode cX11_foundWithout 8 = .ok (.invokevirtual 86, 3) := by decide +kernel
theorem dX11_foundWithout_11 : decode cX11_foundWithout 11 = .ok (.invokestatic 92, 3) := by decide +kernel
theorem dX11_foundWithout_14 : decode cX11_foundWithout 14 = .ok (.aload_n 0, 1) := by decide +kernel
theorem dX11_foundWithout_15 : decode cX11_foundWithout 15 = .ok (.getfield 33, 3) := by decide +kernel
theorem dX11_foundWithout_18 : decode cX11_foundWithout 18 = .ok (.aload_n 0, 1) := by decide +kernel
theorem dX11_foundWithout_19 : decode cX11_foundWithout 19 = .ok (.getfield 10, 3) := by decide +kernel
theorem dX11_foundWithout_22 : decode cX11_foundWithout 22 = .ok (.iload_n 1, 1) := by decide +kernel
theorem dX11_foundWithout_23 : decode cX11_foundWithout 23 = .ok (.invokevirtual 174, 3) := by decide +kernel
theorem dX11_foundWithout_26 : decode cX11_foundWithout 26 = .ok (.aload_n 0, 1) := by decide +kernel
theorem dX11_foundWithout_27 : decode cX11_foundWithout 27 = .ok (.getfield 33, 3) := by decide +kernel
theorem dX11_foundWithout_30 : decode cX11_foundWithout 30 = .ok (.getfield 185, 3) := by decide +kernel
theorem dX11_foundWithout_33 : decode cX11_foundWithout 33 = .ok (.ireturn, 1) := by decide +kernel
set_option maxRecDepth 20000 in
theorem ggX11_whole_X11_isBetween : GoodIn wsX11_whole wsX11_isBetween := goodIn_r _ [6] (by decide +kernel) (by decide +kernel)
set_option maxRecDepth 20000 in
theorem gX11_whole_X11_isBetween : GoodIn wsX11_whole (va_wsS RX11 96 yX11_isBetween wsX11_isBetween) := goodIn_app (goodIn_of _ (by decide +kernel)) ggX11_whole_X11_isBetween
set_option maxRecDepth 20000 in
theorem ggX11_whole_X11_requireRange : GoodIn wsX11_whole wsX11_requireRange := goodIn_ca (goodIn_ca (goodIn_ca (goodIn_r _ [9, 10, 11, 5, 12, 13, 14, 15, 16, 17, 18] (by decide +kernel) (by decide +kernel)) (goodIn_sub (fun _ h => List.mem_cons_of_mem _ (List.mem_append_left _ (List.mem_append_left _ (List.mem_append_right _ h)))) (by decide +kernel))) (goodIn_sub (fun _ h => List.mem_cons_of_mem _ (List.mem_append_left _ (List.mem_append_right _ h))) (by decide +kernel))) (goodIn_sub (fun _ h => List.mem_cons_of_mem _ (List.mem_append_right _ h)) (by decide +kernel))
set_option maxRecDepth 20000 in
theorem gX11_whole_X11_requireRange : GoodIn wsX11_whole (va_wsS RX11 100 yX11_requireRange wsX11_requireRange) := goodIn_app (goodIn_of _ (by decide +kernel)) ggX11_whole_X11_requireRange
set_option maxRecDepth 20000 in
theorem ggX11_whole_X8_take : GoodIn wsX11_whole wsX8_take := goodIn_r _ [23, 24, 25, 26, 27, 28, 29, 30, 31, 32, 22, 33, 34, 35, 36, 37, 38, 39, 40, 41, 42, 43, 44, 45, 46, 47, 48, 49, 50, 51, 52, 53, 54, 55, 56, 57, 58, 59, 60, 61, 62, 63, 64, 65, 66, 67, 68, 69, 70, 71, 72, 73, 74, 75, 76, 77, 78, 79, 80, 81, 82, 83, 84, 85, 86, 87, 88, 89, 90, 91, 92, 93, 94, 95, 96, 97, 98, 99, 100, 101, 102, 103, 104, 105, 106, 107, 108, 109, 110, 111, 112, 113, 114, 115, 116, 117, 118, 119, 148, 149, 150, 151, 152, 153, 154, 155, 156, 157, 158, 159, 160, 161, 162, 163, 164, 165, 166, 167, 168] (by decide +kernel) (by decide +kernel)
set_option maxRecDepth 20000 in
theorem gX11_whole_X8_take : GoodIn wsX11_whole (wsV RX11 174 RX8 yX8_take wsX8_take) := goodIn_app (goodIn_of _ (by decide +kernel)) ggX11_whole_X8_take
set_option maxRecDepth 20000 in
theorem ggX11_whole_X11_valueOfWhole : GoodIn wsX11_whole wsX11_valueOfWhole := goodIn_r _ [123, 2, 124, 125, 126, 127, 128, 129, 130, 1, 131, 132, 133, 134, 135, 117, 118, 22, 119, 34, 136, 137, 138, 139, 64, 4, 5, 6, 140, 141, 142, 143, 144, 145, 146, 147, 157, 158, 159, 160, 161, 162, 163, 164, 165, 166, 167, 168, 148, 149, 150, 151, 152, 153, 154, 155, 156] (by decide +kernel) (by decide +kernel)
set_option maxRecDepth 20000 in
theorem gX11_whole_X11_valueOfWhole : GoodIn wsX11_whole (wsV RX11 205 RX11 yX11_valueOfWhole wsX11_valueOfWhole) := goodIn_app (goodIn_of _ (by decide +kernel)) ggX11_whole_X11_valueOfWhole
theorem dX11_whole_0 : decode cX11_whole 0 = .ok (.iload_n 1, 1) := by decide +kernel
theorem dX11_whole_1 : decode cX11_whole 1 = .ok (.iconst 0, 1) := by decide +kernel
theorem dX11_whole_2 : decode cX11_whole 2 = .ok (.bipush 10, 2) := by decide +kernel
theorem dX11_whole_4 : decode cX11_whole 4 = .ok (.invokestatic 96, 3) := by decide +kernel
theorem dX11_whole_7 : decode cX11_whole 7 = .ok (.invokestatic 100, 3) := by decide +kernel
theorem dX11_whole_10 : decode cX11_whole 10 = .ok (.iload_n 1, 1) := by decide +kernel
theorem dX11_whole_11 : decode cX11_whole 11 = .ok (.bipush 6, 2) := by decide +kernel
theorem dX11_whole_13 : decode cX11_whole 13 = .ok (.bipush 9, 2) := by decide +kernel
theorem dX11_whole_15 : decode cX11_whole 15 = .ok (.invokestatic 96, 3) := by decide +kernel
theorem dX11_whole_18 : decode cX11_whole 18 = .ok (.ifCond .eq 15, 3) := by decide +kernel
theorem dX11_whole_21 : decode cX11_whole 21 = .ok (.aload_n 0, 1) := by decide +kernel
theorem dX11_whole_22 : decode cX11_whole 22 = .ok (.getfield 33, 3) := by decide +kernel
theorem dX11_whole_25 : decode cX11_whole 25 = .ok (.aload_n 0, 1) := by decide +kernel
theorem dX11_whole_26 : decode cX11_whole 26 = .ok (.getfield 10, 3) := by decide +kernel
theorem dX11_whole_29 : decode cX11_whole 29 = .ok (.iconst (-1), 1) := by decide +kernel
theorem dX11_whole_30 : decode cX11_whole 30 = .ok (.invokevirtual 174, 3) := by decide +kernel
theorem dX11_whole_33 : decode cX11_whole 33 = .ok (.aload_n 0, 1) := by decide +kernel
theorem dX11_whole_34 : decode cX11_whole 34 = .ok (.iload_n 1, 1) := by decide +kernel
theorem dX11_whole_35 : decode cX11_whole 35 = .ok (.invokevirtual 205, 3) := by decide +kernel
theorem dX11_whole_38 : decode cX11_whole 38 = .ok (.ireturn, 1) := by decide +kernel
set_option maxRecDepth 20000 in
theorem ggX11_part_X11_isBetween : GoodIn wsX11_part wsX11_isBetween := goodIn_r _ [6] (by decide +kernel) (by decide +kernel)
set_option maxRecDepth 20000 in
theorem gX11_part_X11_isBetween : GoodIn wsX11_part (va_wsS RX11 96 yX11_isBetween wsX11_isBetween) := goodIn_app (goodIn_of _ (by decide +kernel)) ggX11_part_X11_isBetween
set_option maxRecDepth 20000 in
theorem ggX11_part_X11_requireRange : GoodIn wsX11_part wsX11_requireRange := goodIn_ca (goodIn_ca (goodIn_ca (goodIn_r _ [9, 10, 11, 5, 12, 13, 14, 15, 16, 17, 18] (by decide +kernel) (by decide +kernel)) (goodIn_sub (fun _ h => List.mem_cons_of_mem _ (List.mem_append_left _ (List.mem_append_left _ (List.mem_append_right _ h)))) (by decide +kernel))) (goodIn_sub (fun _ h => List.mem_cons_of_mem _ (List.mem_append_left _ (List.mem_append_right _ h))) (by decide +kernel))) (goodIn_sub (fun _ h => List.mem_cons_of_mem _ (List.mem_append_right _ h)) (by decide +kernel))
set_option maxRecDepth 20000 in
theorem gX11_part_X11_requireRange : GoodIn wsX11_part (va_wsS RX11 100 yX11_requireRange wsX11_requireRange) := goodIn_app (goodIn_of _ (by decide +kernel)) ggX11_part_X11_requireRange
set_option maxRecDepth 20000 in
theorem ggX11_part_X2_tableOf : GoodIn wsX11_part wsX2_tableOf := goodIn_r _ [23, 24, 25, 26, 27, 52, 53, 54, 55, 56, 57, 58, 59] (by decide +kernel) (by decide +kernel)
set_option maxRecDepth 20000 in
theorem gX11_part_X2_tableOf : GoodIn wsX11_part (wsV RX11 124 RX2 yX2_tableOf wsX2_tableOf) := goodIn_app (goodIn_of _ (by decide +kernel)) ggX11_part_X2_tableOf
set_option maxRecDepth 20000 in
theorem ggX11_part_X9_has : GoodIn wsX11_part wsX9_has := goodIn_r _ [32, 33, 60, 61, 62, 63] (by decide +kernel) (by decide +kernel)
set_option maxRecDepth 20000 in
theorem gX11_part_X9_has : GoodIn wsX11_part (wsV RX11 86 RX9 yX9_has wsX9_has) := goodIn_app (goodIn_of _ (by decide +kernel)) ggX11_part_X9_has
set_option maxRecDepth 20000 in
theorem ggX11_part_X11_requireThere : GoodIn wsX11_part wsX11_requireThere := goodIn_ca (goodIn_ca (goodIn_ca (goodIn_r _ [36, 10, 11, 5, 12, 13, 14, 15, 16, 17, 18] (by decide +kernel) (by decide +kernel)) (goodIn_sub (fun _ h => List.mem_cons_of_mem _ (List.mem_append_left _ (List.mem_append_left _ (List.mem_append_right _ h)))) (by decide +kernel))) (goodIn_sub (fun _ h => List.mem_cons_of_mem _ (List.mem_append_left _ (List.mem_append_right _ h))) (by decide +kernel))) (goodIn_sub (fun _ h => List.mem_cons_of_mem _ (List.mem_append_right _ h)) (by decide +kernel))
set_option maxRecDepth 20000 in
theorem gX11_part_X11_requireThere : GoodIn wsX11_part (va_wsS RX11 92 yX11_requireThere wsX11_requireThere) := goodIn_app (goodIn_of _ (by decide +kernel)) ggX11_part_X11_requireThere
set_option maxRecDepth 20000 in
theorem ggX11_part_X9_at : GoodIn wsX11_part wsX9_at := goodIn_r _ [40, 33, 41, 42, 43, 60, 61, 62, 63] (by decide +kernel) (by decide +kernel)
set_option maxRecDepth 20000 in
theorem gX11_part_X9_at : GoodIn wsX11_part (wsV RX11 103 RX9 yX9_at wsX9_at) := goodIn_app (goodIn_of _ (by decide +kernel)) ggX11_part_X9_at
theorem dX11_part_0 : decode cX11_part 0 = .ok (.iload_n 1, 1) := by decide +kernel
theorem dX11_part_1 : decode cX11_part 1 = .ok (.iconst 0, 1) := by decide +kernel
theorem dX11_part_2 : decode cX11_part 2 = .ok (.getstatic 208, 3) := by decide +kernel
theorem dX11_part_5 : decode cX11_part 5 = .ok (.arraylength, 1) := by decide +kernel
theorem dX11_part_6 : decode cX11_part 6 = .ok (.iconst 1, 1) := by decide +kernel
theorem dX11_part_7 : decode cX11_part 7 = .ok (.isub, 1) := by decide +kernel
theorem dX11_part_8 : decode cX11_part 8 = .ok (.invokestatic 96, 3) := by decide +kernel
theorem dX11_part_11 : decode cX11_part 11 = .ok (.ifCond .eq 22, 3) := by decide +kernel
theorem dX11_part_14 : decode cX11_part 14 = .ok (.iload_n 3, 1) := by decide +kernel
theorem dX11_part_15 : decode cX11_part 15 = .ok (.iconst 0, 1) := by decide +kernel
theorem dX11_part_16 : decode cX11_part 16 = .ok (.getstatic 208, 3) := by decide +kernel
theorem dX11_part_19 : decode cX11_part 19 = .ok (.iload_n 1, 1) := by decide +kernel
theorem dX11_part_20 : decode cX11_part 20 = .ok (.iaload, 1) := by decide +kernel
theorem dX11_part_21 : decode cX11_part 21 = .ok (.iconst 1, 1) := by decide +kernel
theorem dX11_part_22 : decode cX11_part 22 = .ok (.isub, 1) := by decide +kernel
theorem dX11_part_23 : decode cX11_part 23 = .ok (.invokestatic 96, 3) := by decide +kernel
theorem dX11_part_26 : decode cX11_part 26 = .ok (.ifCond .eq 7, 3) := by decide +kernel
theorem dX11_part_29 : decode cX11_part 29 = .ok (.iconst 1, 1) := by decide +kernel
theorem dX11_part_30 : decode cX11_part 30 = .ok (.goto 4, 3) := by decide +kernel
theorem dX11_part_33 : decode cX11_part 33 = .ok (.iconst 0, 1) := by decide +kernel
theorem dX11_part_34 : decode cX11_part 34 = .ok (.invokestatic 100, 3) := by decide +kernel
theorem dX11_part_37 : decode cX11_part 37 = .ok (.aload_n 0, 1) := by decide +kernel
theorem dX11_part_38 : decode cX11_part 38 = .ok (.getfield 10, 3) := by decide +kernel
theorem dX11_part_41 : decode cX11_part 41 = .ok (.iload_n 1, 1) := by decide +kernel
theorem dX11_part_42 : decode cX11_part 42 = .ok (.invokevirtual 124, 3) := by decide +kernel
theorem dX11_part_45 : decode cX11_part 45 = .ok (.astore 4, 2) := by decide +kernel
theorem dX11_part_47 : decode cX11_part 47 = .ok (.aload 4, 2) := by decide +kernel
theorem dX11_part_49 : decode cX11_part 49 = .ok (.iload_n 2, 1) := by decide +kernel
theorem dX11_part_50 : decode cX11_part 50 = .ok (.invokevirtual 86, 3) := by decide +kernel
theorem dX11_part_53 : decode cX11_part 53 = .ok (.invokestatic 92, 3) := by decide +kernel
theorem dX11_part_56 : decode cX11_part 56 = .ok (.aload 4, 2) := by decide +kernel
theorem dX11_part_58 : decode cX11_part 58 = .ok (.iload_n 2, 1) := by decide +kernel
theorem dX11_part_59 : decode cX11_part 59 = .ok (.iload_n 3, 1) := by decide +kernel
theorem dX11_part_60 : decode cX11_part 60 = .ok (.invokevirtual 103, 3) := by decide +kernel
theorem dX11_part_63 : decode cX11_part 63 = .ok (.ireturn, 1) := by decide +kernel
set_option maxRecDepth 20000 in
theorem ggX11_type_X11_isBetween : GoodIn wsX11_type wsX11_isBetween := goodIn_r _ [5] (by decide +kernel) (by decide +kernel)
set_option maxRecDepth 20000 in
theorem gX11_type_X11_isBetween : GoodIn wsX11_type (va_wsS RX11 96 yX11_isBetween wsX11_isBetween) := goodIn_app (goodIn_of _ (by decide +kernel)) ggX11_type_X11_isBetween
set_option maxRecDepth 20000 in
theorem ggX11_type_X11_requireRange : GoodIn wsX11_type wsX11_requireRange := goodIn_ca (goodIn_ca (goodIn_ca (goodIn_r _ [8, 9, 10, 4, 11, 12, 13, 14, 15, 16, 17] (by decide +kernel) (by decide +kernel)) (goodIn_sub (fun _ h => List.mem_cons_of_mem _ (List.mem_append_left _ (List.mem_append_left _ (List.mem_append_right _ h)))) (by decide +kernel))) (goodIn_sub (fun _ h => List.mem_cons_of_mem _ (List.mem_append_left _ (List.mem_append_right _ h))) (by decide +kernel))) (goodIn_sub (fun _ h => List.mem_cons_of_mem _ (List.mem_append_right _ h)) (by decide +kernel))
set_option maxRecDepth 20000 in
theorem gX11_type_X11_requireRange : GoodIn wsX11_type (va_wsS RX11 100 yX11_requireRange wsX11_requireRange) := goodIn_app (goodIn_of _ (by decide +kernel)) ggX11_type_X11_requireRange
set_option maxRecDepth 20000 in
theorem ggX11_type_X5_isFull : GoodIn wsX11_type wsX5_isFull := goodIn_r _ [22, 23, 38, 39] (by decide +kernel) (by decide +kernel)
set_option maxRecDepth 20000 in
theorem gX11_type_X5_isFull : GoodIn wsX11_type (wsV RX11 212 RX5 yX5_isFull wsX5_isFull) := goodIn_app (goodIn_of _ (by decide +kernel)) ggX11_type_X5_isFull
set_option maxRecDepth 20000 in
theorem ggX11_type_X11_refuse : GoodIn wsX11_type wsX11_refuse := goodIn_ca (goodIn_ca (goodIn_ca (goodIn_r _ [11, 12, 13, 14, 15, 16, 17] (by decide +kernel) (by decide +kernel)) (goodIn_sub (fun _ h => List.mem_cons_of_mem _ (List.mem_append_left _ (List.mem_append_left _ (List.mem_append_right _ h)))) (by decide +kernel))) (goodIn_sub (fun _ h => List.mem_cons_of_mem _ (List.mem_append_left _ (List.mem_append_right _ h))) (by decide +kernel))) (goodIn_sub (fun _ h => List.mem_cons_of_mem _ (List.mem_append_right _ h)) (by decide +kernel))
set_option maxRecDepth 20000 in
theorem gX11_type_X11_refuse : GoodIn wsX11_type (va_wsS RX11 66 yX11_refuse wsX11_refuse) := goodIn_app (goodIn_of _ (by decide +kernel)) ggX11_type_X11_refuse
set_option maxRecDepth 20000 in
theorem ggX11_type_X5_append : GoodIn wsX11_type wsX5_append := goodIn_r _ [27, 28, 23, 29, 19, 20, 21, 22, 38, 39] (by decide +kernel) (by decide +kernel)
set_option maxRecDepth 20000 in
theorem gX11_type_X5_append : GoodIn wsX11_type (wsV RX11 216 RX5 yX5_append wsX5_append) := goodIn_app (goodIn_of _ (by decide +kernel)) ggX11_type_X5_append
theorem dX11_type_0 : decode cX11_type 0 = .ok (.iload_n 1, 1) := by decide +kernel
theorem dX11_type_1 : decode cX11_type 1 = .ok (.iconst 0, 1) := by decide +kernel
theorem dX11_type_2 : decode cX11_type 2 = .ok (.bipush 127, 2) := by decide +kernel
theorem dX11_type_4 : decode cX11_type 4 = .ok (.invokestatic 96, 3) := by decide +kernel
theorem dX11_type_7 : decode cX11_type 7 = .ok (.invokestatic 100, 3) := by decide +kernel
theorem dX11_type_10 : decode cX11_type 10 = .ok (.aload_n 0, 1) := by decide +kernel
theorem dX11_type_11 : decode cX11_type 11 = .ok (.getfield 47, 3) := by decide +kernel
theorem dX11_type_14 : decode cX11_type 14 = .ok (.invokevirtual 212, 3) := by decide +kernel
theorem dX11_type_17 : decode cX11_type 17 = .ok (.ifCond .eq 7, 3) := by decide +kernel
theorem dX11_type_20 : decode cX11_type 20 = .ok (.iconst 3, 1) := by decide +kernel
theorem dX11_type_21 : decode cX11_type 21 = .ok (.goto 4, 3) := by decide +kernel
theorem dX11_type_24 : decode cX11_type 24 = .ok (.iconst 0, 1) := by decide +kernel
theorem dX11_type_25 : decode cX11_type 25 = .ok (.invokestatic 66, 3) := by decide +kernel
theorem dX11_type_28 : decode cX11_type 28 = .ok (.aload_n 0, 1) := by decide +kernel
theorem dX11_type_29 : decode cX11_type 29 = .ok (.getfield 47, 3) := by decide +kernel
theorem dX11_type_32 : decode cX11_type 32 = .ok (.iload_n 1, 1) := by decide +kernel
theorem dX11_type_33 : decode cX11_type 33 = .ok (.invokevirtual 216, 3) := by decide +kernel
theorem dX11_type_36 : decode cX11_type 36 = .ok (.ireturn, 1) := by decide +kernel
set_option maxRecDepth 20000 in
theorem ggX11_clearCommands_X5_empty : GoodIn wsX11_clearCommands wsX5_empty := goodIn_r _ [6, 7, 16, 17] (by decide +kernel) (by decide +kernel)
set_option maxRecDepth 20000 in
theorem gX11_clearCommands_X5_empty : GoodIn wsX11_clearCommands (wsV RX11 219 RX5 yX5_empty wsX5_empty) := goodIn_app (goodIn_of _ (by decide +kernel)) ggX11_clearCommands_X5_empty
theorem dX11_clearCommands_0 : decode cX11_clearCommands 0 = .ok (.aload_n 0, 1) := by decide +kernel
theorem dX11_clearCommands_1 : decode cX11_clearCommands 1 = .ok (.getfield 47, 3) := by decide +kernel
theorem dX11_clearCommands_4 : decode cX11_clearCommands 4 = .ok (.invokevirtual 219, 3) := by decide +kernel
theorem dX11_clearCommands_7 : decode cX11_clearCommands 7 = .ok (.ireturn, 1) := by decide +kernel
set_option maxRecDepth 20000 in
theorem ggX11_runCommands_X4_read : GoodIn wsX11_runCommands wsX4_read := goodIn_r _ [10, 11, 12, 13, 14, 15, 16, 17, 18, 9, 19, 20, 21, 22, 23, 24, 25, 26, 27, 28, 29, 30, 31, 32, 33, 34, 35, 36, 37, 38, 39, 40, 41, 42, 43, 44, 45, 46, 47, 48, 49, 50, 51, 52, 53, 54, 55, 56, 57, 58, 59, 60, 61, 62, 63, 64, 65, 66, 67, 68, 69, 70, 71, 72, 73, 74, 75, 76, 77, 78, 79, 80, 81, 82, 83, 84, 85, 86, 87, 88, 89, 90, 91, 92, 93, 94, 95, 96, 97, 98, 99, 100, 101, 102, 103, 104, 105, 106, 107, 108, 109, 110, 111, 112, 113, 114, 115, 116, 117, 118, 119, 120, 121, 122, 123, 124, 125, 126, 127, 128, 129, 130, 131, 132, 405, 406, 407, 408, 409, 410, 411, 412, 413, 414] (by decide +kernel) (by decide +kernel)
set_option maxRecDepth 20000 in
theorem gX11_runCommands_X4_read : GoodIn wsX11_runCommands (wsV RX11 223 RX4 yX4_read wsX4_read) := goodIn_app (goodIn_of _ (by decide +kernel)) ggX11_runCommands_X4_read
set_option maxRecDepth 20000 in
theorem ggX11_runCommands_X11_saveState : GoodIn wsX11_runCommands wsX11_saveState := goodIn_r _ [136, 137, 138, 139, 140, 141, 142, 143, 144, 145, 146, 147, 148, 149, 150, 151, 152, 153, 154, 155, 156, 157, 158, 159, 160, 161, 162, 163, 164, 165, 166, 167, 168, 169, 170, 171, 172, 173, 174, 175, 176, 177, 178, 179, 180, 181, 182, 397, 398, 399, 400, 401, 402, 403, 404, 415, 416, 417, 418, 419, 420, 421, 422, 423, 424, 425, 426, 427, 428, 429, 430, 431, 432, 433, 434, 435, 436, 437, 438] (by decide +kernel) (by decide +kernel)
set_option maxRecDepth 20000 in
theorem gX11_runCommands_X11_saveState : GoodIn wsX11_runCommands (wsV RX11 70 RX11 yX11_saveState wsX11_saveState) := goodIn_app (goodIn_of _ (by decide +kernel)) ggX11_runCommands_X11_saveState
set_option maxRecDepth 20000 in
theorem ggX11_runCommands_X4_commandOf : GoodIn wsX11_runCommands wsX4_commandOf := goodIn_r _ [186, 111, 27, 28, 29, 405, 406, 407, 408, 409, 410, 411, 412] (by decide +kernel) (by decide +kernel)
set_option maxRecDepth 20000 in
theorem gX11_runCommands_X4_commandOf : GoodIn wsX11_runCommands (wsV RX11 228 RX4 yX4_commandOf wsX4_commandOf) := goodIn_app (goodIn_of _ (by decide +kernel)) ggX11_runCommands_X4_commandOf
set_option maxRecDepth 20000 in
theorem ggX11_runCommands_X4_numberOf : GoodIn wsX11_runCommands wsX4_numberOf := goodIn_r _ [132, 124, 27, 28, 29, 405, 406, 407, 408, 409, 410, 411, 412] (by decide +kernel) (by decide +kernel)
set_option maxRecDepth 20000 in
theorem gX11_runCommands_X4_numberOf : GoodIn wsX11_runCommands (wsV RX11 232 RX4 yX4_numberOf wsX4_numberOf) := goodIn_app (goodIn_of _ (by decide +kernel)) ggX11_runCommands_X4_numberOf
set_option maxRecDepth 20000 in
theorem ggX11_runCommands_X11_refusalOf : GoodIn wsX11_runCommands wsX11_refusalOf := goodIn_r _ [191, 192, 138, 193, 194, 195, 196, 197, 198, 199, 200, 201, 202, 155, 203, 27, 28, 29, 204, 205, 206, 207, 161, 208, 209, 210, 168, 211, 176, 212, 213, 214, 215, 216, 162, 217, 218, 219, 220, 163, 221, 222, 223, 224, 225, 226, 227, 228, 229, 230, 231, 232, 233, 397, 398, 399, 400, 401, 402, 403, 404, 418, 419, 420, 421, 422, 423, 424, 425, 426, 427, 428, 429] (by decide +kernel) (by decide +kernel)
set_option maxRecDepth 20000 in
theorem gX11_runCommands_X11_refusalOf : GoodIn wsX11_runCommands (wsV RX11 235 RX11 yX11_refusalOf wsX11_refusalOf) := goodIn_app (goodIn_of _ (by decide +kernel)) ggX11_runCommands_X11_refusalOf
set_option maxRecDepth 20000 in
theorem ggX11_runCommands_X11_carryOut : GoodIn wsX11_runCommands wsX11_carryOut := goodIn_r _ [237, 192, 138, 238, 193, 194, 195, 196, 197, 198, 199, 239, 240, 241, 155, 242, 159, 157, 158, 161, 230, 162, 163, 243, 244, 245, 246, 247, 248, 249, 168, 250, 251, 176, 252, 253, 209, 210, 211, 212, 254, 255, 256, 257, 170, 258, 259, 260, 261, 262, 263, 264, 265, 266, 267, 268, 269, 270, 164, 271, 272, 273, 274, 275, 276, 277, 278, 279, 280, 281, 282, 283, 284, 285, 286, 287, 288, 289, 290, 291, 292, 293, 294, 295, 296, 297, 298, 299, 300, 301, 302, 303, 304, 305, 149, 150, 151, 306, 307, 308, 309, 310, 311, 312, 313, 314, 315, 316, 317, 318, 319, 320, 321, 322, 323, 324, 325, 326, 327, 328, 329, 330, 331, 332, 333, 334, 335, 336, 337, 338, 339, 340, 341, 342, 343, 344, 345, 346, 347, 348, 349, 350, 351, 352, 353, 354, 355, 356, 357, 358, 359, 360, 361, 362, 363, 364, 365, 366, 367, 368, 160, 369, 370, 371, 372, 373, 374, 375, 376, 377, 378, 379, 380, 381, 382, 383, 384, 385, 386, 387, 388, 389, 390, 391, 392, 393, 394, 395, 396, 397, 398, 399, 400, 401, 402, 403, 404, 418, 419, 420, 421, 422, 423, 424, 425, 426, 427, 428, 429, 439, 440] (by decide +kernel) (by decide +kernel)
set_option maxRecDepth 20000 in
theorem gX11_runCommands_X11_carryOut : GoodIn wsX11_runCommands (wsV RX11 239 RX11 yX11_carryOut wsX11_carryOut) := goodIn_app (goodIn_of _ (by decide +kernel)) ggX11_runCommands_X11_carryOut
theorem dX11_runCommands_0 : decode cX11_runCommands 0 = .ok (.aload_n 0, 1) := by decide +kernel
theorem dX11_runCommands_1 : decode cX11_runCommands 1 = .ok (.getfield 54, 3) := by decide +kernel
theorem dX11_runCommands_4 : decode cX11_runCommands 4 = .ok (.aload_n 0, 1) := by decide +kernel
theorem dX11_runCommands_5 : decode cX11_runCommands 5 = .ok (.getfield 47, 3) := by decide +kernel
theorem dX11_runCommands_8 : decode cX11_runCommands 8 = .ok (.invokevirtual 223, 3) := by decide +kernel
theorem dX11_runCommands_11 : decode cX11_runCommands 11 = .ok (.istore_n 1, 1) := by decide +kernel
theorem dX11_runCommands_12 : decode cX11_runCommands 12 = .ok (.iload_n 1, 1) := by decide +kernel
theorem dX11_runCommands_13 : decode cX11_runCommands 13 = .ok (.ldc 167, 2) := by decide +kernel
theorem dX11_runCommands_15 : decode cX11_runCommands 15 = .ok (.if_icmp .eq 8, 3) := by decide +kernel
theorem dX11_runCommands_18 : decode cX11_runCommands 18 = .ok (.bipush (-10), 2) := by decide +kernel
theorem dX11_runCommands_20 : decode cX11_runCommands 20 = .ok (.iload_n 1, 1) := by decide +kernel
theorem dX11_runCommands_21 : decode cX11_runCommands 21 = .ok (.isub, 1) := by decide +kernel
theorem dX11_runCommands_22 : decode cX11_runCommands 22 = .ok (.ireturn, 1) := by decide +kernel
theorem dX11_runCommands_23 : decode cX11_runCommands 23 = .ok (.aload_n 0, 1) := by decide +kernel
theorem dX11_runCommands_24 : decode cX11_runCommands 24 = .ok (.invokevirtual 70, 3) := by decide +kernel
theorem dX11_runCommands_27 : decode cX11_runCommands 27 = .ok (.aload_n 0, 1) := by decide +kernel
theorem dX11_runCommands_28 : decode cX11_runCommands 28 = .ok (.iconst 0, 1) := by decide +kernel
theorem dX11_runCommands_29 : decode cX11_runCommands 29 = .ok (.putfield 58, 3) := by decide +kernel
theorem dX11_runCommands_32 : decode cX11_runCommands 32 = .ok (.iconst 0, 1) := by decide +kernel
theorem dX11_runCommands_33 : decode cX11_runCommands 33 = .ok (.istore_n 2, 1) := by decide +kernel
theorem dX11_runCommands_34 : decode cX11_runCommands 34 = .ok (.iload_n 2, 1) := by decide +kernel
theorem dX11_runCommands_35 : decode cX11_runCommands 35 = .ok (.aload_n 0, 1) := by decide +kernel
theorem dX11_runCommands_36 : decode cX11_runCommands 36 = .ok (.getfield 54, 3) := by decide +kernel
theorem dX11_runCommands_39 : decode cX11_runCommands 39 = .ok (.getfield 227, 3) := by decide +kernel
theorem dX11_runCommands_42 : decode cX11_runCommands 42 = .ok (.if_icmp .ge 101, 3) := by decide +kernel
theorem dX11_runCommands_45 : decode cX11_runCommands 45 = .ok (.aload_n 0, 1) := by decide +kernel
theorem dX11_runCommands_46 : decode cX11_runCommands 46 = .ok (.getfield 54, 3) := by decide +kernel
theorem dX11_runCommands_49 : decode cX11_runCommands 49 = .ok (.iload_n 2, 1) := by decide +kernel
theorem dX11_runCommands_50 : decode cX11_runCommands 50 = .ok (.invokevirtual 228, 3) := by decide +kernel
theorem dX11_runCommands_53 : decode cX11_runCommands 53 = .ok (.astore_n 3, 1) := by decide +kernel
theorem dX11_runCommands_54 : decode cX11_runCommands 54 = .ok (.aload_n 0, 1) := by decide +kernel
theorem dX11_runCommands_55 : decode cX11_runCommands 55 = .ok (.getfield 54, 3) := by decide +kernel
theorem dX11_runCommands_58 : decode cX11_runCommands 58 = .ok (.iload_n 2, 1) := by decide +kernel
theorem dX11_runCommands_59 : decode cX11_runCommands 59 = .ok (.iconst 0, 1) := by decide +kernel
theorem dX11_runCommands_60 : decode cX11_runCommands 60 = .ok (.invokevirtual 232, 3) := by decide +kernel
theorem dX11_runCommands_63 : decode cX11_runCommands 63 = .ok (.istore 4, 2) := by decide +kernel
theorem dX11_runCommands_65 : decode cX11_runCommands 65 = .ok (.aload_n 0, 1) := by decide +kernel
theorem dX11_runCommands_66 : decode cX11_runCommands 66 = .ok (.getfield 54, 3) := by decide +kernel
theorem dX11_runCommands_69 : decode cX11_runCommands 69 = .ok (.iload_n 2, 1) := by decide +kernel
theorem dX11_runCommands_70 : decode cX11_runCommands 70 = .ok (.iconst 1, 1) := by decide +kernel
theorem dX11_runCommands_71 : decode cX11_runCommands 71 = .ok (.invokevirtual 232, 3) := by decide +kernel
theorem dX11_runCommands_74 : decode cX11_runCommands 74 = .ok (.istore 5, 2) := by decide +kernel
theorem dX11_runCommands_76 : decode cX11_runCommands 76 = .ok (.aload_n 0, 1) := by decide +kernel
theorem dX11_runCommands_77 : decode cX11_runCommands 77 = .ok (.getfield 54, 3) := by decide +kernel
theorem dX11_runCommands_80 : decode cX11_runCommands 80 = .ok (.iload_n 2, 1) := by decide +kernel
theorem dX11_runCommands_81 : decode cX11_runCommands 81 = .ok (.iconst 2, 1) := by decide +kernel
theorem dX11_runCommands_82 : decode cX11_runCommands 82 = .ok (.invokevirtual 232, 3) := by decide +kernel
theorem dX11_runCommands_85 : decode cX11_runCommands 85 = .ok (.istore 6, 2) := by decide +kernel
theorem dX11_runCommands_87 : decode cX11_runCommands 87 = .ok (.aload_n 0, 1) := by decide +kernel
theorem dX11_runCommands_88 : decode cX11_runCommands 88 = .ok (.getfield 54, 3) := by decide +kernel
theorem dX11_runCommands_91 : decode cX11_runCommands 91 = .ok (.iload_n 2, 1) := by decide +kernel
theorem dX11_runCommands_92 : decode cX11_runCommands 92 = .ok (.iconst 3, 1) := by decide +kernel
theorem dX11_runCommands_93 : decode cX11_runCommands 93 = .ok (.invokevirtual 232, 3) := by decide +kernel
theorem dX11_runCommands_96 : decode cX11_runCommands 96 = .ok (.istore 7, 2) := by decide +kernel
theorem dX11_runCommands_98 : decode cX11_runCommands 98 = .ok (.aload_n 0, 1) := by decide +kernel
theorem dX11_runCommands_99 : decode cX11_runCommands 99 = .ok (.aload_n 0, 1) := by decide +kernel
theorem dX11_runCommands_100 : decode cX11_runCommands 100 = .ok (.aload_n 3, 1) := by decide +kernel
theorem dX11_runCommands_101 : decode cX11_runCommands 101 = .ok (.iload 4, 2) := by decide +kernel
theorem dX11_runCommands_103 : decode cX11_runCommands 103 = .ok (.iload 5, 2) := by decide +kernel
theorem dX11_runCommands_105 : decode cX11_runCommands 105 = .ok (.iload 6, 2) := by decide +kernel
theorem dX11_runCommands_107 : decode cX11_runCommands 107 = .ok (.iload 7, 2) := by decide +kernel
theorem dX11_runCommands_109 : decode cX11_runCommands 109 = .ok (.invokevirtual 235, 3) := by decide +kernel
theorem dX11_runCommands_112 : decode cX11_runCommands 112 = .ok (.putfield 58, 3) := by decide +kernel
theorem dX11_runCommands_115 : decode cX11_runCommands 115 = .ok (.aload_n 0, 1) := by decide +kernel
theorem dX11_runCommands_116 : decode cX11_runCommands 116 = .ok (.getfield 58, 3) := by decide +kernel
theorem dX11_runCommands_119 : decode cX11_runCommands 119 = .ok (.ifCond .eq 5, 3) := by decide +kernel
theorem dX11_runCommands_122 : decode cX11_runCommands 122 = .ok (.iload_n 2, 1) := by decide +kernel
theorem dX11_runCommands_123 : decode cX11_runCommands 123 = .ok (.ireturn, 1) := by decide +kernel
theorem dX11_runCommands_124 : decode cX11_runCommands 124 = .ok (.aload_n 0, 1) := by decide +kernel
theorem dX11_runCommands_125 : decode cX11_runCommands 125 = .ok (.aload_n 3, 1) := by decide +kernel
theorem dX11_runCommands_126 : decode cX11_runCommands 126 = .ok (.iload 4, 2) := by decide +kernel
theorem dX11_runCommands_128 : decode cX11_runCommands 128 = .ok (.iload 5, 2) := by decide +kernel
theorem dX11_runCommands_130 : decode cX11_runCommands 130 = .ok (.iload 6, 2) := by decide +kernel
theorem dX11_runCommands_132 : decode cX11_runCommands 132 = .ok (.iload 7, 2) := by decide +kernel
theorem dX11_runCommands_134 : decode cX11_runCommands 134 = .ok (.invokevirtual 239, 3) := by decide +kernel
theorem dX11_runCommands_137 : decode cX11_runCommands 137 = .ok (.iinc 2 1, 3) := by decide +kernel
theorem dX11_runCommands_140 : decode cX11_runCommands 140 = .ok (.goto (-106), 3) := by decide +kernel
theorem dX11_runCommands_143 : decode cX11_runCommands 143 = .ok (.aload_n 0, 1) := by decide +kernel
theorem dX11_runCommands_144 : decode cX11_runCommands 144 = .ok (.getfield 54, 3) := by decide +kernel
theorem dX11_runCommands_147 : decode cX11_runCommands 147 = .ok (.getfield 227, 3) := by decide +kernel
theorem dX11_runCommands_150 : decode cX11_runCommands 150 = .ok (.ireturn, 1) := by decide +kernel
theorem dX11_stop_0 : decode cX11_stop 0 = .ok (.aload_n 0, 1) := by decide +kernel
theorem dX11_stop_1 : decode cX11_stop 1 = .ok (.getfield 58, 3) := by decide +kernel
theorem dX11_stop_4 : decode cX11_stop 4 = .ok (.ireturn, 1) := by decide +kernel
set_option maxRecDepth 20000 in
theorem ggX11_undo_X11_refuse : GoodIn wsX11_undo wsX11_refuse := goodIn_ca (goodIn_ca (goodIn_ca (goodIn_r _ [8, 9, 10, 11, 12, 13, 14] (by decide +kernel) (by decide +kernel)) (goodIn_sub (fun _ h => List.mem_cons_of_mem _ (List.mem_append_left _ (List.mem_append_left _ (List.mem_append_right _ h)))) (by decide +kernel))) (goodIn_sub (fun _ h => List.mem_cons_of_mem _ (List.mem_append_left _ (List.mem_append_right _ h))) (by decide +kernel))) (goodIn_sub (fun _ h => List.mem_cons_of_mem _ (List.mem_append_right _ h)) (by decide +kernel))
set_option maxRecDepth 20000 in
theorem gX11_undo_X11_refuse : GoodIn wsX11_undo (va_wsS RX11 66 yX11_refuse wsX11_refuse) := goodIn_app (goodIn_of _ (by decide +kernel)) ggX11_undo_X11_refuse
set_option maxRecDepth 20000 in
theorem ggX11_undo_X10_pop : GoodIn wsX11_undo wsX10_pop := goodIn_r _ [19, 20, 21, 22, 23, 24, 25, 26, 27, 28, 29, 30, 31, 32, 33, 34, 35, 36, 37, 38, 39, 40, 41, 42, 43, 44, 45, 46, 47, 48, 49, 50, 65, 66, 67, 68, 69, 70, 71, 72, 73, 74, 75, 76, 77, 78, 79] (by decide +kernel) (by decide +kernel)
set_option maxRecDepth 20000 in
theorem gX11_undo_X10_pop : GoodIn wsX11_undo (wsV RX11 246 RX10 yX10_pop wsX10_pop) := goodIn_app (goodIn_of _ (by decide +kernel)) ggX11_undo_X10_pop
set_option maxRecDepth 20000 in
theorem ggX11_undo_X8_outdate : GoodIn wsX11_undo wsX8_outdate := goodIn_r _ [55, 56, 80, 81, 82, 83, 84, 85, 86, 87, 88] (by decide +kernel) (by decide +kernel)
set_option maxRecDepth 20000 in
theorem gX11_undo_X8_outdate : GoodIn wsX11_undo (wsV RX11 250 RX8 yX8_outdate wsX8_outdate) := goodIn_app (goodIn_of _ (by decide +kernel)) ggX11_undo_X8_outdate
theorem dX11_undo_0 : decode cX11_undo 0 = .ok (.aload_n 0, 1) := by decide +kernel
theorem dX11_undo_1 : decode cX11_undo 1 = .ok (.getfield 40, 3) := by decide +kernel
theorem dX11_undo_4 : decode cX11_undo 4 = .ok (.getfield 243, 3) := by decide +kernel
theorem dX11_undo_7 : decode cX11_undo 7 = .ok (.ifCond .ne 7, 3) := by decide +kernel
theorem dX11_undo_10 : decode cX11_undo 10 = .ok (.iconst 3, 1) := by decide +kernel
theorem dX11_undo_11 : decode cX11_undo 11 = .ok (.goto 4, 3) := by decide +kernel
theorem dX11_undo_14 : decode cX11_undo 14 = .ok (.iconst 0, 1) := by decide +kernel
theorem dX11_undo_15 : decode cX11_undo 15 = .ok (.invokestatic 66, 3) := by decide +kernel
theorem dX11_undo_18 : decode cX11_undo 18 = .ok (.aload_n 0, 1) := by decide +kernel
theorem dX11_undo_19 : decode cX11_undo 19 = .ok (.getfield 40, 3) := by decide +kernel
theorem dX11_undo_22 : decode cX11_undo 22 = .ok (.aload_n 0, 1) := by decide +kernel
theorem dX11_undo_23 : decode cX11_undo 23 = .ok (.getfield 10, 3) := by decide +kernel
theorem dX11_undo_26 : decode cX11_undo 26 = .ok (.invokevirtual 246, 3) := by decide +kernel
theorem dX11_undo_29 : decode cX11_undo 29 = .ok (.aload_n 0, 1) := by decide +kernel
theorem dX11_undo_30 : decode cX11_undo 30 = .ok (.getfield 33, 3) := by decide +kernel
theorem dX11_undo_33 : decode cX11_undo 33 = .ok (.invokevirtual 250, 3) := by decide +kernel
theorem dX11_undo_36 : decode cX11_undo 36 = .ok (.aload_n 0, 1) := by decide +kernel
theorem dX11_undo_37 : decode cX11_undo 37 = .ok (.getfield 40, 3) := by decide +kernel
theorem dX11_undo_40 : decode cX11_undo 40 = .ok (.getfield 243, 3) := by decide +kernel
theorem dX11_undo_43 : decode cX11_undo 43 = .ok (.ireturn, 1) := by decide +kernel
set_option maxRecDepth 20000 in
theorem ggX11_digest_X8_take : GoodIn wsX11_digest wsX8_take := goodIn_r _ [14, 15, 16, 17, 18, 19, 20, 21, 22, 23, 13, 24, 25, 26, 27, 28, 29, 30, 31, 32, 33, 34, 35, 36, 37, 38, 39, 40, 41, 42, 43, 44, 45, 46, 47, 48, 49, 50, 51, 52, 53, 54, 55, 56, 57, 58, 59, 60, 61, 62, 63, 64, 65, 66, 67, 68, 69, 70, 71, 72, 73, 74, 75, 76, 77, 78, 79, 80, 81, 82, 83, 84, 85, 86, 87, 88, 89, 90, 91, 92, 93, 94, 95, 96, 97, 98, 99, 100, 101, 102, 103, 104, 105, 106, 107, 108, 109, 110, 184, 185, 186, 187, 188, 189, 190, 191, 192, 193, 194, 195, 196, 197, 198, 199, 200, 201, 202, 203, 204] (by decide +kernel) (by decide +kernel)
set_option maxRecDepth 20000 in
theorem gX11_digest_X8_take : GoodIn wsX11_digest (wsV RX11 174 RX8 yX8_take wsX8_take) := goodIn_app (goodIn_of _ (by decide +kernel)) ggX11_digest_X8_take
set_option maxRecDepth 20000 in
theorem ggX11_digest_X11_mix : GoodIn wsX11_digest wsX11_mix := goodIn_r _ [114, 115] (by decide +kernel) (by decide +kernel)
set_option maxRecDepth 20000 in
theorem gX11_digest_X11_mix : GoodIn wsX11_digest (va_wsS RX11 255 yX11_mix wsX11_mix) := goodIn_app (goodIn_of _ (by decide +kernel)) ggX11_digest_X11_mix
set_option maxRecDepth 20000 in
theorem ggX11_digest_X11_valueOfWhole : GoodIn wsX11_digest wsX11_valueOfWhole := goodIn_r _ [119, 2, 120, 121, 122, 123, 124, 125, 126, 1, 127, 9, 128, 129, 130, 108, 109, 13, 110, 25, 131, 132, 133, 134, 55, 135, 113, 136, 171, 172, 173, 174, 175, 176, 177, 178, 193, 194, 195, 196, 197, 198, 199, 200, 201, 202, 203, 204, 184, 185, 186, 187, 188, 189, 190, 191, 192] (by decide +kernel) (by decide +kernel)
set_option maxRecDepth 20000 in
theorem gX11_digest_X11_valueOfWhole : GoodIn wsX11_digest (wsV RX11 205 RX11 yX11_valueOfWhole wsX11_valueOfWhole) := goodIn_app (goodIn_of _ (by decide +kernel)) ggX11_digest_X11_valueOfWhole
set_option maxRecDepth 20000 in
theorem ggX11_digest_X11_mixMicrophones : GoodIn wsX11_digest wsX11_mixMicrophones := goodIn_r _ [140, 2, 122, 123, 1, 141, 37, 38, 39, 40, 41, 42, 43, 44, 111, 112, 113, 114, 115, 142, 143, 144, 13, 145, 105, 104, 25, 28, 57, 58, 59, 60, 61, 26, 62, 63, 64, 65, 32, 66, 67, 68, 69, 70, 49, 71, 72, 73, 74, 75, 76, 77, 78, 34, 36, 79, 80, 81, 82, 83, 84, 85, 86, 87, 88, 89, 90, 91, 92, 93, 94, 95, 96, 97, 98, 19, 99, 171, 172, 173, 174, 175, 176, 177, 178, 193, 194, 195, 196, 197, 198, 199, 200, 201, 202, 203, 204, 184, 185, 186, 187, 188, 189, 190, 191, 192] (by decide +kernel) (by decide +kernel)
set_option maxRecDepth 20000 in
theorem gX11_digest_X11_mixMicrophones : GoodIn wsX11_digest (wsV RX11 262 RX11 yX11_mixMicrophones wsX11_mixMicrophones) := goodIn_app (goodIn_of _ (by decide +kernel)) ggX11_digest_X11_mixMicrophones
set_option maxRecDepth 20000 in
theorem ggX11_digest_X11_mixTable : GoodIn wsX11_digest wsX11_mixTable := goodIn_r _ [149, 2, 123, 150, 151, 152, 153, 32, 154, 34, 155, 156, 88, 141, 37, 38, 39, 40, 41, 42, 43, 44, 111, 112, 113, 114, 115, 171, 172, 173, 174, 175, 176, 177, 178, 201, 202, 203, 204, 193, 194, 195, 196, 197, 198, 199, 200] (by decide +kernel) (by decide +kernel)
set_option maxRecDepth 20000 in
theorem gX11_digest_X11_mixTable : GoodIn wsX11_digest (wsV RX11 266 RX11 yX11_mixTable wsX11_mixTable) := goodIn_app (goodIn_of _ (by decide +kernel)) ggX11_digest_X11_mixTable
set_option maxRecDepth 20000 in
theorem ggX11_digest_X8_mostBlamed : GoodIn wsX11_digest wsX8_mostBlamed := goodIn_r _ [160, 104, 26, 27, 161, 143, 144, 13, 145, 105, 25, 28, 57, 58, 59, 60, 61, 62, 37, 38, 39, 40, 41, 42, 43, 44, 63, 64, 65, 32, 66, 67, 68, 69, 70, 49, 71, 72, 73, 74, 75, 76, 77, 78, 34, 36, 79, 80, 81, 82, 83, 84, 85, 86, 87, 88, 89, 90, 91, 92, 93, 94, 95, 96, 97, 98, 19, 99, 193, 194, 195, 196, 197, 198, 199, 200, 201, 202, 203, 204, 184, 185, 186, 187, 188, 189, 190, 191, 192] (by decide +kernel) (by decide +kernel)
set_option maxRecDepth 20000 in
theorem gX11_digest_X8_mostBlamed : GoodIn wsX11_digest (wsV RX11 201 RX8 yX8_mostBlamed wsX8_mostBlamed) := goodIn_app (goodIn_of _ (by decide +kernel)) ggX11_digest_X8_mostBlamed
set_option maxRecDepth 20000 in
theorem ggX11_digest_X11_mixCells : GoodIn wsX11_digest wsX11_mixCells := goodIn_r _ [165, 2, 1, 166, 46, 47, 32, 48, 49, 50, 131, 132, 133, 13, 134, 55, 135, 113, 136, 111, 112, 114, 115, 167, 168, 169, 170, 56, 171, 172, 173, 174, 175, 176, 177, 178, 193, 194, 195, 196, 197, 198, 199, 200, 184, 185, 186, 187, 188, 189, 190, 191, 192] (by decide +kernel) (by decide +kernel)
set_option maxRecDepth 20000 in
theorem gX11_digest_X11_mixCells : GoodIn wsX11_digest (wsV RX11 270 RX11 yX11_mixCells wsX11_mixCells) := goodIn_app (goodIn_of _ (by decide +kernel)) ggX11_digest_X11_mixCells
theorem dX11_digest_0 : decode cX11_digest 0 = .ok (.aload_n 0, 1) := by decide +kernel
theorem dX11_digest_1 : decode cX11_digest 1 = .ok (.getfield 33, 3) := by decide +kernel
theorem dX11_digest_4 : decode cX11_digest 4 = .ok (.aload_n 0, 1) := by decide +kernel
theorem dX11_digest_5 : decode cX11_digest 5 = .ok (.getfield 10, 3) := by decide +kernel
theorem dX11_digest_8 : decode cX11_digest 8 = .ok (.iconst (-1), 1) := by decide +kernel
theorem dX11_digest_9 : decode cX11_digest 9 = .ok (.invokevirtual 174, 3) := by decide +kernel
theorem dX11_digest_12 : decode cX11_digest 12 = .ok (.ldc2_w 253, 3) := by decide +kernel
theorem dX11_digest_15 : decode cX11_digest 15 = .ok (.lstore_n 1, 1) := by decide +kernel
theorem dX11_digest_16 : decode cX11_digest 16 = .ok (.lload_n 1, 1) := by decide +kernel
theorem dX11_digest_17 : decode cX11_digest 17 = .ok (.aload_n 0, 1) := by decide +kernel
theorem dX11_digest_18 : decode cX11_digest 18 = .ok (.getfield 40, 3) := by decide +kernel
theorem dX11_digest_21 : decode cX11_digest 21 = .ok (.getfield 243, 3) := by decide +kernel
theorem dX11_digest_24 : decode cX11_digest 24 = .ok (.i2l, 1) := by decide +kernel
theorem dX11_digest_25 : decode cX11_digest 25 = .ok (.invokestatic 255, 3) := by decide +kernel
theorem dX11_digest_28 : decode cX11_digest 28 = .ok (.lstore_n 1, 1) := by decide +kernel
theorem dX11_digest_29 : decode cX11_digest 29 = .ok (.lload_n 1, 1) := by decide +kernel
theorem dX11_digest_30 : decode cX11_digest 30 = .ok (.aload_n 0, 1) := by decide +kernel
theorem dX11_digest_31 : decode cX11_digest 31 = .ok (.getfield 47, 3) := by decide +kernel
theorem dX11_digest_34 : decode cX11_digest 34 = .ok (.getfield 259, 3) := by decide +kernel
theorem dX11_digest_37 : decode cX11_digest 37 = .ok (.i2l, 1) := by decide +kernel
theorem dX11_digest_38 : decode cX11_digest 38 = .ok (.invokestatic 255, 3) := by decide +kernel
theorem dX11_digest_41 : decode cX11_digest 41 = .ok (.lstore_n 1, 1) := by decide +kernel
theorem dX11_digest_42 : decode cX11_digest 42 = .ok (.lload_n 1, 1) := by decide +kernel
theorem dX11_digest_43 : decode cX11_digest 43 = .ok (.aload_n 0, 1) := by decide +kernel
theorem dX11_digest_44 : decode cX11_digest 44 = .ok (.getfield 58, 3) := by decide +kernel
theorem dX11_digest_47 : decode cX11_digest 47 = .ok (.i2l, 1) := by decide +kernel
theorem dX11_digest_48 : decode cX11_digest 48 = .ok (.invokestatic 255, 3) := by decide +kernel
theorem dX11_digest_51 : decode cX11_digest 51 = .ok (.lstore_n 1, 1) := by decide +kernel
theorem dX11_digest_52 : decode cX11_digest 52 = .ok (.iconst 0, 1) := by decide +kernel
theorem dX11_digest_53 : decode cX11_digest 53 = .ok (.istore_n 3, 1) := by decide +kernel
theorem dX11_digest_54 : decode cX11_digest 54 = .ok (.iload_n 3, 1) := by decide +kernel
theorem dX11_digest_55 : decode cX11_digest 55 = .ok (.bipush 10, 2) := by decide +kernel
theorem dX11_digest_57 : decode cX11_digest 57 = .ok (.if_icmp .gt 20, 3) := by decide +kernel
theorem dX11_digest_60 : decode cX11_digest 60 = .ok (.lload_n 1, 1) := by decide +kernel
theorem dX11_digest_61 : decode cX11_digest 61 = .ok (.aload_n 0, 1) := by decide +kernel
theorem dX11_digest_62 : decode cX11_digest 62 = .ok (.iload_n 3, 1) := by decide +kernel
theorem dX11_digest_63 : decode cX11_digest 63 = .ok (.invokevirtual 205, 3) := by decide +kernel
theorem dX11_digest_66 : decode cX11_digest 66 = .ok (.i2l, 1) := by decide +kernel
theorem dX11_digest_67 : decode cX11_digest 67 = .ok (.invokestatic 255, 3) := by decide +kernel
theorem dX11_digest_70 : decode cX11_digest 70 = .ok (.lstore_n 1, 1) := by decide +kernel
theorem dX11_digest_71 : decode cX11_digest 71 = .ok (.iinc 3 1, 3) := by decide +kernel
theorem dX11_digest_74 : decode cX11_digest 74 = .ok (.goto (-20), 3) := by decide +kernel
theorem dX11_digest_77 : decode cX11_digest 77 = .ok (.aload_n 0, 1) := by decide +kernel
theorem dX11_digest_78 : decode cX11_digest 78 = .ok (.lload_n 1, 1) := by decide +kernel
theorem dX11_digest_79 : decode cX11_digest 79 = .ok (.invokevirtual 262, 3) := by decide +kernel
theorem dX11_digest_82 : decode cX11_digest 82 = .ok (.lstore_n 1, 1) := by decide +kernel
theorem dX11_digest_83 : decode cX11_digest 83 = .ok (.aload_n 0, 1) := by decide +kernel
theorem dX11_digest_84 : decode cX11_digest 84 = .ok (.lload_n 1, 1) := by decide +kernel
theorem dX11_digest_85 : decode cX11_digest 85 = .ok (.iconst 1, 1) := by decide +kernel
theorem dX11_digest_86 : decode cX11_digest 86 = .ok (.invokevirtual 266, 3) := by decide +kernel
theorem dX11_digest_89 : decode cX11_digest 89 = .ok (.lstore_n 1, 1) := by decide +kernel
theorem dX11_digest_90 : decode cX11_digest 90 = .ok (.aload_n 0, 1) := by decide +kernel
theorem dX11_digest_91 : decode cX11_digest 91 = .ok (.lload_n 1, 1) := by decide +kernel
theorem dX11_digest_92 : decode cX11_digest 92 = .ok (.iconst 2, 1) := by decide +kernel
theorem dX11_digest_93 : decode cX11_digest 93 = .ok (.invokevirtual 266, 3) := by decide +kernel
theorem dX11_digest_96 : decode cX11_digest 96 = .ok (.lstore_n 1, 1) := by decide +kernel
theorem dX11_digest_97 : decode cX11_digest 97 = .ok (.aload_n 0, 1) := by decide +kernel
theorem dX11_digest_98 : decode cX11_digest 98 = .ok (.lload_n 1, 1) := by decide +kernel
theorem dX11_digest_99 : decode cX11_digest 99 = .ok (.iconst 3, 1) := by decide +kernel
theorem dX11_digest_100 : decode cX11_digest 100 = .ok (.invokevirtual 266, 3) := by decide +kernel
theorem dX11_digest_103 : decode cX11_digest 103 = .ok (.lstore_n 1, 1) := by decide +kernel
theorem dX11_digest_104 : decode cX11_digest 104 = .ok (.lload_n 1, 1) := by decide +kernel
theorem dX11_digest_105 : decode cX11_digest 105 = .ok (.aload_n 0, 1) := by decide +kernel
theorem dX11_digest_106 : decode cX11_digest 106 = .ok (.getfield 33, 3) := by decide +kernel
theorem dX11_digest_109 : decode cX11_digest 109 = .ok (.getfield 185, 3) := by decide +kernel
theorem dX11_digest_112 : decode cX11_digest 112 = .ok (.i2l, 1) := by decide +kernel
theorem dX11_digest_113 : decode cX11_digest 113 = .ok (.invokestatic 255, 3) := by decide +kernel
theorem dX11_digest_116 : decode cX11_digest 116 = .ok (.lstore_n 1, 1) := by decide +kernel
theorem dX11_digest_117 : decode cX11_digest 117 = .ok (.lload_n 1, 1) := by decide +kernel
theorem dX11_digest_118 : decode cX11_digest 118 = .ok (.aload_n 0, 1) := by decide +kernel
theorem dX11_digest_119 : decode cX11_digest 119 = .ok (.getfield 33, 3) := by decide +kernel
theorem dX11_digest_122 : decode cX11_digest 122 = .ok (.aload_n 0, 1) := by decide +kernel
theorem dX11_digest_123 : decode cX11_digest 123 = .ok (.getfield 10, 3) := by decide +kernel
theorem dX11_digest_126 : decode cX11_digest 126 = .ok (.invokevirtual 201, 3) := by decide +kernel
theorem dX11_digest_129 : decode cX11_digest 129 = .ok (.i2l, 1) := by decide +kernel
theorem dX11_digest_130 : decode cX11_digest 130 = .ok (.invokestatic 255, 3) := by decide +kernel
theorem dX11_digest_133 : decode cX11_digest 133 = .ok (.lstore_n 1, 1) := by decide +kernel
theorem dX11_digest_134 : decode cX11_digest 134 = .ok (.aload_n 0, 1) := by decide +kernel
theorem dX11_digest_135 : decode cX11_digest 135 = .ok (.lload_n 1, 1) := by decide +kernel
theorem dX11_digest_136 : decode cX11_digest 136 = .ok (.invokevirtual 270, 3) := by decide +kernel
theorem dX11_digest_139 : decode cX11_digest 139 = .ok (.lreturn, 1) := by decide +kernel
theorem dX11_refuse_0 : decode cX11_refuse 0 = .ok (.iload_n 0, 1) := by decide +kernel
theorem dX11_refuse_1 : decode cX11_refuse 1 = .ok (.iconst 1, 1) := by decide +kernel
theorem dX11_refuse_2 : decode cX11_refuse 2 = .ok (.if_icmp .ne 14, 3) := by decide +kernel
theorem dX11_refuse_5 : decode cX11_refuse 5 = .ok (.new 273, 3) := by decide +kernel
theorem dX11_refuse_8 : decode cX11_refuse 8 = .ok (.dup, 1) := by decide +kernel
theorem dX11_refuse_9 : decode cX11_refuse 9 = .ok (.ldc_w 275, 3) := by decide +kernel
theorem dX11_refuse_12 : decode cX11_refuse 12 = .ok (.invokespecial 277, 3) := by decide +kernel
theorem dX11_refuse_15 : decode cX11_refuse 15 = .ok (.athrow, 1) := by decide +kernel
theorem dX11_refuse_16 : decode cX11_refuse 16 = .ok (.iload_n 0, 1) := by decide +kernel
theorem dX11_refuse_17 : decode cX11_refuse 17 = .ok (.iconst 2, 1) := by decide +kernel
theorem dX11_refuse_18 : decode cX11_refuse 18 = .ok (.if_icmp .ne 14, 3) := by decide +kernel
theorem dX11_refuse_21 : decode cX11_refuse 21 = .ok (.new 280, 3) := by decide +kernel
theorem dX11_refuse_24 : decode cX11_refuse 24 = .ok (.dup, 1) := by decide +kernel
theorem dX11_refuse_25 : decode cX11_refuse 25 = .ok (.ldc_w 282, 3) := by decide +kernel
theorem dX11_refuse_28 : decode cX11_refuse 28 = .ok (.invokespecial 284, 3) := by decide +kernel
theorem dX11_refuse_31 : decode cX11_refuse 31 = .ok (.athrow, 1) := by decide +kernel
theorem dX11_refuse_32 : decode cX11_refuse 32 = .ok (.iload_n 0, 1) := by decide +kernel
theorem dX11_refuse_33 : decode cX11_refuse 33 = .ok (.iconst 3, 1) := by decide +kernel
theorem dX11_refuse_34 : decode cX11_refuse 34 = .ok (.if_icmp .ne 14, 3) := by decide +kernel
theorem dX11_refuse_37 : decode cX11_refuse 37 = .ok (.new 285, 3) := by decide +kernel
theorem dX11_refuse_40 : decode cX11_refuse 40 = .ok (.dup, 1) := by decide +kernel
theorem dX11_refuse_41 : decode cX11_refuse 41 = .ok (.ldc_w 287, 3) := by decide +kernel
theorem dX11_refuse_44 : decode cX11_refuse 44 = .ok (.invokespecial 289, 3) := by decide +kernel
theorem dX11_refuse_47 : decode cX11_refuse 47 = .ok (.athrow, 1) := by decide +kernel
theorem dX11_refuse_48 : decode cX11_refuse 48 = .ok (.return_, 1) := by decide +kernel
set_option maxRecDepth 20000 in
theorem ggX11_requireThere_X11_refuse : GoodIn wsX11_requireThere wsX11_refuse := goodIn_ca (goodIn_ca (goodIn_ca (goodIn_r _ [4, 5, 6, 7, 8, 9, 10] (by decide +kernel) (by decide +kernel)) (goodIn_sub (fun _ h => List.mem_cons_of_mem _ (List.mem_append_left _ (List.mem_append_left _ (List.mem_append_right _ h)))) (by decide +kernel))) (goodIn_sub (fun _ h => List.mem_cons_of_mem _ (List.mem_append_left _ (List.mem_append_right _ h))) (by decide +kernel))) (goodIn_sub (fun _ h => List.mem_cons_of_mem _ (List.mem_append_right _ h)) (by decide +kernel))
set_option maxRecDepth 20000 in
theorem gX11_requireThere_X11_refuse : GoodIn wsX11_requireThere (va_wsS RX11 66 yX11_refuse wsX11_refuse) := goodIn_app (goodIn_of _ (by decide +kernel)) ggX11_requireThere_X11_refuse
theorem dX11_requireThere_0 : decode cX11_requireThere 0 = .ok (.iload_n 0, 1) := by decide +kernel
theorem dX11_requireThere_1 : decode cX11_requireThere 1 = .ok (.ifCond .eq 7, 3) := by decide +kernel
theorem dX11_requireThere_4 : decode cX11_requireThere 4 = .ok (.iconst 0, 1) := by decide +kernel
theorem dX11_requireThere_5 : decode cX11_requireThere 5 = .ok (.goto 4, 3) := by decide +kernel
theorem dX11_requireThere_8 : decode cX11_requireThere 8 = .ok (.iconst 1, 1) := by decide +kernel
theorem dX11_requireThere_9 : decode cX11_requireThere 9 = .ok (.invokestatic 66, 3) := by decide +kernel
theorem dX11_requireThere_12 : decode cX11_requireThere 12 = .ok (.return_, 1) := by decide +kernel
set_option maxRecDepth 20000 in
theorem ggX11_requireRange_X11_refuse : GoodIn wsX11_requireRange wsX11_refuse := goodIn_ca (goodIn_ca (goodIn_ca (goodIn_r _ [4, 5, 6, 7, 8, 9, 10] (by decide +kernel) (by decide +kernel)) (goodIn_sub (fun _ h => List.mem_cons_of_mem _ (List.mem_append_left _ (List.mem_append_left _ (List.mem_append_right _ h)))) (by decide +kernel))) (goodIn_sub (fun _ h => List.mem_cons_of_mem _ (List.mem_append_left _ (List.mem_append_right _ h))) (by decide +kernel))) (goodIn_sub (fun _ h => List.mem_cons_of_mem _ (List.mem_append_right _ h)) (by decide +kernel))
set_option maxRecDepth 20000 in
theorem gX11_requireRange_X11_refuse : GoodIn wsX11_requireRange (va_wsS RX11 66 yX11_refuse wsX11_refuse) := goodIn_app (goodIn_of _ (by decide +kernel)) ggX11_requireRange_X11_refuse
theorem dX11_requireRange_0 : decode cX11_requireRange 0 = .ok (.iload_n 0, 1) := by decide +kernel
theorem dX11_requireRange_1 : decode cX11_requireRange 1 = .ok (.ifCond .eq 7, 3) := by decide +kernel
theorem dX11_requireRange_4 : decode cX11_requireRange 4 = .ok (.iconst 0, 1) := by decide +kernel
theorem dX11_requireRange_5 : decode cX11_requireRange 5 = .ok (.goto 4, 3) := by decide +kernel
theorem dX11_requireRange_8 : decode cX11_requireRange 8 = .ok (.iconst 2, 1) := by decide +kernel
theorem dX11_requireRange_9 : decode cX11_requireRange 9 = .ok (.invokestatic 66, 3) := by decide +kernel
theorem dX11_requireRange_12 : decode cX11_requireRange 12 = .ok (.return_, 1) := by decide +kernel
theorem dX11_isBetween_0 : decode cX11_isBetween 0 = .ok (.iload_n 0, 1) := by decide +kernel
theorem dX11_isBetween_1 : decode cX11_isBetween 1 = .ok (.iload_n 1, 1) := by decide +kernel
theorem dX11_isBetween_2 : decode cX11_isBetween 2 = .ok (.if_icmp .lt 12, 3) := by decide +kernel
theorem dX11_isBetween_5 : decode cX11_isBetween 5 = .ok (.iload_n 0, 1) := by decide +kernel
theorem dX11_isBetween_6 : decode cX11_isBetween 6 = .ok (.iload_n 2, 1) := by decide +kernel
theorem dX11_isBetween_7 : decode cX11_isBetween 7 = .ok (.if_icmp .gt 7, 3) := by decide +kernel
theorem dX11_isBetween_10 : decode cX11_isBetween 10 = .ok (.iconst 1, 1) := by decide +kernel
theorem dX11_isBetween_11 : decode cX11_isBetween 11 = .ok (.goto 4, 3) := by decide +kernel
theorem dX11_isBetween_14 : decode cX11_isBetween 14 = .ok (.iconst 0, 1) := by decide +kernel
theorem dX11_isBetween_15 : decode cX11_isBetween 15 = .ok (.ireturn, 1) := by decide +kernel
set_option maxRecDepth 20000 in
theorem ggX11_isClickPlace_X11_isBetween : GoodIn wsX11_isClickPlace wsX11_isBetween := goodIn_r _ [4] (by decide +kernel) (by decide +kernel)
set_option maxRecDepth 20000 in
theorem gX11_isClickPlace_X11_isBetween : GoodIn wsX11_isClickPlace (va_wsS RX11 96 yX11_isBetween wsX11_isBetween) := goodIn_app (goodIn_of _ (by decide +kernel)) ggX11_isClickPlace_X11_isBetween
theorem dX11_isClickPlace_0 : decode cX11_isClickPlace 0 = .ok (.iload_n 0, 1) := by decide +kernel
theorem dX11_isClickPlace_1 : decode cX11_isClickPlace 1 = .ok (.sipush (-1000), 3) := by decide +kernel
theorem dX11_isClickPlace_4 : decode cX11_isClickPlace 4 = .ok (.sipush 3000, 3) := by decide +kernel
theorem dX11_isClickPlace_7 : decode cX11_isClickPlace 7 = .ok (.invokestatic 96, 3) := by decide +kernel
theorem dX11_isClickPlace_10 : decode cX11_isClickPlace 10 = .ok (.ifCond .eq 20, 3) := by decide +kernel
theorem dX11_isClickPlace_13 : decode cX11_isClickPlace 13 = .ok (.iload_n 1, 1) := by decide +kernel
theorem dX11_isClickPlace_14 : decode cX11_isClickPlace 14 = .ok (.sipush (-1000), 3) := by decide +kernel
theorem dX11_isClickPlace_17 : decode cX11_isClickPlace 17 = .ok (.sipush 3000, 3) := by decide +kernel
theorem dX11_isClickPlace_20 : decode cX11_isClickPlace 20 = .ok (.invokestatic 96, 3) := by decide +kernel
theorem dX11_isClickPlace_23 : decode cX11_isClickPlace 23 = .ok (.ifCond .eq 7, 3) := by decide +kernel
theorem dX11_isClickPlace_26 : decode cX11_isClickPlace 26 = .ok (.iconst 1, 1) := by decide +kernel
theorem dX11_isClickPlace_27 : decode cX11_isClickPlace 27 = .ok (.goto 4, 3) := by decide +kernel
theorem dX11_isClickPlace_30 : decode cX11_isClickPlace 30 = .ok (.iconst 0, 1) := by decide +kernel
theorem dX11_isClickPlace_31 : decode cX11_isClickPlace 31 = .ok (.ireturn, 1) := by decide +kernel
set_option maxRecDepth 20000 in
theorem ggX11_saveState_X10_push : GoodIn wsX11_saveState wsX10_push := goodIn_r _ [8, 9, 10, 11, 12, 13, 14, 15, 16, 17, 18, 19, 20, 21, 22, 23, 24, 25, 26, 27, 28, 29, 30, 31, 32, 33, 34, 35, 36, 37, 38, 39, 40, 55, 56, 57, 58, 59, 60, 61, 62, 63, 64, 65, 66, 67, 68, 69] (by decide +kernel) (by decide +kernel)
set_option maxRecDepth 20000 in
theorem gX11_saveState_X10_push : GoodIn wsX11_saveState (wsV RX11 290 RX10 yX10_push wsX10_push) := goodIn_app (goodIn_of _ (by decide +kernel)) ggX11_saveState_X10_push
set_option maxRecDepth 20000 in
theorem ggX11_saveState_X8_outdate : GoodIn wsX11_saveState wsX8_outdate := goodIn_r _ [45, 46, 70, 71, 72, 73, 74, 75, 76, 77, 78] (by decide +kernel) (by decide +kernel)
set_option maxRecDepth 20000 in
theorem gX11_saveState_X8_outdate : GoodIn wsX11_saveState (wsV RX11 250 RX8 yX8_outdate wsX8_outdate) := goodIn_app (goodIn_of _ (by decide +kernel)) ggX11_saveState_X8_outdate
theorem dX11_saveState_0 : decode cX11_saveState 0 = .ok (.aload_n 0, 1) := by decide +kernel
theorem dX11_saveState_1 : decode cX11_saveState 1 = .ok (.getfield 40, 3) := by decide +kernel
theorem dX11_saveState_4 : decode cX11_saveState 4 = .ok (.aload_n 0, 1) := by decide +kernel
theorem dX11_saveState_5 : decode cX11_saveState 5 = .ok (.getfield 10, 3) := by decide +kernel
theorem dX11_saveState_8 : decode cX11_saveState 8 = .ok (.invokevirtual 290, 3) := by decide +kernel
theorem dX11_saveState_11 : decode cX11_saveState 11 = .ok (.aload_n 0, 1) := by decide +kernel
theorem dX11_saveState_12 : decode cX11_saveState 12 = .ok (.getfield 33, 3) := by decide +kernel
theorem dX11_saveState_15 : decode cX11_saveState 15 = .ok (.invokevirtual 250, 3) := by decide +kernel
theorem dX11_saveState_18 : decode cX11_saveState 18 = .ok (.return_, 1) := by decide +kernel
set_option maxRecDepth 20000 in
theorem ggX11_refusalOf_Jx29ce0_ordinal_8abf5 : GoodIn wsX11_refusalOf wsJx29ce0_ordinal_8abf5 := goodIn_r _ [8, 9] (by decide +kernel) (by decide +kernel)
set_option maxRecDepth 20000 in
theorem gX11_refusalOf_Jx29ce0_ordinal_8abf5_u298X3 : GoodIn wsX11_refusalOf (va_wsU RX11 298 RX3 "java/lang/Enum" ⟨"ClickBench$Command", "ordinal", "()I"⟩ yJx29ce0_ordinal_8abf5 wsJx29ce0_ordinal_8abf5) := goodIn_app (goodIn_of _ (by decide +kernel)) ggX11_refusalOf_Jx29ce0_ordinal_8abf5
set_option maxRecDepth 20000 in
theorem ggX11_refusalOf_X2_refusalOfField : GoodIn wsX11_refusalOf wsX2_refusalOfField := goodIn_r _ [14, 15, 16, 17] (by decide +kernel) (by decide +kernel)
set_option maxRecDepth 20000 in
theorem gX11_refusalOf_X2_refusalOfField : GoodIn wsX11_refusalOf (wsV RX11 62 RX2 yX2_refusalOfField wsX2_refusalOfField) := goodIn_app (goodIn_of _ (by decide +kernel)) ggX11_refusalOf_X2_refusalOfField
set_option maxRecDepth 20000 in
theorem ggX11_refusalOf_X2_refusalOfMicrophone : GoodIn wsX11_refusalOf wsX2_refusalOfMicrophone := goodIn_r _ [21, 22, 15, 16, 17, 23, 24, 25, 26, 27, 28, 29, 61, 62, 63, 64, 65, 66, 67, 68, 69, 70, 71, 72] (by decide +kernel) (by decide +kernel)
set_option maxRecDepth 20000 in
theorem gX11_refusalOf_X2_refusalOfMicrophone : GoodIn wsX11_refusalOf (wsV RX11 76 RX2 yX2_refusalOfMicrophone wsX2_refusalOfMicrophone) := goodIn_app (goodIn_of _ (by decide +kernel)) ggX11_refusalOf_X2_refusalOfMicrophone
set_option maxRecDepth 20000 in
theorem ggX11_refusalOf_X2_refusalOfWall : GoodIn wsX11_refusalOf wsX2_refusalOfWall := goodIn_r _ [33, 34, 15, 16, 17, 23, 24, 25, 26, 27, 28, 29, 61, 62, 63, 64, 65, 66, 67, 68, 69, 70, 71, 72] (by decide +kernel) (by decide +kernel)
set_option maxRecDepth 20000 in
theorem gX11_refusalOf_X2_refusalOfWall : GoodIn wsX11_refusalOf (wsV RX11 110 RX2 yX2_refusalOfWall wsX2_refusalOfWall) := goodIn_app (goodIn_of _ (by decide +kernel)) ggX11_refusalOf_X2_refusalOfWall
set_option maxRecDepth 20000 in
theorem ggX11_refusalOf_X2_refusalOfScreen : GoodIn wsX11_refusalOf wsX2_refusalOfScreen := goodIn_r _ [38, 39, 15, 16, 17, 23, 24, 25, 26, 27, 28, 29, 61, 62, 63, 64, 65, 66, 67, 68, 69, 70, 71, 72] (by decide +kernel) (by decide +kernel)
set_option maxRecDepth 20000 in
theorem gX11_refusalOf_X2_refusalOfScreen : GoodIn wsX11_refusalOf (wsV RX11 117 RX2 yX2_refusalOfScreen wsX2_refusalOfScreen) := goodIn_app (goodIn_of _ (by decide +kernel)) ggX11_refusalOf_X2_refusalOfScreen
set_option maxRecDepth 20000 in
theorem ggX11_refusalOf_X2_refusalOfSetting : GoodIn wsX11_refusalOf wsX2_refusalOfSetting := goodIn_r _ [43, 15, 16, 17] (by decide +kernel) (by decide +kernel)
set_option maxRecDepth 20000 in
theorem gX11_refusalOf_X2_refusalOfSetting : GoodIn wsX11_refusalOf (wsV RX11 134 RX2 yX2_refusalOfSetting wsX2_refusalOfSetting) := goodIn_app (goodIn_of _ (by decide +kernel)) ggX11_refusalOf_X2_refusalOfSetting
set_option maxRecDepth 20000 in
theorem ggX11_refusalOf_X2_refusalOfClick : GoodIn wsX11_refusalOf wsX2_refusalOfClick := goodIn_r _ [47, 48, 22, 49, 50, 16, 51, 52, 15, 17, 61, 62, 63, 64, 65, 66, 67, 68, 69, 70, 71, 72] (by decide +kernel) (by decide +kernel)
set_option maxRecDepth 20000 in
theorem gX11_refusalOf_X2_refusalOfClick : GoodIn wsX11_refusalOf (wsV RX11 143 RX2 yX2_refusalOfClick wsX2_refusalOfClick) := goodIn_app (goodIn_of _ (by decide +kernel)) ggX11_refusalOf_X2_refusalOfClick
theorem dX11_refusalOf_0 : decode cX11_refusalOf 0 = .ok (.aload_n 1, 1) := by decide +kernel
theorem dX11_refusalOf_1 : decode cX11_refusalOf 1 = .ok (.ifnonnull 5, 3) := by decide +kernel
theorem dX11_refusalOf_4 : decode cX11_refusalOf 4 = .ok (.iconst 2, 1) := by decide +kernel
theorem dX11_refusalOf_5 : decode cX11_refusalOf 5 = .ok (.ireturn, 1) := by decide +kernel
theorem dX11_refusalOf_6 : decode cX11_refusalOf 6 = .ok (.getstatic 293, 3) := by decide +kernel
theorem dX11_refusalOf_9 : decode cX11_refusalOf 9 = .ok (.aload_n 1, 1) := by decide +kernel
theorem dX11_refusalOf_10 : decode cX11_refusalOf 10 = .ok (.invokevirtual 298, 3) := by decide +kernel
theorem dX11_refusalOf_13 : decode cX11_refusalOf 13 = .ok (.iaload, 1) := by decide +kernel
theorem dX11_refusalOf_14 : decode cX11_refusalOf 14 = .ok (.tableswitch 90 1 5 #[34, 44, 54, 66, 80], 34) := by decide +kernel
theorem dX11_refusalOf_48 : decode cX11_refusalOf 48 = .ok (.aload_n 0, 1) := by decide +kernel
theorem dX11_refusalOf_49 : decode cX11_refusalOf 49 = .ok (.getfield 10, 3) := by decide +kernel
theorem dX11_refusalOf_52 : decode cX11_refusalOf 52 = .ok (.iload_n 2, 1) := by decide +kernel
theorem dX11_refusalOf_53 : decode cX11_refusalOf 53 = .ok (.iload_n 3, 1) := by decide +kernel
theorem dX11_refusalOf_54 : decode cX11_refusalOf 54 = .ok (.invokevirtual 62, 3) := by decide +kernel
theorem dX11_refusalOf_57 : decode cX11_refusalOf 57 = .ok (.ireturn, 1) := by decide +kernel
theorem dX11_refusalOf_58 : decode cX11_refusalOf 58 = .ok (.aload_n 0, 1) := by decide +kernel
theorem dX11_refusalOf_59 : decode cX11_refusalOf 59 = .ok (.getfield 10, 3) := by decide +kernel
theorem dX11_refusalOf_62 : decode cX11_refusalOf 62 = .ok (.iload_n 2, 1) := by decide +kernel
theorem dX11_refusalOf_63 : decode cX11_refusalOf 63 = .ok (.iload_n 3, 1) := by decide +kernel
theorem dX11_refusalOf_64 : decode cX11_refusalOf 64 = .ok (.invokevirtual 76, 3) := by decide +kernel
theorem dX11_refusalOf_67 : decode cX11_refusalOf 67 = .ok (.ireturn, 1) := by decide +kernel
theorem dX11_refusalOf_68 : decode cX11_refusalOf 68 = .ok (.aload_n 0, 1) := by decide +kernel
theorem dX11_refusalOf_69 : decode cX11_refusalOf 69 = .ok (.getfield 10, 3) := by decide +kernel
theorem dX11_refusalOf_72 : decode cX11_refusalOf 72 = .ok (.iload_n 2, 1) := by decide +kernel
theorem dX11_refusalOf_73 : decode cX11_refusalOf 73 = .ok (.iload_n 3, 1) := by decide +kernel
theorem dX11_refusalOf_74 : decode cX11_refusalOf 74 = .ok (.iload 4, 2) := by decide +kernel
theorem dX11_refusalOf_76 : decode cX11_refusalOf 76 = .ok (.invokevirtual 110, 3) := by decide +kernel
theorem dX11_refusalOf_79 : decode cX11_refusalOf 79 = .ok (.ireturn, 1) := by decide +kernel
theorem dX11_refusalOf_80 : decode cX11_refusalOf 80 = .ok (.aload_n 0, 1) := by decide +kernel
theorem dX11_refusalOf_81 : decode cX11_refusalOf 81 = .ok (.getfield 10, 3) := by decide +kernel
theorem dX11_refusalOf_84 : decode cX11_refusalOf 84 = .ok (.iload_n 2, 1) := by decide +kernel
theorem dX11_refusalOf_85 : decode cX11_refusalOf 85 = .ok (.iload_n 3, 1) := by decide +kernel
theorem dX11_refusalOf_86 : decode cX11_refusalOf 86 = .ok (.iload 4, 2) := by decide +kernel
theorem dX11_refusalOf_88 : decode cX11_refusalOf 88 = .ok (.iload 5, 2) := by decide +kernel
theorem dX11_refusalOf_90 : decode cX11_refusalOf 90 = .ok (.invokevirtual 117, 3) := by decide +kernel
theorem dX11_refusalOf_93 : decode cX11_refusalOf 93 = .ok (.ireturn, 1) := by decide +kernel
theorem dX11_refusalOf_94 : decode cX11_refusalOf 94 = .ok (.aload_n 0, 1) := by decide +kernel
theorem dX11_refusalOf_95 : decode cX11_refusalOf 95 = .ok (.getfield 10, 3) := by decide +kernel
theorem dX11_refusalOf_98 : decode cX11_refusalOf 98 = .ok (.iload_n 2, 1) := by decide +kernel
theorem dX11_refusalOf_99 : decode cX11_refusalOf 99 = .ok (.iload_n 3, 1) := by decide +kernel
theorem dX11_refusalOf_100 : decode cX11_refusalOf 100 = .ok (.invokevirtual 134, 3) := by decide +kernel
theorem dX11_refusalOf_103 : decode cX11_refusalOf 103 = .ok (.ireturn, 1) := by decide +kernel
theorem dX11_refusalOf_104 : decode cX11_refusalOf 104 = .ok (.aload_n 0, 1) := by decide +kernel
theorem dX11_refusalOf_105 : decode cX11_refusalOf 105 = .ok (.getfield 10, 3) := by decide +kernel
theorem dX11_refusalOf_108 : decode cX11_refusalOf 108 = .ok (.iload_n 2, 1) := by decide +kernel
theorem dX11_refusalOf_109 : decode cX11_refusalOf 109 = .ok (.iload_n 3, 1) := by decide +kernel
theorem dX11_refusalOf_110 : decode cX11_refusalOf 110 = .ok (.iload 4, 2) := by decide +kernel
theorem dX11_refusalOf_112 : decode cX11_refusalOf 112 = .ok (.invokevirtual 143, 3) := by decide +kernel
theorem dX11_refusalOf_115 : decode cX11_refusalOf 115 = .ok (.ireturn, 1) := by decide +kernel
set_option maxRecDepth 20000 in
theorem ggX11_carryOut_Jx29ce0_ordinal_8abf5 : GoodIn wsX11_carryOut wsJx29ce0_ordinal_8abf5 := goodIn_r _ [9, 10] (by decide +kernel) (by decide +kernel)
set_option maxRecDepth 20000 in
theorem gX11_carryOut_Jx29ce0_ordinal_8abf5_u298X3 : GoodIn wsX11_carryOut (va_wsU RX11 298 RX3 "java/lang/Enum" ⟨"ClickBench$Command", "ordinal", "()I"⟩ yJx29ce0_ordinal_8abf5 wsJx29ce0_ordinal_8abf5) := goodIn_app (goodIn_of _ (by decide +kernel)) ggX11_carryOut_Jx29ce0_ordinal_8abf5
set_option maxRecDepth 20000 in
theorem ggX11_carryOut_X2_startField : GoodIn wsX11_carryOut wsX2_startField := goodIn_r _ [15, 16, 17, 18, 19, 20, 21, 22, 197, 198, 199, 200, 201, 202, 203, 204, 205, 206, 207, 208] (by decide +kernel) (by decide +kernel)
set_option maxRecDepth 20000 in
theorem gX11_carryOut_X2_startField : GoodIn wsX11_carryOut (wsV RX11 73 RX2 yX2_startField wsX2_startField) := goodIn_app (goodIn_of _ (by decide +kernel)) ggX11_carryOut_X2_startField
set_option maxRecDepth 20000 in
theorem ggX11_carryOut_X2_placeMicrophone : GoodIn wsX11_carryOut wsX2_placeMicrophone := goodIn_r _ [26, 19, 27, 28, 29, 30, 31, 32, 33, 34, 35, 36, 37, 38, 39, 40, 41, 42, 43, 44, 45, 197, 198, 199, 200, 201, 202, 203, 204, 205, 206, 207, 208] (by decide +kernel) (by decide +kernel)
set_option maxRecDepth 20000 in
theorem gX11_carryOut_X2_placeMicrophone : GoodIn wsX11_carryOut (wsV RX11 79 RX2 yX2_placeMicrophone wsX2_placeMicrophone) := goodIn_app (goodIn_of _ (by decide +kernel)) ggX11_carryOut_X2_placeMicrophone
set_option maxRecDepth 20000 in
theorem ggX11_carryOut_X2_placeWall : GoodIn wsX11_carryOut wsX2_placeWall := goodIn_r _ [49, 21, 27, 28, 29, 30, 31, 32, 33, 34, 35, 36, 37, 38, 39, 40, 41, 42, 43, 44, 45, 197, 198, 199, 200, 201, 202, 203, 204, 205, 206, 207, 208] (by decide +kernel) (by decide +kernel)
set_option maxRecDepth 20000 in
theorem gX11_carryOut_X2_placeWall : GoodIn wsX11_carryOut (wsV RX11 114 RX2 yX2_placeWall wsX2_placeWall) := goodIn_app (goodIn_of _ (by decide +kernel)) ggX11_carryOut_X2_placeWall
set_option maxRecDepth 20000 in
theorem ggX11_carryOut_X2_placeScreen : GoodIn wsX11_carryOut wsX2_placeScreen := goodIn_r _ [53, 22, 27, 28, 29, 30, 31, 32, 33, 34, 35, 36, 37, 38, 39, 40, 41, 42, 43, 44, 45, 197, 198, 199, 200, 201, 202, 203, 204, 205, 206, 207, 208] (by decide +kernel) (by decide +kernel)
set_option maxRecDepth 20000 in
theorem gX11_carryOut_X2_placeScreen : GoodIn wsX11_carryOut (wsV RX11 121 RX2 yX2_placeScreen wsX2_placeScreen) := goodIn_app (goodIn_of _ (by decide +kernel)) ggX11_carryOut_X2_placeScreen
set_option maxRecDepth 20000 in
theorem ggX11_carryOut_X2_changeSetting : GoodIn wsX11_carryOut wsX2_changeSetting := goodIn_r _ [57, 58, 59, 60, 61, 14, 62, 63, 64, 65, 30, 66, 33, 34, 32, 44, 45, 41, 42, 43, 197, 198, 199, 200, 201, 202, 203, 204, 205, 206, 207, 208] (by decide +kernel) (by decide +kernel)
set_option maxRecDepth 20000 in
theorem gX11_carryOut_X2_changeSetting : GoodIn wsX11_carryOut (wsV RX11 137 RX2 yX2_changeSetting wsX2_changeSetting) := goodIn_app (goodIn_of _ (by decide +kernel)) ggX11_carryOut_X2_changeSetting
set_option maxRecDepth 20000 in
theorem ggX11_carryOut_X6_hearClick : GoodIn wsX11_carryOut wsX6_hearClick := goodIn_r _ [71, 72, 73, 74, 75, 76, 77, 78, 79, 80, 81, 82, 83, 84, 85, 86, 87, 14, 88, 19, 22, 20, 63, 64, 65, 30, 66, 33, 34, 32, 44, 89, 90, 91, 92, 93, 94, 95, 96, 97, 98, 99, 100, 101, 102, 103, 104, 105, 106, 107, 108, 109, 110, 111, 112, 113, 114, 115, 116, 117, 118, 119, 120, 121, 122, 123, 124, 125, 21, 126, 127, 128, 129, 130, 28, 29, 31, 35, 36, 37, 38, 39, 40, 41, 42, 43, 131, 132, 133, 134, 135, 58, 136, 137, 138, 139, 140, 141, 142, 143, 144, 60, 61, 62, 145, 146, 147, 148, 149, 150, 151, 70, 152, 153, 154, 155, 156, 157, 158, 159, 160, 161, 162, 163, 164, 165, 166, 167, 168, 169, 170, 171, 172, 173, 174, 175, 176, 177, 178, 179, 180, 181, 182, 197, 198, 199, 200, 201, 202, 203, 204, 205, 206, 207, 208, 209, 210] (by decide +kernel) (by decide +kernel)
set_option maxRecDepth 20000 in
theorem gX11_carryOut_X6_hearClick : GoodIn wsX11_carryOut (wsV RX11 146 RX6 yX6_hearClick wsX6_hearClick) := goodIn_app (goodIn_of _ (by decide +kernel)) ggX11_carryOut_X6_hearClick
set_option maxRecDepth 20000 in
theorem ggX11_carryOut_X6_hearKnownClick : GoodIn wsX11_carryOut wsX6_hearKnownClick := goodIn_r _ [186, 72, 73, 74, 75, 168, 64, 65, 30, 66, 33, 34, 32, 44, 177, 41, 42, 43, 76, 77, 78, 79, 80, 81, 82, 83, 84, 85, 86, 87, 14, 88, 19, 22, 20, 63, 89, 90, 91, 92, 93, 94, 95, 96, 97, 98, 99, 100, 101, 102, 103, 104, 105, 106, 107, 108, 109, 110, 111, 112, 113, 114, 115, 116, 117, 118, 119, 120, 121, 122, 123, 124, 125, 21, 126, 127, 128, 129, 130, 28, 29, 31, 35, 36, 37, 38, 39, 40, 131, 132, 133, 134, 135, 58, 136, 137, 138, 139, 140, 141, 142, 143, 144, 60, 61, 62, 145, 146, 147, 148, 149, 150, 151, 70, 152, 153, 154, 155, 156, 157, 158, 159, 160, 161, 162, 163, 164, 165, 166, 167, 169, 170, 171, 172, 173, 174, 175, 176, 178, 179, 180, 181, 182, 187, 188, 197, 198, 199, 200, 201, 202, 203, 204, 205, 206, 207, 208, 209, 210] (by decide +kernel) (by decide +kernel)
set_option maxRecDepth 20000 in
theorem gX11_carryOut_X6_hearKnownClick : GoodIn wsX11_carryOut (wsV RX11 150 RX6 yX6_hearKnownClick wsX6_hearKnownClick) := goodIn_app (goodIn_of _ (by decide +kernel)) ggX11_carryOut_X6_hearKnownClick
theorem dX11_carryOut_0 : decode cX11_carryOut 0 = .ok (.aload_n 1, 1) := by decide +kernel
theorem dX11_carryOut_1 : decode cX11_carryOut 1 = .ok (.ifnonnull 4, 3) := by decide +kernel
theorem dX11_carryOut_4 : decode cX11_carryOut 4 = .ok (.return_, 1) := by decide +kernel
theorem dX11_carryOut_5 : decode cX11_carryOut 5 = .ok (.getstatic 293, 3) := by decide +kernel
theorem dX11_carryOut_8 : decode cX11_carryOut 8 = .ok (.aload_n 1, 1) := by decide +kernel
theorem dX11_carryOut_9 : decode cX11_carryOut 9 = .ok (.invokevirtual 298, 3) := by decide +kernel
theorem dX11_carryOut_12 : decode cX11_carryOut 12 = .ok (.iaload, 1) := by decide +kernel
theorem dX11_carryOut_13 : decode cX11_carryOut 13 = .ok (.tableswitch 129 1 6 #[39, 52, 65, 80, 97, 110], 39) := by decide +kernel
theorem dX11_carryOut_52 : decode cX11_carryOut 52 = .ok (.aload_n 0, 1) := by decide +kernel
theorem dX11_carryOut_53 : decode cX11_carryOut 53 = .ok (.getfield 10, 3) := by decide +kernel
theorem dX11_carryOut_56 : decode cX11_carryOut 56 = .ok (.iload_n 2, 1) := by decide +kernel
theorem dX11_carryOut_57 : decode cX11_carryOut 57 = .ok (.iload_n 3, 1) := by decide +kernel
theorem dX11_carryOut_58 : decode cX11_carryOut 58 = .ok (.invokevirtual 73, 3) := by decide +kernel
theorem dX11_carryOut_61 : decode cX11_carryOut 61 = .ok (.pop, 1) := by decide +kernel
theorem dX11_carryOut_62 : decode cX11_carryOut 62 = .ok (.goto 96, 3) := by decide +kernel
theorem dX11_carryOut_65 : decode cX11_carryOut 65 = .ok (.aload_n 0, 1) := by decide +kernel
theorem dX11_carryOut_66 : decode cX11_carryOut 66 = .ok (.getfield 10, 3) := by decide +kernel
theorem dX11_carryOut_69 : decode cX11_carryOut 69 = .ok (.iload_n 2, 1) := by decide +kernel
theorem dX11_carryOut_70 : decode cX11_carryOut 70 = .ok (.iload_n 3, 1) := by decide +kernel
theorem dX11_carryOut_71 : decode cX11_carryOut 71 = .ok (.invokevirtual 79, 3) := by decide +kernel
theorem dX11_carryOut_74 : decode cX11_carryOut 74 = .ok (.pop, 1) := by decide +kernel
theorem dX11_carryOut_75 : decode cX11_carryOut 75 = .ok (.goto 83, 3) := by decide +kernel
theorem dX11_carryOut_78 : decode cX11_carryOut 78 = .ok (.aload_n 0, 1) := by decide +kernel
theorem dX11_carryOut_79 : decode cX11_carryOut 79 = .ok (.getfield 10, 3) := by decide +kernel
theorem dX11_carryOut_82 : decode cX11_carryOut 82 = .ok (.iload_n 2, 1) := by decide +kernel
theorem dX11_carryOut_83 : decode cX11_carryOut 83 = .ok (.iload_n 3, 1) := by decide +kernel
theorem dX11_carryOut_84 : decode cX11_carryOut 84 = .ok (.iload 4, 2) := by decide +kernel
theorem dX11_carryOut_86 : decode cX11_carryOut 86 = .ok (.invokevirtual 114, 3) := by decide +kernel
theorem dX11_carryOut_89 : decode cX11_carryOut 89 = .ok (.pop, 1) := by decide +kernel
theorem dX11_carryOut_90 : decode cX11_carryOut 90 = .ok (.goto 68, 3) := by decide +kernel
theorem dX11_carryOut_93 : decode cX11_carryOut 93 = .ok (.aload_n 0, 1) := by decide +kernel
theorem dX11_carryOut_94 : decode cX11_carryOut 94 = .ok (.getfield 10, 3) := by decide +kernel
theorem dX11_carryOut_97 : decode cX11_carryOut 97 = .ok (.iload_n 2, 1) := by decide +kernel
theorem dX11_carryOut_98 : decode cX11_carryOut 98 = .ok (.iload_n 3, 1) := by decide +kernel
theorem dX11_carryOut_99 : decode cX11_carryOut 99 = .ok (.iload 4, 2) := by decide +kernel
theorem dX11_carryOut_101 : decode cX11_carryOut 101 = .ok (.iload 5, 2) := by decide +kernel
theorem dX11_carryOut_103 : decode cX11_carryOut 103 = .ok (.invokevirtual 121, 3) := by decide +kernel
theorem dX11_carryOut_106 : decode cX11_carryOut 106 = .ok (.pop, 1) := by decide +kernel
theorem dX11_carryOut_107 : decode cX11_carryOut 107 = .ok (.goto 51, 3) := by decide +kernel
theorem dX11_carryOut_110 : decode cX11_carryOut 110 = .ok (.aload_n 0, 1) := by decide +kernel
theorem dX11_carryOut_111 : decode cX11_carryOut 111 = .ok (.getfield 10, 3) := by decide +kernel
theorem dX11_carryOut_114 : decode cX11_carryOut 114 = .ok (.iload_n 2, 1) := by decide +kernel
theorem dX11_carryOut_115 : decode cX11_carryOut 115 = .ok (.iload_n 3, 1) := by decide +kernel
theorem dX11_carryOut_116 : decode cX11_carryOut 116 = .ok (.invokevirtual 137, 3) := by decide +kernel
theorem dX11_carryOut_119 : decode cX11_carryOut 119 = .ok (.pop, 1) := by decide +kernel
theorem dX11_carryOut_120 : decode cX11_carryOut 120 = .ok (.goto 38, 3) := by decide +kernel
theorem dX11_carryOut_123 : decode cX11_carryOut 123 = .ok (.aload_n 0, 1) := by decide +kernel
theorem dX11_carryOut_124 : decode cX11_carryOut 124 = .ok (.getfield 26, 3) := by decide +kernel
theorem dX11_carryOut_127 : decode cX11_carryOut 127 = .ok (.aload_n 0, 1) := by decide +kernel
theorem dX11_carryOut_128 : decode cX11_carryOut 128 = .ok (.getfield 10, 3) := by decide +kernel
theorem dX11_carryOut_131 : decode cX11_carryOut 131 = .ok (.iload_n 2, 1) := by decide +kernel
theorem dX11_carryOut_132 : decode cX11_carryOut 132 = .ok (.iload_n 3, 1) := by decide +kernel
theorem dX11_carryOut_133 : decode cX11_carryOut 133 = .ok (.iload 4, 2) := by decide +kernel
theorem dX11_carryOut_135 : decode cX11_carryOut 135 = .ok (.invokevirtual 146, 3) := by decide +kernel
theorem dX11_carryOut_138 : decode cX11_carryOut 138 = .ok (.pop, 1) := by decide +kernel
theorem dX11_carryOut_139 : decode cX11_carryOut 139 = .ok (.goto 19, 3) := by decide +kernel
theorem dX11_carryOut_142 : decode cX11_carryOut 142 = .ok (.aload_n 0, 1) := by decide +kernel
theorem dX11_carryOut_143 : decode cX11_carryOut 143 = .ok (.getfield 26, 3) := by decide +kernel
theorem dX11_carryOut_146 : decode cX11_carryOut 146 = .ok (.aload_n 0, 1) := by decide +kernel
theorem dX11_carryOut_147 : decode cX11_carryOut 147 = .ok (.getfield 10, 3) := by decide +kernel
theorem dX11_carryOut_150 : decode cX11_carryOut 150 = .ok (.iload_n 2, 1) := by decide +kernel
theorem dX11_carryOut_151 : decode cX11_carryOut 151 = .ok (.iload_n 3, 1) := by decide +kernel
theorem dX11_carryOut_152 : decode cX11_carryOut 152 = .ok (.iload 4, 2) := by decide +kernel
theorem dX11_carryOut_154 : decode cX11_carryOut 154 = .ok (.invokevirtual 150, 3) := by decide +kernel
theorem dX11_carryOut_157 : decode cX11_carryOut 157 = .ok (.pop, 1) := by decide +kernel
theorem dX11_carryOut_158 : decode cX11_carryOut 158 = .ok (.return_, 1) := by decide +kernel
set_option maxRecDepth 20000 in
theorem ggX11_valueOfWhole_X8_pairCount : GoodIn wsX11_valueOfWhole wsX8_pairCount := goodIn_r _ [18, 19, 48, 49, 50, 51, 52, 53, 54, 55, 56] (by decide +kernel) (by decide +kernel)
set_option maxRecDepth 20000 in
theorem gX11_valueOfWhole_X8_pairCount : GoodIn wsX11_valueOfWhole (wsV RX11 321 RX8 yX8_pairCount wsX8_pairCount) := goodIn_app (goodIn_of _ (by decide +kernel)) ggX11_valueOfWhole_X8_pairCount
set_option maxRecDepth 20000 in
theorem ggX11_valueOfWhole_X8_votesOf : GoodIn wsX11_valueOfWhole wsX8_votesOf := goodIn_r _ [23, 24, 25, 26, 27, 48, 49, 50, 51, 52, 53, 54, 55, 56] (by decide +kernel) (by decide +kernel)
set_option maxRecDepth 20000 in
theorem gX11_valueOfWhole_X8_votesOf : GoodIn wsX11_valueOfWhole (wsV RX11 178 RX8 yX8_votesOf wsX8_votesOf) := goodIn_app (goodIn_of _ (by decide +kernel)) ggX11_valueOfWhole_X8_votesOf
theorem dX11_valueOfWhole_0 : decode cX11_valueOfWhole 0 = .ok (.iload_n 1, 1) := by decide +kernel
theorem dX11_valueOfWhole_1 : decode cX11_valueOfWhole 1 = .ok (.tableswitch 151 0 9 #[55, 63, 71, 82, 93, 104, 112, 120, 128, 143], 55) := by decide +kernel
theorem dX11_valueOfWhole_56 : decode cX11_valueOfWhole 56 = .ok (.aload_n 0, 1) := by decide +kernel
theorem dX11_valueOfWhole_57 : decode cX11_valueOfWhole 57 = .ok (.getfield 10, 3) := by decide +kernel
theorem dX11_valueOfWhole_60 : decode cX11_valueOfWhole 60 = .ok (.getfield 303, 3) := by decide +kernel
theorem dX11_valueOfWhole_63 : decode cX11_valueOfWhole 63 = .ok (.ireturn, 1) := by decide +kernel
theorem dX11_valueOfWhole_64 : decode cX11_valueOfWhole 64 = .ok (.aload_n 0, 1) := by decide +kernel
theorem dX11_valueOfWhole_65 : decode cX11_valueOfWhole 65 = .ok (.getfield 10, 3) := by decide +kernel
theorem dX11_valueOfWhole_68 : decode cX11_valueOfWhole 68 = .ok (.getfield 306, 3) := by decide +kernel
theorem dX11_valueOfWhole_71 : decode cX11_valueOfWhole 71 = .ok (.ireturn, 1) := by decide +kernel
theorem dX11_valueOfWhole_72 : decode cX11_valueOfWhole 72 = .ok (.aload_n 0, 1) := by decide +kernel
theorem dX11_valueOfWhole_73 : decode cX11_valueOfWhole 73 = .ok (.getfield 10, 3) := by decide +kernel
theorem dX11_valueOfWhole_76 : decode cX11_valueOfWhole 76 = .ok (.getfield 82, 3) := by decide +kernel
theorem dX11_valueOfWhole_79 : decode cX11_valueOfWhole 79 = .ok (.getfield 131, 3) := by decide +kernel
theorem dX11_valueOfWhole_82 : decode cX11_valueOfWhole 82 = .ok (.ireturn, 1) := by decide +kernel
theorem dX11_valueOfWhole_83 : decode cX11_valueOfWhole 83 = .ok (.aload_n 0, 1) := by decide +kernel
theorem dX11_valueOfWhole_84 : decode cX11_valueOfWhole 84 = .ok (.getfield 10, 3) := by decide +kernel
theorem dX11_valueOfWhole_87 : decode cX11_valueOfWhole 87 = .ok (.getfield 309, 3) := by decide +kernel
theorem dX11_valueOfWhole_90 : decode cX11_valueOfWhole 90 = .ok (.getfield 131, 3) := by decide +kernel
theorem dX11_valueOfWhole_93 : decode cX11_valueOfWhole 93 = .ok (.ireturn, 1) := by decide +kernel
theorem dX11_valueOfWhole_94 : decode cX11_valueOfWhole 94 = .ok (.aload_n 0, 1) := by decide +kernel
theorem dX11_valueOfWhole_95 : decode cX11_valueOfWhole 95 = .ok (.getfield 10, 3) := by decide +kernel
theorem dX11_valueOfWhole_98 : decode cX11_valueOfWhole 98 = .ok (.getfield 312, 3) := by decide +kernel
theorem dX11_valueOfWhole_101 : decode cX11_valueOfWhole 101 = .ok (.getfield 131, 3) := by decide +kernel
theorem dX11_valueOfWhole_104 : decode cX11_valueOfWhole 104 = .ok (.ireturn, 1) := by decide +kernel
theorem dX11_valueOfWhole_105 : decode cX11_valueOfWhole 105 = .ok (.aload_n 0, 1) := by decide +kernel
theorem dX11_valueOfWhole_106 : decode cX11_valueOfWhole 106 = .ok (.getfield 10, 3) := by decide +kernel
theorem dX11_valueOfWhole_109 : decode cX11_valueOfWhole 109 = .ok (.getfield 315, 3) := by decide +kernel
theorem dX11_valueOfWhole_112 : decode cX11_valueOfWhole 112 = .ok (.ireturn, 1) := by decide +kernel
theorem dX11_valueOfWhole_113 : decode cX11_valueOfWhole 113 = .ok (.aload_n 0, 1) := by decide +kernel
theorem dX11_valueOfWhole_114 : decode cX11_valueOfWhole 114 = .ok (.getfield 33, 3) := by decide +kernel
theorem dX11_valueOfWhole_117 : decode cX11_valueOfWhole 117 = .ok (.getfield 318, 3) := by decide +kernel
theorem dX11_valueOfWhole_120 : decode cX11_valueOfWhole 120 = .ok (.ireturn, 1) := by decide +kernel
theorem dX11_valueOfWhole_121 : decode cX11_valueOfWhole 121 = .ok (.aload_n 0, 1) := by decide +kernel
theorem dX11_valueOfWhole_122 : decode cX11_valueOfWhole 122 = .ok (.getfield 33, 3) := by decide +kernel
theorem dX11_valueOfWhole_125 : decode cX11_valueOfWhole 125 = .ok (.invokevirtual 321, 3) := by decide +kernel
theorem dX11_valueOfWhole_128 : decode cX11_valueOfWhole 128 = .ok (.ireturn, 1) := by decide +kernel
theorem dX11_valueOfWhole_129 : decode cX11_valueOfWhole 129 = .ok (.aload_n 0, 1) := by decide +kernel
theorem dX11_valueOfWhole_130 : decode cX11_valueOfWhole 130 = .ok (.getfield 33, 3) := by decide +kernel
theorem dX11_valueOfWhole_133 : decode cX11_valueOfWhole 133 = .ok (.aload_n 0, 1) := by decide +kernel
theorem dX11_valueOfWhole_134 : decode cX11_valueOfWhole 134 = .ok (.getfield 33, 3) := by decide +kernel
theorem dX11_valueOfWhole_137 : decode cX11_valueOfWhole 137 = .ok (.getfield 185, 3) := by decide +kernel
theorem dX11_valueOfWhole_140 : decode cX11_valueOfWhole 140 = .ok (.invokevirtual 178, 3) := by decide +kernel
theorem dX11_valueOfWhole_143 : decode cX11_valueOfWhole 143 = .ok (.ireturn, 1) := by decide +kernel
theorem dX11_valueOfWhole_144 : decode cX11_valueOfWhole 144 = .ok (.aload_n 0, 1) := by decide +kernel
theorem dX11_valueOfWhole_145 : decode cX11_valueOfWhole 145 = .ok (.getfield 33, 3) := by decide +kernel
theorem dX11_valueOfWhole_148 : decode cX11_valueOfWhole 148 = .ok (.getfield 188, 3) := by decide +kernel
theorem dX11_valueOfWhole_151 : decode cX11_valueOfWhole 151 = .ok (.ireturn, 1) := by decide +kernel
theorem dX11_valueOfWhole_152 : decode cX11_valueOfWhole 152 = .ok (.aload_n 0, 1) := by decide +kernel
theorem dX11_valueOfWhole_153 : decode cX11_valueOfWhole 153 = .ok (.getfield 10, 3) := by decide +kernel
theorem dX11_valueOfWhole_156 : decode cX11_valueOfWhole 156 = .ok (.getfield 140, 3) := by decide +kernel
theorem dX11_valueOfWhole_159 : decode cX11_valueOfWhole 159 = .ok (.ireturn, 1) := by decide +kernel
theorem dX11_mix_0 : decode cX11_mix 0 = .ok (.ldc2_w 324, 3) := by decide +kernel
theorem dX11_mix_3 : decode cX11_mix 3 = .ok (.lload_n 0, 1) := by decide +kernel
theorem dX11_mix_4 : decode cX11_mix 4 = .ok (.lmul, 1) := by decide +kernel
theorem dX11_mix_5 : decode cX11_mix 5 = .ok (.lload_n 2, 1) := by decide +kernel
theorem dX11_mix_6 : decode cX11_mix 6 = .ok (.ladd, 1) := by decide +kernel
theorem dX11_mix_7 : decode cX11_mix 7 = .ok (.lreturn, 1) := by decide +kernel
set_option maxRecDepth 20000 in
theorem ggX11_mixMicrophones_X9_at : GoodIn wsX11_mixMicrophones wsX9_at := goodIn_r _ [9, 10, 11, 12, 13, 93, 94, 95, 96] (by decide +kernel) (by decide +kernel)
set_option maxRecDepth 20000 in
theorem gX11_mixMicrophones_X9_at : GoodIn wsX11_mixMicrophones (wsV RX11 103 RX9 yX9_at wsX9_at) := goodIn_app (goodIn_of _ (by decide +kernel)) ggX11_mixMicrophones_X9_at
set_option maxRecDepth 20000 in
theorem ggX11_mixMicrophones_X11_mix : GoodIn wsX11_mixMicrophones wsX11_mix := goodIn_r _ [17, 18] (by decide +kernel) (by decide +kernel)
set_option maxRecDepth 20000 in
theorem gX11_mixMicrophones_X11_mix : GoodIn wsX11_mixMicrophones (va_wsS RX11 255 yX11_mix wsX11_mix) := goodIn_app (goodIn_of _ (by decide +kernel)) ggX11_mixMicrophones_X11_mix
set_option maxRecDepth 20000 in
theorem ggX11_mixMicrophones_X8_blameOf : GoodIn wsX11_mixMicrophones wsX8_blameOf := goodIn_r _ [23, 24, 25, 26, 27, 28, 29, 30, 22, 31, 32, 33, 34, 6, 7, 8, 9, 10, 11, 12, 13, 35, 36, 37, 38, 39, 40, 41, 42, 43, 44, 45, 46, 47, 48, 49, 50, 51, 52, 53, 54, 55, 56, 57, 58, 59, 60, 61, 62, 63, 64, 65, 66, 67, 68, 69, 70, 71, 72, 73, 74, 75, 76, 97, 98, 99, 100, 101, 102, 103, 104, 105, 85, 86, 87, 88, 89, 90, 91, 92, 93, 94, 95, 96] (by decide +kernel) (by decide +kernel)
set_option maxRecDepth 20000 in
theorem gX11_mixMicrophones_X8_blameOf : GoodIn wsX11_mixMicrophones (wsV RX11 197 RX8 yX8_blameOf wsX8_blameOf) := goodIn_app (goodIn_of _ (by decide +kernel)) ggX11_mixMicrophones_X8_blameOf
theorem dX11_mixMicrophones_0 : decode cX11_mixMicrophones 0 = .ok (.aload_n 0, 1) := by decide +kernel
theorem dX11_mixMicrophones_1 : decode cX11_mixMicrophones 1 = .ok (.getfield 10, 3) := by decide +kernel
theorem dX11_mixMicrophones_4 : decode cX11_mixMicrophones 4 = .ok (.getfield 82, 3) := by decide +kernel
theorem dX11_mixMicrophones_7 : decode cX11_mixMicrophones 7 = .ok (.astore_n 3, 1) := by decide +kernel
theorem dX11_mixMicrophones_8 : decode cX11_mixMicrophones 8 = .ok (.lload_n 1, 1) := by decide +kernel
theorem dX11_mixMicrophones_9 : decode cX11_mixMicrophones 9 = .ok (.lstore 4, 2) := by decide +kernel
theorem dX11_mixMicrophones_11 : decode cX11_mixMicrophones 11 = .ok (.iconst 0, 1) := by decide +kernel
theorem dX11_mixMicrophones_12 : decode cX11_mixMicrophones 12 = .ok (.istore 6, 2) := by decide +kernel
theorem dX11_mixMicrophones_14 : decode cX11_mixMicrophones 14 = .ok (.iload 6, 2) := by decide +kernel
theorem dX11_mixMicrophones_16 : decode cX11_mixMicrophones 16 = .ok (.aload_n 3, 1) := by decide +kernel
theorem dX11_mixMicrophones_17 : decode cX11_mixMicrophones 17 = .ok (.getfield 131, 3) := by decide +kernel
theorem dX11_mixMicrophones_20 : decode cX11_mixMicrophones 20 = .ok (.if_icmp .ge 62, 3) := by decide +kernel
theorem dX11_mixMicrophones_23 : decode cX11_mixMicrophones 23 = .ok (.iconst 0, 1) := by decide +kernel
theorem dX11_mixMicrophones_24 : decode cX11_mixMicrophones 24 = .ok (.istore 7, 2) := by decide +kernel
theorem dX11_mixMicrophones_26 : decode cX11_mixMicrophones 26 = .ok (.iload 7, 2) := by decide +kernel
theorem dX11_mixMicrophones_28 : decode cX11_mixMicrophones 28 = .ok (.bipush 9, 2) := by decide +kernel
theorem dX11_mixMicrophones_30 : decode cX11_mixMicrophones 30 = .ok (.if_icmp .ge 25, 3) := by decide +kernel
theorem dX11_mixMicrophones_33 : decode cX11_mixMicrophones 33 = .ok (.lload 4, 2) := by decide +kernel
theorem dX11_mixMicrophones_35 : decode cX11_mixMicrophones 35 = .ok (.aload_n 3, 1) := by decide +kernel
theorem dX11_mixMicrophones_36 : decode cX11_mixMicrophones 36 = .ok (.iload 6, 2) := by decide +kernel
theorem dX11_mixMicrophones_38 : decode cX11_mixMicrophones 38 = .ok (.iload 7, 2) := by decide +kernel
theorem dX11_mixMicrophones_40 : decode cX11_mixMicrophones 40 = .ok (.invokevirtual 103, 3) := by decide +kernel
theorem dX11_mixMicrophones_43 : decode cX11_mixMicrophones 43 = .ok (.i2l, 1) := by decide +kernel
theorem dX11_mixMicrophones_44 : decode cX11_mixMicrophones 44 = .ok (.invokestatic 255, 3) := by decide +kernel
theorem dX11_mixMicrophones_47 : decode cX11_mixMicrophones 47 = .ok (.lstore 4, 2) := by decide +kernel
theorem dX11_mixMicrophones_49 : decode cX11_mixMicrophones 49 = .ok (.iinc 7 1, 3) := by decide +kernel
theorem dX11_mixMicrophones_52 : decode cX11_mixMicrophones 52 = .ok (.goto (-26), 3) := by decide +kernel
theorem dX11_mixMicrophones_55 : decode cX11_mixMicrophones 55 = .ok (.lload 4, 2) := by decide +kernel
theorem dX11_mixMicrophones_57 : decode cX11_mixMicrophones 57 = .ok (.aload_n 0, 1) := by decide +kernel
theorem dX11_mixMicrophones_58 : decode cX11_mixMicrophones 58 = .ok (.getfield 33, 3) := by decide +kernel
theorem dX11_mixMicrophones_61 : decode cX11_mixMicrophones 61 = .ok (.aload_n 0, 1) := by decide +kernel
theorem dX11_mixMicrophones_62 : decode cX11_mixMicrophones 62 = .ok (.getfield 10, 3) := by decide +kernel
theorem dX11_mixMicrophones_65 : decode cX11_mixMicrophones 65 = .ok (.iload 6, 2) := by decide +kernel
theorem dX11_mixMicrophones_67 : decode cX11_mixMicrophones 67 = .ok (.invokevirtual 197, 3) := by decide +kernel
theorem dX11_mixMicrophones_70 : decode cX11_mixMicrophones 70 = .ok (.i2l, 1) := by decide +kernel
theorem dX11_mixMicrophones_71 : decode cX11_mixMicrophones 71 = .ok (.invokestatic 255, 3) := by decide +kernel
theorem dX11_mixMicrophones_74 : decode cX11_mixMicrophones 74 = .ok (.lstore 4, 2) := by decide +kernel
theorem dX11_mixMicrophones_76 : decode cX11_mixMicrophones 76 = .ok (.iinc 6 1, 3) := by decide +kernel
theorem dX11_mixMicrophones_79 : decode cX11_mixMicrophones 79 = .ok (.goto (-65), 3) := by decide +kernel
theorem dX11_mixMicrophones_82 : decode cX11_mixMicrophones 82 = .ok (.lload 4, 2) := by decide +kernel
theorem dX11_mixMicrophones_84 : decode cX11_mixMicrophones 84 = .ok (.lreturn, 1) := by decide +kernel
set_option maxRecDepth 20000 in
theorem ggX11_mixTable_X2_tableOf : GoodIn wsX11_mixTable wsX2_tableOf := goodIn_r _ [8, 9, 10, 11, 12, 39, 40, 41, 42, 43, 44, 45, 46] (by decide +kernel) (by decide +kernel)
set_option maxRecDepth 20000 in
theorem gX11_mixTable_X2_tableOf : GoodIn wsX11_mixTable (wsV RX11 124 RX2 yX2_tableOf wsX2_tableOf) := goodIn_app (goodIn_of _ (by decide +kernel)) ggX11_mixTable_X2_tableOf
set_option maxRecDepth 20000 in
theorem ggX11_mixTable_X9_at : GoodIn wsX11_mixTable wsX9_at := goodIn_r _ [17, 18, 19, 20, 21, 35, 36, 37, 38] (by decide +kernel) (by decide +kernel)
set_option maxRecDepth 20000 in
theorem gX11_mixTable_X9_at : GoodIn wsX11_mixTable (wsV RX11 103 RX9 yX9_at wsX9_at) := goodIn_app (goodIn_of _ (by decide +kernel)) ggX11_mixTable_X9_at
set_option maxRecDepth 20000 in
theorem ggX11_mixTable_X11_mix : GoodIn wsX11_mixTable wsX11_mix := goodIn_r _ [25, 26] (by decide +kernel) (by decide +kernel)
set_option maxRecDepth 20000 in
theorem gX11_mixTable_X11_mix : GoodIn wsX11_mixTable (va_wsS RX11 255 yX11_mix wsX11_mix) := goodIn_app (goodIn_of _ (by decide +kernel)) ggX11_mixTable_X11_mix
theorem dX11_mixTable_0 : decode cX11_mixTable 0 = .ok (.aload_n 0, 1) := by decide +kernel
theorem dX11_mixTable_1 : decode cX11_mixTable 1 = .ok (.getfield 10, 3) := by decide +kernel
theorem dX11_mixTable_4 : decode cX11_mixTable 4 = .ok (.iload_n 3, 1) := by decide +kernel
theorem dX11_mixTable_5 : decode cX11_mixTable 5 = .ok (.invokevirtual 124, 3) := by decide +kernel
theorem dX11_mixTable_8 : decode cX11_mixTable 8 = .ok (.astore 4, 2) := by decide +kernel
theorem dX11_mixTable_10 : decode cX11_mixTable 10 = .ok (.lload_n 1, 1) := by decide +kernel
theorem dX11_mixTable_11 : decode cX11_mixTable 11 = .ok (.lstore 5, 2) := by decide +kernel
theorem dX11_mixTable_13 : decode cX11_mixTable 13 = .ok (.iconst 0, 1) := by decide +kernel
theorem dX11_mixTable_14 : decode cX11_mixTable 14 = .ok (.istore 7, 2) := by decide +kernel
theorem dX11_mixTable_16 : decode cX11_mixTable 16 = .ok (.iload 7, 2) := by decide +kernel
theorem dX11_mixTable_18 : decode cX11_mixTable 18 = .ok (.aload 4, 2) := by decide +kernel
theorem dX11_mixTable_20 : decode cX11_mixTable 20 = .ok (.getfield 131, 3) := by decide +kernel
theorem dX11_mixTable_23 : decode cX11_mixTable 23 = .ok (.if_icmp .ge 45, 3) := by decide +kernel
theorem dX11_mixTable_26 : decode cX11_mixTable 26 = .ok (.iconst 0, 1) := by decide +kernel
theorem dX11_mixTable_27 : decode cX11_mixTable 27 = .ok (.istore 8, 2) := by decide +kernel
theorem dX11_mixTable_29 : decode cX11_mixTable 29 = .ok (.iload 8, 2) := by decide +kernel
theorem dX11_mixTable_31 : decode cX11_mixTable 31 = .ok (.aload 4, 2) := by decide +kernel
theorem dX11_mixTable_33 : decode cX11_mixTable 33 = .ok (.getfield 326, 3) := by decide +kernel
theorem dX11_mixTable_36 : decode cX11_mixTable 36 = .ok (.if_icmp .ge 26, 3) := by decide +kernel
theorem dX11_mixTable_39 : decode cX11_mixTable 39 = .ok (.lload 5, 2) := by decide +kernel
theorem dX11_mixTable_41 : decode cX11_mixTable 41 = .ok (.aload 4, 2) := by decide +kernel
theorem dX11_mixTable_43 : decode cX11_mixTable 43 = .ok (.iload 7, 2) := by decide +kernel
theorem dX11_mixTable_45 : decode cX11_mixTable 45 = .ok (.iload 8, 2) := by decide +kernel
theorem dX11_mixTable_47 : decode cX11_mixTable 47 = .ok (.invokevirtual 103, 3) := by decide +kernel
theorem dX11_mixTable_50 : decode cX11_mixTable 50 = .ok (.i2l, 1) := by decide +kernel
theorem dX11_mixTable_51 : decode cX11_mixTable 51 = .ok (.invokestatic 255, 3) := by decide +kernel
theorem dX11_mixTable_54 : decode cX11_mixTable 54 = .ok (.lstore 5, 2) := by decide +kernel
theorem dX11_mixTable_56 : decode cX11_mixTable 56 = .ok (.iinc 8 1, 3) := by decide +kernel
theorem dX11_mixTable_59 : decode cX11_mixTable 59 = .ok (.goto (-30), 3) := by decide +kernel
theorem dX11_mixTable_62 : decode cX11_mixTable 62 = .ok (.iinc 7 1, 3) := by decide +kernel
theorem dX11_mixTable_65 : decode cX11_mixTable 65 = .ok (.goto (-49), 3) := by decide +kernel
theorem dX11_mixTable_68 : decode cX11_mixTable 68 = .ok (.lload 5, 2) := by decide +kernel
theorem dX11_mixTable_70 : decode cX11_mixTable 70 = .ok (.lreturn, 1) := by decide +kernel
set_option maxRecDepth 20000 in
theorem ggX11_mixCells_X2_cellCount : GoodIn wsX11_mixCells wsX2_cellCount := goodIn_r _ [7, 8, 9, 36, 37, 38, 39, 40, 41, 42, 43] (by decide +kernel) (by decide +kernel)
set_option maxRecDepth 20000 in
theorem gX11_mixCells_X2_cellCount : GoodIn wsX11_mixCells (wsV RX11 329 RX2 yX2_cellCount wsX2_cellCount) := goodIn_app (goodIn_of _ (by decide +kernel)) ggX11_mixCells_X2_cellCount
set_option maxRecDepth 20000 in
theorem ggX11_mixCells_X8_votesOf : GoodIn wsX11_mixCells wsX8_votesOf := goodIn_r _ [14, 15, 16, 17, 18, 44, 45, 46, 47, 48, 49, 50, 51, 52] (by decide +kernel) (by decide +kernel)
set_option maxRecDepth 20000 in
theorem gX11_mixCells_X8_votesOf : GoodIn wsX11_mixCells (wsV RX11 178 RX8 yX8_votesOf wsX8_votesOf) := goodIn_app (goodIn_of _ (by decide +kernel)) ggX11_mixCells_X8_votesOf
set_option maxRecDepth 20000 in
theorem ggX11_mixCells_X11_mix : GoodIn wsX11_mixCells wsX11_mix := goodIn_r _ [21, 22] (by decide +kernel) (by decide +kernel)
set_option maxRecDepth 20000 in
theorem gX11_mixCells_X11_mix : GoodIn wsX11_mixCells (va_wsS RX11 255 yX11_mix wsX11_mix) := goodIn_app (goodIn_of _ (by decide +kernel)) ggX11_mixCells_X11_mix
set_option maxRecDepth 20000 in
theorem ggX11_mixCells_X8_errorOf : GoodIn wsX11_mixCells wsX8_errorOf := goodIn_r _ [26, 27, 16, 17, 18, 44, 45, 46, 47, 48, 49, 50, 51, 52] (by decide +kernel) (by decide +kernel)
set_option maxRecDepth 20000 in
theorem gX11_mixCells_X8_errorOf : GoodIn wsX11_mixCells (wsV RX11 182 RX8 yX8_errorOf wsX8_errorOf) := goodIn_app (goodIn_of _ (by decide +kernel)) ggX11_mixCells_X8_errorOf
theorem dX11_mixCells_0 : decode cX11_mixCells 0 = .ok (.lload_n 1, 1) := by decide +kernel
theorem dX11_mixCells_1 : decode cX11_mixCells 1 = .ok (.lstore_n 3, 1) := by decide +kernel
theorem dX11_mixCells_2 : decode cX11_mixCells 2 = .ok (.iconst 0, 1) := by decide +kernel
theorem dX11_mixCells_3 : decode cX11_mixCells 3 = .ok (.istore 5, 2) := by decide +kernel
theorem dX11_mixCells_5 : decode cX11_mixCells 5 = .ok (.iload 5, 2) := by decide +kernel
theorem dX11_mixCells_7 : decode cX11_mixCells 7 = .ok (.aload_n 0, 1) := by decide +kernel
theorem dX11_mixCells_8 : decode cX11_mixCells 8 = .ok (.getfield 10, 3) := by decide +kernel
theorem dX11_mixCells_11 : decode cX11_mixCells 11 = .ok (.invokevirtual 329, 3) := by decide +kernel
theorem dX11_mixCells_14 : decode cX11_mixCells 14 = .ok (.if_icmp .ge 39, 3) := by decide +kernel
theorem dX11_mixCells_17 : decode cX11_mixCells 17 = .ok (.lload_n 3, 1) := by decide +kernel
theorem dX11_mixCells_18 : decode cX11_mixCells 18 = .ok (.aload_n 0, 1) := by decide +kernel
theorem dX11_mixCells_19 : decode cX11_mixCells 19 = .ok (.getfield 33, 3) := by decide +kernel
theorem dX11_mixCells_22 : decode cX11_mixCells 22 = .ok (.iload 5, 2) := by decide +kernel
theorem dX11_mixCells_24 : decode cX11_mixCells 24 = .ok (.invokevirtual 178, 3) := by decide +kernel
theorem dX11_mixCells_27 : decode cX11_mixCells 27 = .ok (.i2l, 1) := by decide +kernel
theorem dX11_mixCells_28 : decode cX11_mixCells 28 = .ok (.invokestatic 255, 3) := by decide +kernel
theorem dX11_mixCells_31 : decode cX11_mixCells 31 = .ok (.lstore_n 3, 1) := by decide +kernel
theorem dX11_mixCells_32 : decode cX11_mixCells 32 = .ok (.lload_n 3, 1) := by decide +kernel
theorem dX11_mixCells_33 : decode cX11_mixCells 33 = .ok (.aload_n 0, 1) := by decide +kernel
theorem dX11_mixCells_34 : decode cX11_mixCells 34 = .ok (.getfield 33, 3) := by decide +kernel
theorem dX11_mixCells_37 : decode cX11_mixCells 37 = .ok (.iload 5, 2) := by decide +kernel
theorem dX11_mixCells_39 : decode cX11_mixCells 39 = .ok (.invokevirtual 182, 3) := by decide +kernel
theorem dX11_mixCells_42 : decode cX11_mixCells 42 = .ok (.i2l, 1) := by decide +kernel
theorem dX11_mixCells_43 : decode cX11_mixCells 43 = .ok (.invokestatic 255, 3) := by decide +kernel
theorem dX11_mixCells_46 : decode cX11_mixCells 46 = .ok (.lstore_n 3, 1) := by decide +kernel
theorem dX11_mixCells_47 : decode cX11_mixCells 47 = .ok (.iinc 5 1, 3) := by decide +kernel
theorem dX11_mixCells_50 : decode cX11_mixCells 50 = .ok (.goto (-45), 3) := by decide +kernel
theorem dX11_mixCells_53 : decode cX11_mixCells 53 = .ok (.lload_n 3, 1) := by decide +kernel
theorem dX11_mixCells_54 : decode cX11_mixCells 54 = .ok (.lreturn, 1) := by decide +kernel
