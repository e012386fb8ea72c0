set_option maxRecDepth 20000 in
theorem ggX11_init_X2_init : GoodIn wsX11_init wsX2_init := goodIn_r _ [35, 36, 2, 3, 37, 38, 39, 40, 41, 42, 43, 44, 45, 46, 47, 48, 49, 50, 51, 52, 53, 54, 55, 56, 57, 58, 59, 60, 61, 62, 63, 64, 65, 66, 67, 68, 69, 70, 71, 72, 73, 74, 125, 126, 127, 128, 129, 130, 131, 132, 165, 166, 167, 168] (by decide +kernel) (by decide +kernel)
set_option maxRecDepth 20000 in
theorem gX11_init_X2_init : GoodIn wsX11_init (wsX2_init) := ggX11_init_X2_init
set_option maxRecDepth 20000 in
theorem ggX11_init_X1_init : GoodIn wsX11_init wsX1_init := goodIn_r _ [76, 77, 2, 3, 78, 42, 43, 79, 80, 49, 50, 51, 52, 53, 54, 55, 56, 57, 58, 59, 60, 165, 166, 167, 168, 141] (by decide +kernel) (by decide +kernel)
set_option maxRecDepth 20000 in
theorem gX11_init_X1_init_n18 : GoodIn wsX11_init (wsX1_init) := ggX11_init_X1_init
set_option maxRecDepth 20000 in
theorem ggX11_init_X6_init : GoodIn wsX11_init wsX6_init := goodIn_r _ [82, 83, 2, 3, 84, 9, 10, 85, 75, 76, 77, 78, 42, 43, 79, 80, 49, 50, 51, 52, 53, 54, 55, 56, 57, 58, 59, 60, 141, 142, 165, 166, 167, 168] (by decide +kernel) (by decide +kernel)
set_option maxRecDepth 20000 in
theorem gX11_init_X6_init_n25 : GoodIn wsX11_init (wsX6_init) := ggX11_init_X6_init
set_option maxRecDepth 20000 in
theorem ggX11_init_X8_init : GoodIn wsX11_init wsX8_init := goodIn_r _ [87, 88, 2, 3, 59, 89, 90, 91, 92, 93, 94, 95, 96, 97, 98, 143, 144, 145, 146, 147, 148, 149, 150, 151] (by decide +kernel) (by decide +kernel)
set_option maxRecDepth 20000 in
theorem gX11_init_X8_init_n32 : GoodIn wsX11_init (wsX8_init) := ggX11_init_X8_init
set_option maxRecDepth 20000 in
theorem ggX11_init_X10_init : GoodIn wsX11_init wsX10_init := goodIn_r _ [101, 102, 2, 3, 103, 104, 105, 106, 5, 6, 107, 34, 35, 36, 37, 38, 39, 40, 41, 42, 43, 44, 45, 46, 47, 48, 49, 50, 51, 52, 53, 54, 55, 56, 57, 58, 59, 60, 61, 62, 63, 64, 65, 66, 67, 68, 69, 70, 71, 72, 73, 74, 152, 153, 154, 125, 126, 127, 128, 129, 130, 131, 132, 165, 166, 167, 168] (by decide +kernel) (by decide +kernel)
set_option maxRecDepth 20000 in
theorem gX11_init_X10_init : GoodIn wsX11_init (wsX10_init) := ggX11_init_X10_init
set_option maxRecDepth 20000 in
theorem ggX11_init_X5_init : GoodIn wsX11_init wsX5_init := goodIn_r _ [109, 110, 2, 3, 59, 111, 112, 155, 156] (by decide +kernel) (by decide +kernel)
set_option maxRecDepth 20000 in
theorem gX11_init_X5_init_n46 : GoodIn wsX11_init (wsX5_init) := ggX11_init_X5_init
set_option maxRecDepth 20000 in
theorem ggX11_init_X4_init : GoodIn wsX11_init wsX4_init := goodIn_r _ [114, 115, 2, 3, 116, 117, 59, 118, 119, 120, 121, 122, 123, 124, 157, 158, 159, 160, 161, 162, 163, 164] (by decide +kernel) (by decide +kernel)
set_option maxRecDepth 20000 in
theorem gX11_init_X4_init_n53 : GoodIn wsX11_init (wsX4_init) := ggX11_init_X4_init
theorem dX11_init_0 : decode cX11_init 0 = .ok (.aload_n 0, 1) := by decide +kernel
theorem dX11_init_1 : decode cX11_init 1 = .ok (.invokespecial 1, 3) := by decide +kernel
theorem dX11_init_4 : decode cX11_init 4 = .ok (.aload_n 0, 1) := by decide +kernel
theorem dX11_init_5 : decode cX11_init 5 = .ok (.new 7, 3) := by decide +kernel
theorem dX11_init_8 : decode cX11_init 8 = .ok (.dup, 1) := by decide +kernel
theorem dX11_init_9 : decode cX11_init 9 = .ok (.invokespecial 9, 3) := by decide +kernel
theorem dX11_init_12 : decode cX11_init 12 = .ok (.putfield 10, 3) := by decide +kernel
theorem dX11_init_15 : decode cX11_init 15 = .ok (.aload_n 0, 1) := by decide +kernel
theorem dX11_init_16 : decode cX11_init 16 = .ok (.new 16, 3) := by decide +kernel
theorem dX11_init_19 : decode cX11_init 19 = .ok (.dup, 1) := by decide +kernel
theorem dX11_init_20 : decode cX11_init 20 = .ok (.invokespecial 18, 3) := by decide +kernel
theorem dX11_init_23 : decode cX11_init 23 = .ok (.putfield 19, 3) := by decide +kernel
theorem dX11_init_26 : decode cX11_init 26 = .ok (.aload_n 0, 1) := by decide +kernel
theorem dX11_init_27 : decode cX11_init 27 = .ok (.new 23, 3) := by decide +kernel
theorem dX11_init_30 : decode cX11_init 30 = .ok (.dup, 1) := by decide +kernel
theorem dX11_init_31 : decode cX11_init 31 = .ok (.invokespecial 25, 3) := by decide +kernel
theorem dX11_init_34 : decode cX11_init 34 = .ok (.putfield 26, 3) := by decide +kernel
theorem dX11_init_37 : decode cX11_init 37 = .ok (.aload_n 0, 1) := by decide +kernel
theorem dX11_init_38 : decode cX11_init 38 = .ok (.new 30, 3) := by decide +kernel
theorem dX11_init_41 : decode cX11_init 41 = .ok (.dup, 1) := by decide +kernel
theorem dX11_init_42 : decode cX11_init 42 = .ok (.invokespecial 32, 3) := by decide +kernel
theorem dX11_init_45 : decode cX11_init 45 = .ok (.putfield 33, 3) := by decide +kernel
theorem dX11_init_48 : decode cX11_init 48 = .ok (.aload_n 0, 1) := by decide +kernel
theorem dX11_init_49 : decode cX11_init 49 = .ok (.new 37, 3) := by decide +kernel
theorem dX11_init_52 : decode cX11_init 52 = .ok (.dup, 1) := by decide +kernel
theorem dX11_init_53 : decode cX11_init 53 = .ok (.invokespecial 39, 3) := by decide +kernel
theorem dX11_init_56 : decode cX11_init 56 = .ok (.putfield 40, 3) := by decide +kernel
theorem dX11_init_59 : decode cX11_init 59 = .ok (.aload_n 0, 1) := by decide +kernel
theorem dX11_init_60 : decode cX11_init 60 = .ok (.new 44, 3) := by decide +kernel
theorem dX11_init_63 : decode cX11_init 63 = .ok (.dup, 1) := by decide +kernel
theorem dX11_init_64 : decode cX11_init 64 = .ok (.invokespecial 46, 3) := by decide +kernel
theorem dX11_init_67 : decode cX11_init 67 = .ok (.putfield 47, 3) := by decide +kernel
theorem dX11_init_70 : decode cX11_init 70 = .ok (.aload_n 0, 1) := by decide +kernel
theorem dX11_init_71 : decode cX11_init 71 = .ok (.new 51, 3) := by decide +kernel
theorem dX11_init_74 : decode cX11_init 74 = .ok (.dup, 1) := by decide +kernel
theorem dX11_init_75 : decode cX11_init 75 = .ok (.invokespecial 53, 3) := by decide +kernel
theorem dX11_init_78 : decode cX11_init 78 = .ok (.putfield 54, 3) := by decide +kernel
theorem dX11_init_81 : decode cX11_init 81 = .ok (.aload_n 0, 1) := by decide +kernel
theorem dX11_init_82 : decode cX11_init 82 = .ok (.iconst 0, 1) := by decide +kernel
theorem dX11_init_83 : decode cX11_init 83 = .ok (.putfield 58, 3) := by decide +kernel
theorem dX11_init_86 : decode cX11_init 86 = .ok (.return_, 1) := by decide +kernel
set_option maxRecDepth 20000 in
theorem ggX11_begin_X2_refusalOfField : GoodIn wsX11_begin wsX2_refusalOfField := goodIn_r _ [6, 7, 8, 9] (by decide +kernel) (by decide +kernel)
set_option maxRecDepth 20000 in
theorem gX11_begin_X2_refusalOfField : GoodIn wsX11_begin (wsV RX11 62 RX2 yX2_refusalOfField wsX2_refusalOfField) := goodIn_app (goodIn_of _ (by decide +kernel)) ggX11_begin_X2_refusalOfField
set_option maxRecDepth 20000 in
theorem ggX11_begin_X11_refuse : GoodIn wsX11_begin wsX11_refuse := goodIn_ca (goodIn_ca (goodIn_ca (goodIn_r _ [12, 13, 14, 15, 16, 17, 18] (by decide +kernel) (by decide +kernel)) (goodIn_sub (fun _ h => List.mem_cons_of_mem _ (List.mem_append_left _ (List.mem_append_left _ (List.mem_append_right _ h)))) (by decide +kernel))) (goodIn_sub (fun _ h => List.mem_cons_of_mem _ (List.mem_append_left _ (List.mem_append_right _ h))) (by decide +kernel))) (goodIn_sub (fun _ h => List.mem_cons_of_mem _ (List.mem_append_right _ h)) (by decide +kernel))
set_option maxRecDepth 20000 in
theorem gX11_begin_X11_refuse : GoodIn wsX11_begin (va_wsS RX11 66 yX11_refuse wsX11_refuse) := goodIn_app (goodIn_of _ (by decide +kernel)) ggX11_begin_X11_refuse
set_option maxRecDepth 20000 in
theorem ggX11_begin_X11_saveState : GoodIn wsX11_begin wsX11_saveState := goodIn_r _ [22, 23, 1, 24, 25, 26, 27, 28, 29, 30, 31, 32, 33, 34, 35, 36, 37, 38, 39, 5, 40, 41, 42, 43, 44, 45, 46, 47, 48, 49, 50, 51, 52, 53, 54, 55, 56, 57, 58, 59, 60, 61, 62, 63, 64, 65, 66, 72, 73, 74, 75, 76, 77, 78, 79, 80, 81, 82, 83, 84, 85, 86, 87, 88, 89, 90, 91, 92, 93, 94, 95, 96, 97, 98, 99, 100, 101, 102, 103] (by decide +kernel) (by decide +kernel)
set_option maxRecDepth 20000 in
theorem gX11_begin_X11_saveState : GoodIn wsX11_begin (wsV RX11 70 RX11 yX11_saveState wsX11_saveState) := goodIn_app (goodIn_of _ (by decide +kernel)) ggX11_begin_X11_saveState
set_option maxRecDepth 20000 in
theorem ggX11_begin_X2_startField : GoodIn wsX11_begin wsX2_startField := goodIn_r _ [70, 43, 41, 42, 45, 71, 46, 47, 83, 84, 85, 86, 87, 88, 89, 90, 91, 92, 93, 94] (by decide +kernel) (by decide +kernel)
set_option maxRecDepth 20000 in
theorem gX11_begin_X2_startField : GoodIn wsX11_begin (wsV RX11 73 RX2 yX2_startField wsX2_startField) := goodIn_app (goodIn_of _ (by decide +kernel)) ggX11_begin_X2_startField
theorem dX11_begin_0 : decode cX11_begin 0 = .ok (.aload_n 0, 1) := by decide +kernel
theorem dX11_begin_1 : decode cX11_begin 1 = .ok (.getfield 10, 3) := by decide +kernel
theorem dX11_begin_4 : decode cX11_begin 4 = .ok (.iload_n 1, 1) := by decide +kernel
theorem dX11_begin_5 : decode cX11_begin 5 = .ok (.iload_n 2, 1) := by decide +kernel
theorem dX11_begin_6 : decode cX11_begin 6 = .ok (.invokevirtual 62, 3) := by decide +kernel
theorem dX11_begin_9 : decode cX11_begin 9 = .ok (.invokestatic 66, 3) := by decide +kernel
theorem dX11_begin_12 : decode cX11_begin 12 = .ok (.aload_n 0, 1) := by decide +kernel
theorem dX11_begin_13 : decode cX11_begin 13 = .ok (.invokevirtual 70, 3) := by decide +kernel
theorem dX11_begin_16 : decode cX11_begin 16 = .ok (.aload_n 0, 1) := by decide +kernel
theorem dX11_begin_17 : decode cX11_begin 17 = .ok (.getfield 10, 3) := by decide +kernel
theorem dX11_begin_20 : decode cX11_begin 20 = .ok (.iload_n 1, 1) := by decide +kernel
theorem dX11_begin_21 : decode cX11_begin 21 = .ok (.iload_n 2, 1) := by decide +kernel
theorem dX11_begin_22 : decode cX11_begin 22 = .ok (.invokevirtual 73, 3) := by decide +kernel
theorem dX11_begin_25 : decode cX11_begin 25 = .ok (.ireturn, 1) := by decide +kernel
set_option maxRecDepth 20000 in
theorem ggX11_addMicrophone_X2_refusalOfMicrophone : GoodIn wsX11_addMicrophone wsX2_refusalOfMicrophone := goodIn_r _ [6, 7, 8, 9, 10, 11, 12, 13, 14, 15, 16, 17, 96, 97, 98, 99, 100, 101, 102, 103, 104, 105, 106, 107] (by decide +kernel) (by decide +kernel)
set_option maxRecDepth 20000 in
theorem gX11_addMicrophone_X2_refusalOfMicrophone : GoodIn wsX11_addMicrophone (wsV RX11 76 RX2 yX2_refusalOfMicrophone wsX2_refusalOfMicrophone) := goodIn_app (goodIn_of _ (by decide +kernel)) ggX11_addMicrophone_X2_refusalOfMicrophone
set_option maxRecDepth 20000 in
theorem ggX11_addMicrophone_X11_refuse : GoodIn wsX11_addMicrophone wsX11_refuse := goodIn_ca (goodIn_ca (goodIn_ca (goodIn_r _ [20, 21, 22, 23, 24, 25, 26] (by decide +kernel) (by decide +kernel)) (goodIn_sub (fun _ h => List.mem_cons_of_mem _ (List.mem_append_left _ (List.mem_append_left _ (List.mem_append_right _ h)))) (by decide +kernel))) (goodIn_sub (fun _ h => List.mem_cons_of_mem _ (List.mem_append_left _ (List.mem_append_right _ h))) (by decide +kernel))) (goodIn_sub (fun _ h => List.mem_cons_of_mem _ (List.mem_append_right _ h)) (by decide +kernel))
set_option maxRecDepth 20000 in
theorem gX11_addMicrophone_X11_refuse : GoodIn wsX11_addMicrophone (va_wsS RX11 66 yX11_refuse wsX11_refuse) := goodIn_app (goodIn_of _ (by decide +kernel)) ggX11_addMicrophone_X11_refuse
set_option maxRecDepth 20000 in
theorem ggX11_addMicrophone_X11_saveState : GoodIn wsX11_addMicrophone wsX11_saveState := goodIn_r _ [30, 31, 1, 32, 33, 34, 35, 36, 37, 38, 39, 40, 41, 42, 43, 44, 45, 46, 47, 5, 48, 49, 50, 51, 52, 7, 53, 54, 55, 56, 57, 58, 14, 59, 60, 61, 62, 63, 64, 65, 16, 66, 67, 68, 69, 70, 71, 88, 89, 90, 91, 92, 93, 94, 95, 108, 109, 110, 96, 97, 98, 99, 100, 101, 102, 103, 104, 105, 106, 107, 111, 112, 113, 114, 115, 116, 117, 118, 119] (by decide +kernel) (by decide +kernel)
set_option maxRecDepth 20000 in
theorem gX11_addMicrophone_X11_saveState : GoodIn wsX11_addMicrophone (wsV RX11 70 RX11 yX11_saveState wsX11_saveState) := goodIn_app (goodIn_of _ (by decide +kernel)) ggX11_addMicrophone_X11_saveState
set_option maxRecDepth 20000 in
theorem ggX11_addMicrophone_X2_placeMicrophone : GoodIn wsX11_addMicrophone wsX2_placeMicrophone := goodIn_r _ [75, 7, 76, 77, 78, 14, 79, 80, 16, 81, 82, 12, 13, 15, 17, 83, 84, 85, 86, 60, 87, 96, 97, 98, 99, 100, 101, 102, 103, 104, 105, 106, 107] (by decide +kernel) (by decide +kernel)
set_option maxRecDepth 20000 in
theorem gX11_addMicrophone_X2_placeMicrophone : GoodIn wsX11_addMicrophone (wsV RX11 79 RX2 yX2_placeMicrophone wsX2_placeMicrophone) := goodIn_app (goodIn_of _ (by decide +kernel)) ggX11_addMicrophone_X2_placeMicrophone
theorem dX11_addMicrophone_0 : decode cX11_addMicrophone 0 = .ok (.aload_n 0, 1) := by decide +kernel
theorem dX11_addMicrophone_1 : decode cX11_addMicrophone 1 = .ok (.getfield 10, 3) := by decide +kernel
theorem dX11_addMicrophone_4 : decode cX11_addMicrophone 4 = .ok (.iload_n 1, 1) := by decide +kernel
theorem dX11_addMicrophone_5 : decode cX11_addMicrophone 5 = .ok (.iload_n 2, 1) := by decide +kernel
theorem dX11_addMicrophone_6 : decode cX11_addMicrophone 6 = .ok (.invokevirtual 76, 3) := by decide +kernel
theorem dX11_addMicrophone_9 : decode cX11_addMicrophone 9 = .ok (.invokestatic 66, 3) := by decide +kernel
theorem dX11_addMicrophone_12 : decode cX11_addMicrophone 12 = .ok (.aload_n 0, 1) := by decide +kernel
theorem dX11_addMicrophone_13 : decode cX11_addMicrophone 13 = .ok (.invokevirtual 70, 3) := by decide +kernel
theorem dX11_addMicrophone_16 : decode cX11_addMicrophone 16 = .ok (.aload_n 0, 1) := by decide +kernel
theorem dX11_addMicrophone_17 : decode cX11_addMicrophone 17 = .ok (.getfield 10, 3) := by decide +kernel
theorem dX11_addMicrophone_20 : decode cX11_addMicrophone 20 = .ok (.iload_n 1, 1) := by decide +kernel
theorem dX11_addMicrophone_21 : decode cX11_addMicrophone 21 = .ok (.iload_n 2, 1) := by decide +kernel
theorem dX11_addMicrophone_22 : decode cX11_addMicrophone 22 = .ok (.invokevirtual 79, 3) := by decide +kernel
theorem dX11_addMicrophone_25 : decode cX11_addMicrophone 25 = .ok (.ireturn, 1) := by decide +kernel
set_option maxRecDepth 20000 in
theorem ggX11_setClock_X9_has : GoodIn wsX11_setClock wsX9_has := goodIn_r _ [7, 8, 101, 102, 103, 104] (by decide +kernel) (by decide +kernel)
set_option maxRecDepth 20000 in
theorem gX11_setClock_X9_has : GoodIn wsX11_setClock (wsV RX11 86 RX9 yX9_has wsX9_has) := goodIn_app (goodIn_of _ (by decide +kernel)) ggX11_setClock_X9_has
set_option maxRecDepth 20000 in
theorem ggX11_setClock_X11_requireThere : GoodIn wsX11_setClock wsX11_requireThere := goodIn_ca (goodIn_ca (goodIn_ca (goodIn_r _ [12, 13, 14, 11, 15, 16, 17, 18, 19, 20, 21] (by decide +kernel) (by decide +kernel)) (goodIn_sub (fun _ h => List.mem_cons_of_mem _ (List.mem_append_left _ (List.mem_append_left _ (List.mem_append_right _ h)))) (by decide +kernel))) (goodIn_sub (fun _ h => List.mem_cons_of_mem _ (List.mem_append_left _ (List.mem_append_right _ h))) (by decide +kernel))) (goodIn_sub (fun _ h => List.mem_cons_of_mem _ (List.mem_append_right _ h)) (by decide +kernel))
set_option maxRecDepth 20000 in
theorem gX11_setClock_X11_requireThere : GoodIn wsX11_setClock (va_wsS RX11 92 yX11_requireThere wsX11_requireThere) := goodIn_app (goodIn_of _ (by decide +kernel)) ggX11_setClock_X11_requireThere
set_option maxRecDepth 20000 in
theorem ggX11_setClock_X11_isBetween : GoodIn wsX11_setClock wsX11_isBetween := goodIn_r _ [24] (by decide +kernel) (by decide +kernel)
set_option maxRecDepth 20000 in
theorem gX11_setClock_X11_isBetween : GoodIn wsX11_setClock (va_wsS RX11 96 yX11_isBetween wsX11_isBetween) := goodIn_app (goodIn_of _ (by decide +kernel)) ggX11_setClock_X11_isBetween
set_option maxRecDepth 20000 in
theorem ggX11_setClock_X11_requireRange : GoodIn wsX11_setClock wsX11_requireRange := goodIn_ca (goodIn_ca (goodIn_ca (goodIn_r _ [27, 13, 14, 11, 15, 16, 17, 18, 19, 20, 21] (by decide +kernel) (by decide +kernel)) (goodIn_sub (fun _ h => List.mem_cons_of_mem _ (List.mem_append_left _ (List.mem_append_left _ (List.mem_append_right _ h)))) (by decide +kernel))) (goodIn_sub (fun _ h => List.mem_cons_of_mem _ (List.mem_append_left _ (List.mem_append_right _ h))) (by decide +kernel))) (goodIn_sub (fun _ h => List.mem_cons_of_mem _ (List.mem_append_right _ h)) (by decide +kernel))
set_option maxRecDepth 20000 in
theorem gX11_setClock_X11_requireRange : GoodIn wsX11_setClock (va_wsS RX11 100 yX11_requireRange wsX11_requireRange) := goodIn_app (goodIn_of _ (by decide +kernel)) ggX11_setClock_X11_requireRange
set_option maxRecDepth 20000 in
theorem ggX11_setClock_X11_saveState : GoodIn wsX11_setClock wsX11_saveState := goodIn_r _ [31, 32, 1, 33, 34, 35, 36, 37, 38, 39, 40, 41, 42, 43, 44, 45, 46, 47, 48, 49, 50, 51, 52, 53, 54, 55, 56, 57, 58, 59, 60, 61, 6, 62, 63, 64, 65, 66, 67, 68, 8, 69, 70, 71, 72, 73, 74, 85, 86, 87, 88, 89, 90, 91, 92, 105, 106, 107, 93, 94, 95, 96, 97, 98, 99, 100, 101, 102, 103, 104, 108, 109, 110, 111, 112, 113, 114, 115, 116] (by decide +kernel) (by decide +kernel)
set_option maxRecDepth 20000 in
theorem gX11_setClock_X11_saveState : GoodIn wsX11_setClock (wsV RX11 70 RX11 yX11_saveState wsX11_saveState) := goodIn_app (goodIn_of _ (by decide +kernel)) ggX11_setClock_X11_saveState
set_option maxRecDepth 20000 in
theorem ggX11_setClock_X9_at : GoodIn wsX11_setClock wsX9_at := goodIn_r _ [78, 8, 79, 80, 63, 101, 102, 103, 104] (by decide +kernel) (by decide +kernel)
set_option maxRecDepth 20000 in
theorem gX11_setClock_X9_at : GoodIn wsX11_setClock (wsV RX11 103 RX9 yX9_at wsX9_at) := goodIn_app (goodIn_of _ (by decide +kernel)) ggX11_setClock_X9_at
set_option maxRecDepth 20000 in
theorem ggX11_setClock_X9_put : GoodIn wsX11_setClock wsX9_put := goodIn_r _ [84, 8, 79, 63, 101, 102, 103, 104] (by decide +kernel) (by decide +kernel)
set_option maxRecDepth 20000 in
theorem gX11_setClock_X9_put : GoodIn wsX11_setClock (wsV RX11 106 RX9 yX9_put wsX9_put) := goodIn_app (goodIn_of _ (by decide +kernel)) ggX11_setClock_X9_put
theorem dX11_setClock_0 : decode cX11_setClock 0 = .ok (.aload_n 0, 1) := by decide +kernel
theorem dX11_setClock_1 : decode cX11_setClock 1 = .ok (.getfield 10, 3) := by decide +kernel
theorem dX11_setClock_4 : decode cX11_setClock 4 = .ok (.getfield 82, 3) := by decide +kernel
theorem dX11_setClock_7 : decode cX11_setClock 7 = .ok (.iload_n 1, 1) := by decide +kernel
theorem dX11_setClock_8 : decode cX11_setClock 8 = .ok (.invokevirtual 86, 3) := by decide +kernel
theorem dX11_setClock_11 : decode cX11_setClock 11 = .ok (.invokestatic 92, 3) := by decide +kernel
theorem dX11_setClock_14 : decode cX11_setClock 14 = .ok (.iload_n 2, 1) := by decide +kernel
theorem dX11_setClock_15 : decode cX11_setClock 15 = .ok (.sipush (-500), 3) := by decide +kernel
theorem dX11_setClock_18 : decode cX11_setClock 18 = .ok (.sipush 500, 3) := by decide +kernel
theorem dX11_setClock_21 : decode cX11_setClock 21 = .ok (.invokestatic 96, 3) := by decide +kernel
theorem dX11_setClock_24 : decode cX11_setClock 24 = .ok (.invokestatic 100, 3) := by decide +kernel
theorem dX11_setClock_27 : decode cX11_setClock 27 = .ok (.aload_n 0, 1) := by decide +kernel
theorem dX11_setClock_28 : decode cX11_setClock 28 = .ok (.invokevirtual 70, 3) := by decide +kernel
theorem dX11_setClock_31 : decode cX11_setClock 31 = .ok (.aload_n 0, 1) := by decide +kernel
theorem dX11_setClock_32 : decode cX11_setClock 32 = .ok (.getfield 10, 3) := by decide +kernel
theorem dX11_setClock_35 : decode cX11_setClock 35 = .ok (.getfield 82, 3) := by decide +kernel
theorem dX11_setClock_38 : decode cX11_setClock 38 = .ok (.iload_n 1, 1) := by decide +kernel
theorem dX11_setClock_39 : decode cX11_setClock 39 = .ok (.iconst 2, 1) := by decide +kernel
theorem dX11_setClock_40 : decode cX11_setClock 40 = .ok (.invokevirtual 103, 3) := by decide +kernel
theorem dX11_setClock_43 : decode cX11_setClock 43 = .ok (.istore_n 3, 1) := by decide +kernel
theorem dX11_setClock_44 : decode cX11_setClock 44 = .ok (.aload_n 0, 1) := by decide +kernel
theorem dX11_setClock_45 : decode cX11_setClock 45 = .ok (.getfield 10, 3) := by decide +kernel
theorem dX11_setClock_48 : decode cX11_setClock 48 = .ok (.getfield 82, 3) := by decide +kernel
theorem dX11_setClock_51 : decode cX11_setClock 51 = .ok (.iload_n 1, 1) := by decide +kernel
theorem dX11_setClock_52 : decode cX11_setClock 52 = .ok (.iconst 2, 1) := by decide +kernel
theorem dX11_setClock_53 : decode cX11_setClock 53 = .ok (.iload_n 2, 1) := by decide +kernel
theorem dX11_setClock_54 : decode cX11_setClock 54 = .ok (.invokevirtual 106, 3) := by decide +kernel
theorem dX11_setClock_57 : decode cX11_setClock 57 = .ok (.iload_n 3, 1) := by decide +kernel
theorem dX11_setClock_58 : decode cX11_setClock 58 = .ok (.ireturn, 1) := by decide +kernel
set_option maxRecDepth 20000 in
theorem ggX11_addWall_X2_refusalOfWall : GoodIn wsX11_addWall wsX2_refusalOfWall := goodIn_r _ [6, 7, 8, 9, 10, 11, 12, 13, 14, 15, 16, 17, 96, 97, 98, 99, 100, 101, 102, 103, 104, 105, 106, 107] (by decide +kernel) (by decide +kernel)
set_option maxRecDepth 20000 in
theorem gX11_addWall_X2_refusalOfWall : GoodIn wsX11_addWall (wsV RX11 110 RX2 yX2_refusalOfWall wsX2_refusalOfWall) := goodIn_app (goodIn_of _ (by decide +kernel)) ggX11_addWall_X2_refusalOfWall
set_option maxRecDepth 20000 in
theorem ggX11_addWall_X11_refuse : GoodIn wsX11_addWall wsX11_refuse := goodIn_ca (goodIn_ca (goodIn_ca (goodIn_r _ [20, 21, 22, 23, 24, 25, 26] (by decide +kernel) (by decide +kernel)) (goodIn_sub (fun _ h => List.mem_cons_of_mem _ (List.mem_append_left _ (List.mem_append_left _ (List.mem_append_right _ h)))) (by decide +kernel))) (goodIn_sub (fun _ h => List.mem_cons_of_mem _ (List.mem_append_left _ (List.mem_append_right _ h))) (by decide +kernel))) (goodIn_sub (fun _ h => List.mem_cons_of_mem _ (List.mem_append_right _ h)) (by decide +kernel))
set_option maxRecDepth 20000 in
theorem gX11_addWall_X11_refuse : GoodIn wsX11_addWall (va_wsS RX11 66 yX11_refuse wsX11_refuse) := goodIn_app (goodIn_of _ (by decide +kernel)) ggX11_addWall_X11_refuse
set_option maxRecDepth 20000 in
theorem ggX11_addWall_X11_saveState : GoodIn wsX11_addWall wsX11_saveState := goodIn_r _ [30, 31, 1, 32, 33, 34, 35, 36, 37, 38, 39, 40, 41, 42, 43, 44, 45, 46, 47, 5, 48, 49, 50, 51, 52, 53, 7, 54, 55, 56, 57, 58, 14, 59, 60, 61, 62, 63, 64, 65, 16, 66, 67, 68, 69, 70, 71, 88, 89, 90, 91, 92, 93, 94, 95, 108, 109, 110, 96, 97, 98, 99, 100, 101, 102, 103, 104, 105, 106, 107, 111, 112, 113, 114, 115, 116, 117, 118, 119] (by decide +kernel) (by decide +kernel)
set_option maxRecDepth 20000 in
theorem gX11_addWall_X11_saveState : GoodIn wsX11_addWall (wsV RX11 70 RX11 yX11_saveState wsX11_saveState) := goodIn_app (goodIn_of _ (by decide +kernel)) ggX11_addWall_X11_saveState
set_option maxRecDepth 20000 in
theorem ggX11_addWall_X2_placeWall : GoodIn wsX11_addWall wsX2_placeWall := goodIn_r _ [75, 7, 76, 77, 78, 14, 79, 80, 16, 81, 82, 12, 13, 15, 17, 83, 84, 85, 86, 60, 87, 96, 97, 98, 99, 100, 101, 102, 103, 104, 105, 106, 107] (by decide +kernel) (by decide +kernel)
set_option maxRecDepth 20000 in
theorem gX11_addWall_X2_placeWall : GoodIn wsX11_addWall (wsV RX11 114 RX2 yX2_placeWall wsX2_placeWall) := goodIn_app (goodIn_of _ (by decide +kernel)) ggX11_addWall_X2_placeWall
theorem dX11_addWall_0 : decode cX11_addWall 0 = .ok (.aload_n 0, 1) := by decide +kernel
theorem dX11_addWall_1 : decode cX11_addWall 1 = .ok (.getfield 10, 3) := by decide +kernel
theorem dX11_addWall_4 : decode cX11_addWall 4 = .ok (.iload_n 1, 1) := by decide +kernel
theorem dX11_addWall_5 : decode cX11_addWall 5 = .ok (.iload_n 2, 1) := by decide +kernel
theorem dX11_addWall_6 : decode cX11_addWall 6 = .ok (.iload_n 3, 1) := by decide +kernel
theorem dX11_addWall_7 : decode cX11_addWall 7 = .ok (.invokevirtual 110, 3) := by decide +kernel
theorem dX11_addWall_10 : decode cX11_addWall 10 = .ok (.invokestatic 66, 3) := by decide +kernel
theorem dX11_addWall_13 : decode cX11_addWall 13 = .ok (.aload_n 0, 1) := by decide +kernel
theorem dX11_addWall_14 : decode cX11_addWall 14 = .ok (.invokevirtual 70, 3) := by decide +kernel
theorem dX11_addWall_17 : decode cX11_addWall 17 = .ok (.aload_n 0, 1) := by decide +kernel
theorem dX11_addWall_18 : decode cX11_addWall 18 = .ok (.getfield 10, 3) := by decide +kernel
theorem dX11_addWall_21 : decode cX11_addWall 21 = .ok (.iload_n 1, 1) := by decide +kernel
theorem dX11_addWall_22 : decode cX11_addWall 22 = .ok (.iload_n 2, 1) := by decide +kernel
theorem dX11_addWall_23 : decode cX11_addWall 23 = .ok (.iload_n 3, 1) := by decide +kernel
theorem dX11_addWall_24 : decode cX11_addWall 24 = .ok (.invokevirtual 114, 3) := by decide +kernel
theorem dX11_addWall_27 : decode cX11_addWall 27 = .ok (.ireturn, 1) := by decide +kernel
set_option maxRecDepth 20000 in
theorem ggX11_addScreen_X2_refusalOfScreen : GoodIn wsX11_addScreen wsX2_refusalOfScreen := goodIn_r _ [6, 7, 8, 9, 10, 11, 12, 13, 14, 15, 16, 17, 96, 97, 98, 99, 100, 101, 102, 103, 104, 105, 106, 107] (by decide +kernel) (by decide +kernel)
set_option maxRecDepth 20000 in
theorem gX11_addScreen_X2_refusalOfScreen : GoodIn wsX11_addScreen (wsV RX11 117 RX2 yX2_refusalOfScreen wsX2_refusalOfScreen) := goodIn_app (goodIn_of _ (by decide +kernel)) ggX11_addScreen_X2_refusalOfScreen
set_option maxRecDepth 20000 in
theorem ggX11_addScreen_X11_refuse : GoodIn wsX11_addScreen wsX11_refuse := goodIn_ca (goodIn_ca (goodIn_ca (goodIn_r _ [20, 21, 22, 23, 24, 25, 26] (by decide +kernel) (by decide +kernel)) (goodIn_sub (fun _ h => List.mem_cons_of_mem _ (List.mem_append_left _ (List.mem_append_left _ (List.mem_append_right _ h)))) (by decide +kernel))) (goodIn_sub (fun _ h => List.mem_cons_of_mem _ (List.mem_append_left _ (List.mem_append_right _ h))) (by decide +kernel))) (goodIn_sub (fun _ h => List.mem_cons_of_mem _ (List.mem_append_right _ h)) (by decide +kernel))
set_option maxRecDepth 20000 in
theorem gX11_addScreen_X11_refuse : GoodIn wsX11_addScreen (va_wsS RX11 66 yX11_refuse wsX11_refuse) := goodIn_app (goodIn_of _ (by decide +kernel)) ggX11_addScreen_X11_refuse
set_option maxRecDepth 20000 in
theorem ggX11_addScreen_X11_saveState : GoodIn wsX11_addScreen wsX11_saveState := goodIn_r _ [30, 31, 1, 32, 33, 34, 35, 36, 37, 38, 39, 40, 41, 42, 43, 44, 45, 46, 47, 5, 48, 49, 50, 51, 52, 53, 54, 7, 55, 56, 57, 58, 14, 59, 60, 61, 62, 63, 64, 65, 16, 66, 67, 68, 69, 70, 71, 88, 89, 90, 91, 92, 93, 94, 95, 108, 109, 110, 96, 97, 98, 99, 100, 101, 102, 103, 104, 105, 106, 107, 111, 112, 113, 114, 115, 116, 117, 118, 119] (by decide +kernel) (by decide +kernel)
set_option maxRecDepth 20000 in
theorem gX11_addScreen_X11_saveState : GoodIn wsX11_addScreen (wsV RX11 70 RX11 yX11_saveState wsX11_saveState) := goodIn_app (goodIn_of _ (by decide +kernel)) ggX11_addScreen_X11_saveState
set_option maxRecDepth 20000 in
theorem ggX11_addScreen_X2_placeScreen : GoodIn wsX11_addScreen wsX2_placeScreen := goodIn_r _ [75, 7, 76, 77, 78, 14, 79, 80, 16, 81, 82, 12, 13, 15, 17, 83, 84, 85, 86, 60, 87, 96, 97, 98, 99, 100, 101, 102, 103, 104, 105, 106, 107] (by decide +kernel) (by decide +kernel)
set_option maxRecDepth 20000 in
theorem gX11_addScreen_X2_placeScreen : GoodIn wsX11_addScreen (wsV RX11 121 RX2 yX2_placeScreen wsX2_placeScreen) := goodIn_app (goodIn_of _ (by decide +kernel)) ggX11_addScreen_X2_placeScreen
theorem dX11_addScreen_0 : decode cX11_addScreen 0 = .ok (.aload_n 0, 1) := by decide +kernel
theorem dX11_addScreen_1 : decode cX11_addScreen 1 = .ok (.getfield 10, 3) := by decide +kernel
theorem dX11_addScreen_4 : decode cX11_addScreen 4 = .ok (.iload_n 1, 1) := by decide +kernel
theorem dX11_addScreen_5 : decode cX11_addScreen 5 = .ok (.iload_n 2, 1) := by decide +kernel
theorem dX11_addScreen_6 : decode cX11_addScreen 6 = .ok (.iload_n 3, 1) := by decide +kernel
theorem dX11_addScreen_7 : decode cX11_addScreen 7 = .ok (.iload 4, 2) := by decide +kernel
theorem dX11_addScreen_9 : decode cX11_addScreen 9 = .ok (.invokevirtual 117, 3) := by decide +kernel
theorem dX11_addScreen_12 : decode cX11_addScreen 12 = .ok (.invokestatic 66, 3) := by decide +kernel
theorem dX11_addScreen_15 : decode cX11_addScreen 15 = .ok (.aload_n 0, 1) := by decide +kernel
theorem dX11_addScreen_16 : decode cX11_addScreen 16 = .ok (.invokevirtual 70, 3) := by decide +kernel
theorem dX11_addScreen_19 : decode cX11_addScreen 19 = .ok (.aload_n 0, 1) := by decide +kernel
theorem dX11_addScreen_20 : decode cX11_addScreen 20 = .ok (.getfield 10, 3) := by decide +kernel
theorem dX11_addScreen_23 : decode cX11_addScreen 23 = .ok (.iload_n 1, 1) := by decide +kernel
theorem dX11_addScreen_24 : decode cX11_addScreen 24 = .ok (.iload_n 2, 1) := by decide +kernel
theorem dX11_addScreen_25 : decode cX11_addScreen 25 = .ok (.iload_n 3, 1) := by decide +kernel
theorem dX11_addScreen_26 : decode cX11_addScreen 26 = .ok (.iload 4, 2) := by decide +kernel
theorem dX11_addScreen_28 : decode cX11_addScreen 28 = .ok (.invokevirtual 121, 3) := by decide +kernel
theorem dX11_addScreen_31 : decode cX11_addScreen 31 = .ok (.ireturn, 1) := by decide +kernel
set_option maxRecDepth 20000 in
theorem ggX11_remove_X11_isBetween : GoodIn wsX11_remove wsX11_isBetween := goodIn_r _ [6] (by decide +kernel) (by decide +kernel)
set_option maxRecDepth 20000 in
theorem gX11_remove_X11_isBetween : GoodIn wsX11_remove (va_wsS RX11 96 yX11_isBetween wsX11_isBetween) := goodIn_app (goodIn_of _ (by decide +kernel)) ggX11_remove_X11_isBetween
set_option maxRecDepth 20000 in
theorem ggX11_remove_X11_requireRange : GoodIn wsX11_remove wsX11_requireRange := goodIn_ca (goodIn_ca (goodIn_ca (goodIn_r _ [9, 10, 11, 5, 12, 13, 14, 15, 16, 17, 18] (by decide +kernel) (by decide +kernel)) (goodIn_sub (fun _ h => List.mem_cons_of_mem _ (List.mem_append_left _ (List.mem_append_left _ (List.mem_append_right _ h)))) (by decide +kernel))) (goodIn_sub (fun _ h => List.mem_cons_of_mem _ (List.mem_append_left _ (List.mem_append_right _ h))) (by decide +kernel))) (goodIn_sub (fun _ h => List.mem_cons_of_mem _ (List.mem_append_right _ h)) (by decide +kernel))
set_option maxRecDepth 20000 in
theorem gX11_remove_X11_requireRange : GoodIn wsX11_remove (va_wsS RX11 100 yX11_requireRange wsX11_requireRange) := goodIn_app (goodIn_of _ (by decide +kernel)) ggX11_remove_X11_requireRange
set_option maxRecDepth 20000 in
theorem ggX11_remove_X2_tableOf : GoodIn wsX11_remove wsX2_tableOf := goodIn_r _ [23, 24, 25, 26, 27, 97, 98, 99, 100, 101, 102, 103, 104] (by decide +kernel) (by decide +kernel)
set_option maxRecDepth 20000 in
theorem gX11_remove_X2_tableOf : GoodIn wsX11_remove (wsV RX11 124 RX2 yX2_tableOf wsX2_tableOf) := goodIn_app (goodIn_of _ (by decide +kernel)) ggX11_remove_X2_tableOf
set_option maxRecDepth 20000 in
theorem ggX11_remove_X9_has : GoodIn wsX11_remove wsX9_has := goodIn_r _ [32, 33, 93, 94, 95, 96] (by decide +kernel) (by decide +kernel)
set_option maxRecDepth 20000 in
theorem gX11_remove_X9_has : GoodIn wsX11_remove (wsV RX11 86 RX9 yX9_has wsX9_has) := goodIn_app (goodIn_of _ (by decide +kernel)) ggX11_remove_X9_has
set_option maxRecDepth 20000 in
theorem ggX11_remove_X11_requireThere : GoodIn wsX11_remove wsX11_requireThere := goodIn_ca (goodIn_ca (goodIn_ca (goodIn_r _ [36, 10, 11, 5, 12, 13, 14, 15, 16, 17, 18] (by decide +kernel) (by decide +kernel)) (goodIn_sub (fun _ h => List.mem_cons_of_mem _ (List.mem_append_left _ (List.mem_append_left _ (List.mem_append_right _ h)))) (by decide +kernel))) (goodIn_sub (fun _ h => List.mem_cons_of_mem _ (List.mem_append_left _ (List.mem_append_right _ h))) (by decide +kernel))) (goodIn_sub (fun _ h => List.mem_cons_of_mem _ (List.mem_append_right _ h)) (by decide +kernel))
set_option maxRecDepth 20000 in
theorem gX11_remove_X11_requireThere : GoodIn wsX11_remove (va_wsS RX11 92 yX11_requireThere wsX11_requireThere) := goodIn_app (goodIn_of _ (by decide +kernel)) ggX11_remove_X11_requireThere
set_option maxRecDepth 20000 in
theorem ggX11_remove_X11_saveState : GoodIn wsX11_remove wsX11_saveState := goodIn_r _ [40, 41, 1, 42, 43, 44, 45, 46, 47, 48, 49, 50, 51, 52, 53, 54, 55, 56, 57, 22, 58, 59, 60, 61, 62, 24, 25, 26, 27, 63, 64, 65, 31, 66, 67, 68, 69, 70, 71, 72, 33, 73, 74, 75, 76, 77, 78, 85, 86, 87, 88, 89, 90, 91, 92, 105, 106, 107, 97, 98, 99, 100, 101, 102, 103, 104, 93, 94, 95, 96, 108, 109, 110, 111, 112, 113, 114, 115, 116] (by decide +kernel) (by decide +kernel)
set_option maxRecDepth 20000 in
theorem gX11_remove_X11_saveState : GoodIn wsX11_remove (wsV RX11 70 RX11 yX11_saveState wsX11_saveState) := goodIn_app (goodIn_of _ (by decide +kernel)) ggX11_remove_X11_saveState
set_option maxRecDepth 20000 in
theorem ggX11_remove_X9_dropRow : GoodIn wsX11_remove wsX9_dropRow := goodIn_r _ [82, 33, 83, 67, 69, 70, 71, 72, 84, 29, 30, 31, 32, 93, 94, 95, 96] (by decide +kernel) (by decide +kernel)
set_option maxRecDepth 20000 in
theorem gX11_remove_X9_dropRow : GoodIn wsX11_remove (wsV RX11 128 RX9 yX9_dropRow wsX9_dropRow) := goodIn_app (goodIn_of _ (by decide +kernel)) ggX11_remove_X9_dropRow
theorem dX11_remove_0 : decode cX11_remove 0 = .ok (.iload_n 1, 1) := by decide +kernel
theorem dX11_remove_1 : decode cX11_remove 1 = .ok (.iconst 0, 1) := by decide +kernel
theorem dX11_remove_2 : decode cX11_remove 2 = .ok (.iconst 2, 1) := by decide +kernel
theorem dX11_remove_3 : decode cX11_remove 3 = .ok (.invokestatic 96, 3) := by decide +kernel
theorem dX11_remove_6 : decode cX11_remove 6 = .ok (.invokestatic 100, 3) := by decide +kernel
theorem dX11_remove_9 : decode cX11_remove 9 = .ok (.aload_n 0, 1) := by decide +kernel
theorem dX11_remove_10 : decode cX11_remove 10 = .ok (.getfield 10, 3) := by decide +kernel
theorem dX11_remove_13 : decode cX11_remove 13 = .ok (.iload_n 1, 1) := by decide +kernel
theorem dX11_remove_14 : decode cX11_remove 14 = .ok (.invokevirtual 124, 3) := by decide +kernel
theorem dX11_remove_17 : decode cX11_remove 17 = .ok (.astore_n 3, 1) := by decide +kernel
theorem dX11_remove_18 : decode cX11_remove 18 = .ok (.aload_n 3, 1) := by decide +kernel
theorem dX11_remove_19 : decode cX11_remove 19 = .ok (.iload_n 2, 1) := by decide +kernel
theorem dX11_remove_20 : decode cX11_remove 20 = .ok (.invokevirtual 86, 3) := by decide +kernel
theorem dX11_remove_23 : decode cX11_remove 23 = .ok (.invokestatic 92, 3) := by decide +kernel
theorem dX11_remove_26 : decode cX11_remove 26 = .ok (.aload_n 0, 1) := by decide +kernel
theorem dX11_remove_27 : decode cX11_remove 27 = .ok (.invokevirtual 70, 3) := by decide +kernel
theorem dX11_remove_30 : decode cX11_remove 30 = .ok (.aload_n 3, 1) := by decide +kernel
theorem dX11_remove_31 : decode cX11_remove 31 = .ok (.iload_n 2, 1) := by decide +kernel
theorem dX11_remove_32 : decode cX11_remove 32 = .ok (.invokevirtual 128, 3) := by decide +kernel
theorem dX11_remove_35 : decode cX11_remove 35 = .ok (.aload_n 3, 1) := by decide +kernel
theorem dX11_remove_36 : decode cX11_remove 36 = .ok (.getfield 131, 3) := by decide +kernel
theorem dX11_remove_39 : decode cX11_remove 39 = .ok (.ireturn, 1) := by decide +kernel
set_option maxRecDepth 20000 in
theorem ggX11_set_X2_refusalOfSetting : GoodIn wsX11_set wsX2_refusalOfSetting := goodIn_r _ [6, 7, 8, 9] (by decide +kernel) (by decide +kernel)
set_option maxRecDepth 20000 in
theorem gX11_set_X2_refusalOfSetting : GoodIn wsX11_set (wsV RX11 134 RX2 yX2_refusalOfSetting wsX2_refusalOfSetting) := goodIn_app (goodIn_of _ (by decide +kernel)) ggX11_set_X2_refusalOfSetting
set_option maxRecDepth 20000 in
theorem ggX11_set_X11_refuse : GoodIn wsX11_set wsX11_refuse := goodIn_ca (goodIn_ca (goodIn_ca (goodIn_r _ [12, 13, 14, 15, 16, 17, 18] (by decide +kernel) (by decide +kernel)) (goodIn_sub (fun _ h => List.mem_cons_of_mem _ (List.mem_append_left _ (List.mem_append_left _ (List.mem_append_right _ h)))) (by decide +kernel))) (goodIn_sub (fun _ h => List.mem_cons_of_mem _ (List.mem_append_left _ (List.mem_append_right _ h))) (by decide +kernel))) (goodIn_sub (fun _ h => List.mem_cons_of_mem _ (List.mem_append_right _ h)) (by decide +kernel))
set_option maxRecDepth 20000 in
theorem gX11_set_X11_refuse : GoodIn wsX11_set (va_wsS RX11 66 yX11_refuse wsX11_refuse) := goodIn_app (goodIn_of _ (by decide +kernel)) ggX11_set_X11_refuse
set_option maxRecDepth 20000 in
theorem ggX11_set_X11_saveState : GoodIn wsX11_set wsX11_saveState := goodIn_r _ [22, 23, 1, 24, 25, 26, 27, 28, 29, 30, 31, 32, 33, 34, 35, 36, 37, 38, 39, 5, 40, 41, 42, 43, 44, 45, 46, 47, 48, 49, 50, 51, 52, 53, 54, 55, 56, 57, 58, 59, 60, 61, 62, 63, 64, 65, 66, 85, 86, 87, 88, 89, 90, 91, 92, 93, 94, 95, 96, 97, 98, 99, 100, 101, 102, 103, 104, 105, 106, 107, 108, 109, 110, 111, 112, 113, 114, 115, 116] (by decide +kernel) (by decide +kernel)
set_option maxRecDepth 20000 in
theorem gX11_set_X11_saveState : GoodIn wsX11_set (wsV RX11 70 RX11 yX11_saveState wsX11_saveState) := goodIn_app (goodIn_of _ (by decide +kernel)) ggX11_set_X11_saveState
set_option maxRecDepth 20000 in
theorem ggX11_set_X2_changeSetting : GoodIn wsX11_set wsX2_changeSetting := goodIn_r _ [70, 48, 71, 72, 73, 5, 74, 75, 76, 77, 52, 78, 60, 79, 80, 54, 81, 82, 83, 84, 96, 97, 98, 99, 100, 101, 102, 103, 104, 105, 106, 107] (by decide +kernel) (by decide +kernel)
set_option maxRecDepth 20000 in
theorem gX11_set_X2_changeSetting : GoodIn wsX11_set (wsV RX11 137 RX2 yX2_changeSetting wsX2_changeSetting) := goodIn_app (goodIn_of _ (by decide +kernel)) ggX11_set_X2_changeSetting
theorem dX11_set_0 : decode cX11_set 0 = .ok (.aload_n 0, 1) := by decide +kernel
theorem dX11_set_1 : decode cX11_set 1 = .ok (.getfield 10, 3) := by decide +kernel
theorem dX11_set_4 : decode cX11_set 4 = .ok (.iload_n 1, 1) := by decide +kernel
theorem dX11_set_5 : decode cX11_set 5 = .ok (.iload_n 2, 1) := by decide +kernel
theorem dX11_set_6 : decode cX11_set 6 = .ok (.invokevirtual 134, 3) := by decide +kernel
theorem dX11_set_9 : decode cX11_set 9 = .ok (.invokestatic 66, 3) := by decide +kernel
theorem dX11_set_12 : decode cX11_set 12 = .ok (.aload_n 0, 1) := by decide +kernel
theorem dX11_set_13 : decode cX11_set 13 = .ok (.invokevirtual 70, 3) := by decide +kernel
theorem dX11_set_16 : decode cX11_set 16 = .ok (.aload_n 0, 1) := by decide +kernel
theorem dX11_set_17 : decode cX11_set 17 = .ok (.getfield 10, 3) := by decide +kernel
theorem dX11_set_20 : decode cX11_set 20 = .ok (.iload_n 1, 1) := by decide +kernel
theorem dX11_set_21 : decode cX11_set 21 = .ok (.iload_n 2, 1) := by decide +kernel
theorem dX11_set_22 : decode cX11_set 22 = .ok (.invokevirtual 137, 3) := by decide +kernel
theorem dX11_set_25 : decode cX11_set 25 = .ok (.ireturn, 1) := by decide +kernel
set_option maxRecDepth 20000 in
theorem ggX11_setS_X11_requireRange : GoodIn wsX11_setS wsX11_requireRange := goodIn_ca (goodIn_ca (goodIn_ca (goodIn_r _ [6, 7, 8, 5, 9, 10, 11, 12, 13, 14, 15] (by decide +kernel) (by decide +kernel)) (goodIn_sub (fun _ h => List.mem_cons_of_mem _ (List.mem_append_left _ (List.mem_append_left _ (List.mem_append_right _ h)))) (by decide +kernel))) (goodIn_sub (fun _ h => List.mem_cons_of_mem _ (List.mem_append_left _ (List.mem_append_right _ h))) (by decide +kernel))) (goodIn_sub (fun _ h => List.mem_cons_of_mem _ (List.mem_append_right _ h)) (by decide +kernel))
set_option maxRecDepth 20000 in
theorem gX11_setS_X11_requireRange : GoodIn wsX11_setS (va_wsS RX11 100 yX11_requireRange wsX11_requireRange) := goodIn_app (goodIn_of _ (by decide +kernel)) ggX11_setS_X11_requireRange
set_option maxRecDepth 20000 in
theorem ggX11_setS_X11_saveState : GoodIn wsX11_setS wsX11_saveState := goodIn_r _ [19, 20, 1, 21, 22, 23, 24, 25, 26, 27, 28, 29, 30, 31, 32, 33, 34, 35, 36, 37, 38, 39, 40, 41, 42, 43, 44, 45, 46, 47, 48, 49, 50, 51, 52, 53, 54, 55, 56, 57, 58, 59, 60, 61, 62, 63, 64, 65, 66, 67, 68, 69, 70, 71, 72, 81, 82, 83, 73, 74, 75, 76, 77, 78, 79, 80, 84, 85, 86, 87, 88, 89, 90, 91, 92, 93, 94, 95, 96] (by decide +kernel) (by decide +kernel)
set_option maxRecDepth 20000 in
theorem gX11_setS_X11_saveState : GoodIn wsX11_setS (wsV RX11 70 RX11 yX11_saveState wsX11_saveState) := goodIn_app (goodIn_of _ (by decide +kernel)) ggX11_setS_X11_saveState
theorem dX11_setS_0 : decode cX11_setS 0 = .ok (.iload_n 1, 1) := by decide +kernel
theorem dX11_setS_1 : decode cX11_setS 1 = .ok (.ifCond .lt 7, 3) := by decide +kernel
theorem dX11_setS_4 : decode cX11_setS 4 = .ok (.iconst 1, 1) := by decide +kernel
theorem dX11_setS_5 : decode cX11_setS 5 = .ok (.goto 4, 3) := by decide +kernel
theorem dX11_setS_8 : decode cX11_setS 8 = .ok (.iconst 0, 1) := by decide +kernel
theorem dX11_setS_9 : decode cX11_setS 9 = .ok (.invokestatic 100, 3) := by decide +kernel
theorem dX11_setS_12 : decode cX11_setS 12 = .ok (.aload_n 0, 1) := by decide +kernel
theorem dX11_setS_13 : decode cX11_setS 13 = .ok (.invokevirtual 70, 3) := by decide +kernel
theorem dX11_setS_16 : decode cX11_setS 16 = .ok (.aload_n 0, 1) := by decide +kernel
theorem dX11_setS_17 : decode cX11_setS 17 = .ok (.getfield 10, 3) := by decide +kernel
theorem dX11_setS_20 : decode cX11_setS 20 = .ok (.getfield 140, 3) := by decide +kernel
theorem dX11_setS_23 : decode cX11_setS 23 = .ok (.istore_n 2, 1) := by decide +kernel
theorem dX11_setS_24 : decode cX11_setS 24 = .ok (.aload_n 0, 1) := by decide +kernel
theorem dX11_setS_25 : decode cX11_setS 25 = .ok (.getfield 10, 3) := by decide +kernel
theorem dX11_setS_28 : decode cX11_setS 28 = .ok (.iload_n 1, 1) := by decide +kernel
theorem dX11_setS_29 : decode cX11_setS 29 = .ok (.putfield 140, 3) := by decide +kernel
theorem dX11_setS_32 : decode cX11_setS 32 = .ok (.iload_n 2, 1) := by decide +kernel
theorem dX11_setS_33 : decode cX11_setS 33 = .ok (.ireturn, 1) := by decide +kernel
set_option maxRecDepth 20000 in
theorem ggX11_click_X2_refusalOfClick : GoodIn wsX11_click wsX2_refusalOfClick := goodIn_r _ [7, 8, 9, 10, 11, 12, 13, 14, 15, 16, 214, 215, 216, 217, 218, 219, 220, 221, 222, 223, 224, 225] (by decide +kernel) (by decide +kernel)
set_option maxRecDepth 20000 in
theorem gX11_click_X2_refusalOfClick : GoodIn wsX11_click (wsV RX11 143 RX2 yX2_refusalOfClick wsX2_refusalOfClick) := goodIn_app (goodIn_of _ (by decide +kernel)) ggX11_click_X2_refusalOfClick
set_option maxRecDepth 20000 in
theorem ggX11_click_X11_refuse : GoodIn wsX11_click wsX11_refuse := goodIn_ca (goodIn_ca (goodIn_ca (goodIn_r _ [19, 20, 21, 22, 23, 24, 25] (by decide +kernel) (by decide +kernel)) (goodIn_sub (fun _ h => List.mem_cons_of_mem _ (List.mem_append_left _ (List.mem_append_left _ (List.mem_append_right _ h)))) (by decide +kernel))) (goodIn_sub (fun _ h => List.mem_cons_of_mem _ (List.mem_append_left _ (List.mem_append_right _ h))) (by decide +kernel))) (goodIn_sub (fun _ h => List.mem_cons_of_mem _ (List.mem_append_right _ h)) (by decide +kernel))
set_option maxRecDepth 20000 in
theorem gX11_click_X11_refuse : GoodIn wsX11_click (va_wsS RX11 66 yX11_refuse wsX11_refuse) := goodIn_app (goodIn_of _ (by decide +kernel)) ggX11_click_X11_refuse
set_option maxRecDepth 20000 in
theorem ggX11_click_X11_saveState : GoodIn wsX11_click wsX11_saveState := goodIn_r _ [29, 30, 1, 31, 32, 33, 34, 35, 36, 37, 38, 39, 40, 41, 42, 43, 44, 45, 46, 6, 47, 48, 49, 50, 51, 9, 52, 53, 54, 55, 56, 57, 58, 59, 60, 61, 62, 63, 64, 65, 66, 67, 68, 69, 70, 71, 72, 206, 207, 208, 209, 210, 211, 212, 213, 226, 227, 228, 214, 215, 216, 217, 218, 219, 220, 221, 222, 223, 224, 225, 229, 230, 231, 232, 233, 234, 235, 236, 237] (by decide +kernel) (by decide +kernel)
set_option maxRecDepth 20000 in
theorem gX11_click_X11_saveState : GoodIn wsX11_click (wsV RX11 70 RX11 yX11_saveState wsX11_saveState) := goodIn_app (goodIn_of _ (by decide +kernel)) ggX11_click_X11_saveState
set_option maxRecDepth 20000 in
theorem ggX11_click_X6_hearClick : GoodIn wsX11_click wsX6_hearClick := goodIn_r _ [77, 78, 79, 80, 81, 82, 83, 84, 85, 86, 87, 88, 89, 90, 91, 92, 93, 6, 94, 9, 53, 10, 95, 96, 97, 58, 98, 66, 99, 100, 60, 101, 102, 103, 104, 105, 41, 42, 43, 106, 107, 108, 109, 110, 111, 112, 113, 114, 115, 116, 117, 118, 119, 120, 121, 122, 123, 124, 125, 126, 127, 128, 129, 130, 131, 132, 133, 134, 52, 135, 136, 137, 138, 139, 140, 141, 142, 143, 144, 145, 146, 147, 148, 149, 150, 151, 152, 153, 154, 155, 156, 54, 157, 158, 159, 160, 161, 162, 163, 164, 165, 166, 167, 168, 169, 170, 171, 172, 173, 174, 175, 76, 176, 177, 178, 179, 180, 181, 182, 183, 51, 184, 185, 186, 187, 188, 189, 190, 191, 192, 193, 194, 195, 196, 197, 198, 199, 200, 201, 202, 203, 204, 205, 214, 215, 216, 217, 218, 219, 220, 221, 222, 223, 224, 225, 238, 239] (by decide +kernel) (by decide +kernel)
set_option maxRecDepth 20000 in
theorem gX11_click_X6_hearClick : GoodIn wsX11_click (wsV RX11 146 RX6 yX6_hearClick wsX6_hearClick) := goodIn_app (goodIn_of _ (by decide +kernel)) ggX11_click_X6_hearClick
theorem dX11_click_0 : decode cX11_click 0 = .ok (.aload_n 0, 1) := by decide +kernel
theorem dX11_click_1 : decode cX11_click 1 = .ok (.getfield 10, 3) := by decide +kernel
theorem dX11_click_4 : decode cX11_click 4 = .ok (.iload_n 1, 1) := by decide +kernel
theorem dX11_click_5 : decode cX11_click 5 = .ok (.iload_n 2, 1) := by decide +kernel
theorem dX11_click_6 : decode cX11_click 6 = .ok (.iload_n 3, 1) := by decide +kernel
theorem dX11_click_7 : decode cX11_click 7 = .ok (.invokevirtual 143, 3) := by decide +kernel
theorem dX11_click_10 : decode cX11_click 10 = .ok (.invokestatic 66, 3) := by decide +kernel
theorem dX11_click_13 : decode cX11_click 13 = .ok (.aload_n 0, 1) := by decide +kernel
theorem dX11_click_14 : decode cX11_click 14 = .ok (.invokevirtual 70, 3) := by decide +kernel
theorem dX11_click_17 : decode cX11_click 17 = .ok (.aload_n 0, 1) := by decide +kernel
theorem dX11_click_18 : decode cX11_click 18 = .ok (.getfield 26, 3) := by decide +kernel
theorem dX11_click_21 : decode cX11_click 21 = .ok (.aload_n 0, 1) := by decide +kernel
theorem dX11_click_22 : decode cX11_click 22 = .ok (.getfield 10, 3) := by decide +kernel
theorem dX11_click_25 : decode cX11_click 25 = .ok (.iload_n 1, 1) := by decide +kernel
theorem dX11_click_26 : decode cX11_click 26 = .ok (.iload_n 2, 1) := by decide +kernel
theorem dX11_click_27 : decode cX11_click 27 = .ok (.iload_n 3, 1) := by decide +kernel
theorem dX11_click_28 : decode cX11_click 28 = .ok (.invokevirtual 146, 3) := by decide +kernel
theorem dX11_click_31 : decode cX11_click 31 = .ok (.ireturn, 1) := by decide +kernel
set_option maxRecDepth 20000 in
theorem ggX11_calibrate_X2_refusalOfClick : GoodIn wsX11_calibrate wsX2_refusalOfClick := goodIn_r _ [7, 8, 9, 10, 11, 12, 13, 14, 15, 16, 216, 217, 218, 219, 220, 221, 222, 223, 224, 225, 226, 227] (by decide +kernel) (by decide +kernel)
set_option maxRecDepth 20000 in
theorem gX11_calibrate_X2_refusalOfClick : GoodIn wsX11_calibrate (wsV RX11 143 RX2 yX2_refusalOfClick wsX2_refusalOfClick) := goodIn_app (goodIn_of _ (by decide +kernel)) ggX11_calibrate_X2_refusalOfClick
set_option maxRecDepth 20000 in
theorem ggX11_calibrate_X11_refuse : GoodIn wsX11_calibrate wsX11_refuse := goodIn_ca (goodIn_ca (goodIn_ca (goodIn_r _ [19, 20, 21, 22, 23, 24, 25] (by decide +kernel) (by decide +kernel)) (goodIn_sub (fun _ h => List.mem_cons_of_mem _ (List.mem_append_left _ (List.mem_append_left _ (List.mem_append_right _ h)))) (by decide +kernel))) (goodIn_sub (fun _ h => List.mem_cons_of_mem _ (List.mem_append_left _ (List.mem_append_right _ h))) (by decide +kernel))) (goodIn_sub (fun _ h => List.mem_cons_of_mem _ (List.mem_append_right _ h)) (by decide +kernel))
set_option maxRecDepth 20000 in
theorem gX11_calibrate_X11_refuse : GoodIn wsX11_calibrate (va_wsS RX11 66 yX11_refuse wsX11_refuse) := goodIn_app (goodIn_of _ (by decide +kernel)) ggX11_calibrate_X11_refuse
set_option maxRecDepth 20000 in
theorem ggX11_calibrate_X11_saveState : GoodIn wsX11_calibrate wsX11_saveState := goodIn_r _ [29, 30, 1, 31, 32, 33, 34, 35, 36, 37, 38, 39, 40, 41, 42, 43, 44, 45, 46, 6, 47, 48, 49, 50, 51, 9, 52, 53, 54, 55, 56, 57, 58, 59, 60, 61, 62, 63, 64, 65, 66, 67, 68, 69, 70, 71, 72, 208, 209, 210, 211, 212, 213, 214, 215, 228, 229, 230, 216, 217, 218, 219, 220, 221, 222, 223, 224, 225, 226, 227, 231, 232, 233, 234, 235, 236, 237, 238, 239] (by decide +kernel) (by decide +kernel)
set_option maxRecDepth 20000 in
theorem gX11_calibrate_X11_saveState : GoodIn wsX11_calibrate (wsV RX11 70 RX11 yX11_saveState wsX11_saveState) := goodIn_app (goodIn_of _ (by decide +kernel)) ggX11_calibrate_X11_saveState
set_option maxRecDepth 20000 in
theorem ggX11_calibrate_X6_hearKnownClick : GoodIn wsX11_calibrate wsX6_hearKnownClick := goodIn_r _ [77, 78, 79, 80, 81, 82, 83, 84, 58, 85, 66, 86, 87, 60, 88, 89, 90, 91, 92, 93, 94, 95, 96, 97, 98, 99, 100, 101, 102, 103, 6, 104, 9, 53, 10, 105, 106, 107, 108, 109, 110, 41, 42, 43, 111, 112, 113, 114, 115, 116, 117, 118, 119, 120, 121, 122, 123, 124, 125, 126, 127, 128, 129, 130, 131, 132, 133, 134, 135, 136, 137, 138, 139, 52, 140, 141, 142, 143, 144, 145, 146, 147, 148, 149, 150, 151, 152, 153, 154, 155, 156, 157, 158, 54, 159, 160, 161, 162, 163, 164, 165, 166, 167, 168, 169, 170, 171, 172, 173, 174, 175, 176, 177, 76, 178, 179, 180, 181, 182, 183, 184, 185, 51, 186, 187, 188, 189, 190, 191, 192, 193, 194, 195, 196, 197, 198, 199, 200, 201, 202, 203, 204, 205, 206, 207, 216, 217, 218, 219, 220, 221, 222, 223, 224, 225, 226, 227, 240, 241] (by decide +kernel) (by decide +kernel)
set_option maxRecDepth 20000 in
theorem gX11_calibrate_X6_hearKnownClick : GoodIn wsX11_calibrate (wsV RX11 150 RX6 yX6_hearKnownClick wsX6_hearKnownClick) := goodIn_app (goodIn_of _ (by decide +kernel)) ggX11_calibrate_X6_hearKnownClick
theorem dX11_calibrate_0 : decode cX11_calibrate 0 = .ok (.aload_n 0, 1) := by decide +kernel
theorem dX11_calibrate_1 : decode cX11_calibrate 1 = .ok (.getfield 10, 3) := by decide +kernel
theorem dX11_calibrate_4 : decode cX11_calibrate 4 = .ok (.iload_n 1, 1) := by decide +kernel
theorem dX11_calibrate_5 : decode cX11_calibrate 5 = .ok (.iload_n 2, 1) := by decide +kernel
theorem dX11_calibrate_6 : decode cX11_calibrate 6 = .ok (.iload_n 3, 1) := by decide +kernel
theorem dX11_calibrate_7 : decode cX11_calibrate 7 = .ok (.invokevirtual 143, 3) := by decide +kernel
theorem dX11_calibrate_10 : decode cX11_calibrate 10 = .ok (.invokestatic 66, 3) := by decide +kernel
theorem dX11_calibrate_13 : decode cX11_calibrate 13 = .ok (.aload_n 0, 1) := by decide +kernel
theorem dX11_calibrate_14 : decode cX11_calibrate 14 = .ok (.invokevirtual 70, 3) := by decide +kernel
theorem dX11_calibrate_17 : decode cX11_calibrate 17 = .ok (.aload_n 0, 1) := by decide +kernel
theorem dX11_calibrate_18 : decode cX11_calibrate 18 = .ok (.getfield 26, 3) := by decide +kernel
theorem dX11_calibrate_21 : decode cX11_calibrate 21 = .ok (.aload_n 0, 1) := by decide +kernel
theorem dX11_calibrate_22 : decode cX11_calibrate 22 = .ok (.getfield 10, 3) := by decide +kernel
theorem dX11_calibrate_25 : decode cX11_calibrate 25 = .ok (.iload_n 1, 1) := by decide +kernel
theorem dX11_calibrate_26 : decode cX11_calibrate 26 = .ok (.iload_n 2, 1) := by decide +kernel
theorem dX11_calibrate_27 : decode cX11_calibrate 27 = .ok (.iload_n 3, 1) := by decide +kernel
theorem dX11_calibrate_28 : decode cX11_calibrate 28 = .ok (.invokevirtual 150, 3) := by decide +kernel
theorem dX11_calibrate_31 : decode cX11_calibrate 31 = .ok (.ireturn, 1) := by decide +kernel
set_option maxRecDepth 20000 in
theorem ggX11_note_X9_has : GoodIn wsX11_note wsX9_has := goodIn_r _ [7, 8, 45, 46, 47, 48] (by decide +kernel) (by decide +kernel)
set_option maxRecDepth 20000 in
theorem gX11_note_X9_has : GoodIn wsX11_note (wsV RX11 86 RX9 yX9_has wsX9_has) := goodIn_app (goodIn_of _ (by decide +kernel)) ggX11_note_X9_has
set_option maxRecDepth 20000 in
theorem ggX11_note_X11_requireThere : GoodIn wsX11_note wsX11_requireThere := goodIn_ca (goodIn_ca (goodIn_ca (goodIn_r _ [12, 13, 14, 11, 15, 16, 17, 18, 19, 20, 21] (by decide +kernel) (by decide +kernel)) (goodIn_sub (fun _ h => List.mem_cons_of_mem _ (List.mem_append_left _ (List.mem_append_left _ (List.mem_append_right _ h)))) (by decide +kernel))) (goodIn_sub (fun _ h => List.mem_cons_of_mem _ (List.mem_append_left _ (List.mem_append_right _ h))) (by decide +kernel))) (goodIn_sub (fun _ h => List.mem_cons_of_mem _ (List.mem_append_right _ h)) (by decide +kernel))
set_option maxRecDepth 20000 in
theorem gX11_note_X11_requireThere : GoodIn wsX11_note (va_wsS RX11 92 yX11_requireThere wsX11_requireThere) := goodIn_app (goodIn_of _ (by decide +kernel)) ggX11_note_X11_requireThere
set_option maxRecDepth 20000 in
theorem ggX11_note_X9_at : GoodIn wsX11_note wsX9_at := goodIn_r _ [25, 8, 26, 27, 28, 45, 46, 47, 48] (by decide +kernel) (by decide +kernel)
set_option maxRecDepth 20000 in
theorem gX11_note_X9_at : GoodIn wsX11_note (wsV RX11 103 RX9 yX9_at wsX9_at) := goodIn_app (goodIn_of _ (by decide +kernel)) ggX11_note_X9_at
theorem dX11_note_0 : decode cX11_note 0 = .ok (.aload_n 0, 1) := by decide +kernel
theorem dX11_note_1 : decode cX11_note 1 = .ok (.getfield 10, 3) := by decide +kernel
theorem dX11_note_4 : decode cX11_note 4 = .ok (.getfield 82, 3) := by decide +kernel
theorem dX11_note_7 : decode cX11_note 7 = .ok (.iload_n 1, 1) := by decide +kernel
theorem dX11_note_8 : decode cX11_note 8 = .ok (.invokevirtual 86, 3) := by decide +kernel
theorem dX11_note_11 : decode cX11_note 11 = .ok (.invokestatic 92, 3) := by decide +kernel
theorem dX11_note_14 : decode cX11_note 14 = .ok (.aload_n 0, 1) := by decide +kernel
theorem dX11_note_15 : decode cX11_note 15 = .ok (.getfield 10, 3) := by decide +kernel
theorem dX11_note_18 : decode cX11_note 18 = .ok (.getfield 82, 3) := by decide +kernel
theorem dX11_note_21 : decode cX11_note 21 = .ok (.iload_n 1, 1) := by decide +kernel
theorem dX11_note_22 : decode cX11_note 22 = .ok (.iconst 4, 1) := by decide +kernel
theorem dX11_note_23 : decode cX11_note 23 = .ok (.invokevirtual 103, 3) := by decide +kernel
theorem dX11_note_26 : decode cX11_note 26 = .ok (.ireturn, 1) := by decide +kernel
set_option maxRecDepth 20000 in
theorem ggX11_heard_X9_has : GoodIn wsX11_heard wsX9_has := goodIn_r _ [7, 8, 51, 52, 53, 54] (by decide +kernel) (by decide +kernel)
set_option maxRecDepth 20000 in
theorem gX11_heard_X9_has : GoodIn wsX11_heard (wsV RX11 86 RX9 yX9_has wsX9_has) := goodIn_app (goodIn_of _ (by decide +kernel)) ggX11_heard_X9_has
set_option maxRecDepth 20000 in
theorem ggX11_heard_X11_requireThere : GoodIn wsX11_heard wsX11_requireThere := goodIn_ca (goodIn_ca (goodIn_ca (goodIn_r _ [12, 13, 14, 11, 15, 16, 17, 18, 19, 20, 21] (by decide +kernel) (by decide +kernel)) (goodIn_sub (fun _ h => List.mem_cons_of_mem _ (List.mem_append_left _ (List.mem_append_left _ (List.mem_append_right _ h)))) (by decide +kernel))) (goodIn_sub (fun _ h => List.mem_cons_of_mem _ (List.mem_append_left _ (List.mem_append_right _ h))) (by decide +kernel))) (goodIn_sub (fun _ h => List.mem_cons_of_mem _ (List.mem_append_right _ h)) (by decide +kernel))
set_option maxRecDepth 20000 in
theorem gX11_heard_X11_requireThere : GoodIn wsX11_heard (va_wsS RX11 92 yX11_requireThere wsX11_requireThere) := goodIn_app (goodIn_of _ (by decide +kernel)) ggX11_heard_X11_requireThere
set_option maxRecDepth 20000 in
theorem ggX11_heard_X11_isBetween : GoodIn wsX11_heard wsX11_isBetween := goodIn_r _ [24] (by decide +kernel) (by decide +kernel)
set_option maxRecDepth 20000 in
theorem gX11_heard_X11_isBetween : GoodIn wsX11_heard (va_wsS RX11 96 yX11_isBetween wsX11_isBetween) := goodIn_app (goodIn_of _ (by decide +kernel)) ggX11_heard_X11_isBetween
set_option maxRecDepth 20000 in
theorem ggX11_heard_X11_requireRange : GoodIn wsX11_heard wsX11_requireRange := goodIn_ca (goodIn_ca (goodIn_ca (goodIn_r _ [27, 13, 14, 11, 15, 16, 17, 18, 19, 20, 21] (by decide +kernel) (by decide +kernel)) (goodIn_sub (fun _ h => List.mem_cons_of_mem _ (List.mem_append_left _ (List.mem_append_left _ (List.mem_append_right _ h)))) (by decide +kernel))) (goodIn_sub (fun _ h => List.mem_cons_of_mem _ (List.mem_append_left _ (List.mem_append_right _ h))) (by decide +kernel))) (goodIn_sub (fun _ h => List.mem_cons_of_mem _ (List.mem_append_right _ h)) (by decide +kernel))
set_option maxRecDepth 20000 in
theorem gX11_heard_X11_requireRange : GoodIn wsX11_heard (va_wsS RX11 100 yX11_requireRange wsX11_requireRange) := goodIn_app (goodIn_of _ (by decide +kernel)) ggX11_heard_X11_requireRange
set_option maxRecDepth 20000 in
theorem ggX11_heard_X9_at : GoodIn wsX11_heard wsX9_at := goodIn_r _ [31, 8, 32, 33, 34, 51, 52, 53, 54] (by decide +kernel) (by decide +kernel)
set_option maxRecDepth 20000 in
theorem gX11_heard_X9_at : GoodIn wsX11_heard (wsV RX11 103 RX9 yX9_at wsX9_at) := goodIn_app (goodIn_of _ (by decide +kernel)) ggX11_heard_X9_at
theorem dX11_heard_0 : decode cX11_heard 0 = .ok (.aload_n 0, 1) := by decide +kernel
theorem dX11_heard_1 : decode cX11_heard 1 = .ok (.getfield 10, 3) := by decide +kernel
theorem dX11_heard_4 : decode cX11_heard 4 = .ok (.getfield 82, 3) := by decide +kernel
theorem dX11_heard_7 : decode cX11_heard 7 = .ok (.iload_n 1, 1) := by decide +kernel
theorem dX11_heard_8 : decode cX11_heard 8 = .ok (.invokevirtual 86, 3) := by decide +kernel
theorem dX11_heard_11 : decode cX11_heard 11 = .ok (.invokestatic 92, 3) := by decide +kernel
theorem dX11_heard_14 : decode cX11_heard 14 = .ok (.iload_n 2, 1) := by decide +kernel
theorem dX11_heard_15 : decode cX11_heard 15 = .ok (.iconst 0, 1) := by decide +kernel
theorem dX11_heard_16 : decode cX11_heard 16 = .ok (.iconst 3, 1) := by decide +kernel
theorem dX11_heard_17 : decode cX11_heard 17 = .ok (.invokestatic 96, 3) := by decide +kernel
theorem dX11_heard_20 : decode cX11_heard 20 = .ok (.invokestatic 100, 3) := by decide +kernel
theorem dX11_heard_23 : decode cX11_heard 23 = .ok (.aload_n 0, 1) := by decide +kernel
theorem dX11_heard_24 : decode cX11_heard 24 = .ok (.getfield 10, 3) := by decide +kernel
theorem dX11_heard_27 : decode cX11_heard 27 = .ok (.getfield 82, 3) := by decide +kernel
theorem dX11_heard_30 : decode cX11_heard 30 = .ok (.iload_n 1, 1) := by decide +kernel
theorem dX11_heard_31 : decode cX11_heard 31 = .ok (.iconst 5, 1) := by decide +kernel
theorem dX11_heard_32 : decode cX11_heard 32 = .ok (.iload_n 2, 1) := by decide +kernel
theorem dX11_heard_33 : decode cX11_heard 33 = .ok (.iadd, 1) := by decide +kernel
theorem dX11_heard_34 : decode cX11_heard 34 = .ok (.invokevirtual 103, 3) := by decide +kernel
theorem dX11_heard_37 : decode cX11_heard 37 = .ok (.ireturn, 1) := by decide +kernel
set_option maxRecDepth 20000 in
theorem ggX11_arrivals_X9_has : GoodIn wsX11_arrivals wsX9_has := goodIn_r _ [10, 11, 149, 150, 151, 152] (by decide +kernel) (by decide +kernel)
set_option maxRecDepth 20000 in
theorem gX11_arrivals_X9_has : GoodIn wsX11_arrivals (wsV RX11 86 RX9 yX9_has wsX9_has) := goodIn_app (goodIn_of _ (by decide +kernel)) ggX11_arrivals_X9_has
set_option maxRecDepth 20000 in
theorem ggX11_arrivals_X11_requireThere : GoodIn wsX11_arrivals wsX11_requireThere := goodIn_ca (goodIn_ca (goodIn_ca (goodIn_r _ [15, 16, 17, 14, 18, 19, 20, 21, 22, 23, 24] (by decide +kernel) (by decide +kernel)) (goodIn_sub (fun _ h => List.mem_cons_of_mem _ (List.mem_append_left _ (List.mem_append_left _ (List.mem_append_right _ h)))) (by decide +kernel))) (goodIn_sub (fun _ h => List.mem_cons_of_mem _ (List.mem_append_left _ (List.mem_append_right _ h))) (by decide +kernel))) (goodIn_sub (fun _ h => List.mem_cons_of_mem _ (List.mem_append_right _ h)) (by decide +kernel))
set_option maxRecDepth 20000 in
theorem gX11_arrivals_X11_requireThere : GoodIn wsX11_arrivals (va_wsS RX11 92 yX11_requireThere wsX11_requireThere) := goodIn_app (goodIn_of _ (by decide +kernel)) ggX11_arrivals_X11_requireThere
set_option maxRecDepth 20000 in
theorem ggX11_arrivals_X11_isClickPlace : GoodIn wsX11_arrivals wsX11_isClickPlace := goodIn_r _ [27, 28, 29, 14, 30] (by decide +kernel) (by decide +kernel)
set_option maxRecDepth 20000 in
theorem gX11_arrivals_X11_isClickPlace : GoodIn wsX11_arrivals (va_wsS RX11 153 yX11_isClickPlace wsX11_isClickPlace) := goodIn_app (goodIn_of _ (by decide +kernel)) ggX11_arrivals_X11_isClickPlace
set_option maxRecDepth 20000 in
theorem ggX11_arrivals_X11_requireRange : GoodIn wsX11_arrivals wsX11_requireRange := goodIn_ca (goodIn_ca (goodIn_ca (goodIn_r _ [33, 16, 17, 14, 18, 19, 20, 21, 22, 23, 24] (by decide +kernel) (by decide +kernel)) (goodIn_sub (fun _ h => List.mem_cons_of_mem _ (List.mem_append_left _ (List.mem_append_left _ (List.mem_append_right _ h)))) (by decide +kernel))) (goodIn_sub (fun _ h => List.mem_cons_of_mem _ (List.mem_append_left _ (List.mem_append_right _ h))) (by decide +kernel))) (goodIn_sub (fun _ h => List.mem_cons_of_mem _ (List.mem_append_right _ h)) (by decide +kernel))
set_option maxRecDepth 20000 in
theorem gX11_arrivals_X11_requireRange : GoodIn wsX11_arrivals (va_wsS RX11 100 yX11_requireRange wsX11_requireRange) := goodIn_app (goodIn_of _ (by decide +kernel)) ggX11_arrivals_X11_requireRange
set_option maxRecDepth 20000 in
theorem ggX11_arrivals_X1_collect : GoodIn wsX11_arrivals wsX1_collect := goodIn_r _ [38, 39, 40, 41, 42, 43, 44, 45, 46, 47, 48, 49, 50, 51, 52, 53, 9, 54, 11, 55, 56, 57, 58, 59, 60, 61, 62, 63, 64, 65, 66, 67, 68, 69, 70, 71, 72, 73, 74, 75, 76, 77, 78, 79, 80, 81, 82, 83, 84, 85, 37, 86, 87, 88, 89, 90, 91, 92, 93, 94, 95, 96, 7, 8, 10, 97, 98, 99, 100, 101, 102, 103, 104, 105, 106, 107, 108, 109, 110, 111, 112, 113, 114, 115, 116, 117, 118, 119, 120, 121, 122, 123, 124, 125, 126, 127, 128, 129, 130, 131, 148, 149, 150, 151, 152, 140, 141, 142, 143, 144, 145, 146, 147] (by decide +kernel) (by decide +kernel)
set_option maxRecDepth 20000 in
theorem gX11_arrivals_X1_collect : GoodIn wsX11_arrivals (wsV RX11 157 RX1 yX1_collect wsX1_collect) := goodIn_app (goodIn_of _ (by decide +kernel)) ggX11_arrivals_X1_collect
theorem dX11_arrivals_0 : decode cX11_arrivals 0 = .ok (.aload_n 0, 1) := by decide +kernel
theorem dX11_arrivals_1 : decode cX11_arrivals 1 = .ok (.getfield 10, 3) := by decide +kernel
theorem dX11_arrivals_4 : decode cX11_arrivals 4 = .ok (.getfield 82, 3) := by decide +kernel
theorem dX11_arrivals_7 : decode cX11_arrivals 7 = .ok (.iload_n 3, 1) := by decide +kernel
theorem dX11_arrivals_8 : decode cX11_arrivals 8 = .ok (.invokevirtual 86, 3) := by decide +kernel
theorem dX11_arrivals_11 : decode cX11_arrivals 11 = .ok (.invokestatic 92, 3) := by decide +kernel
theorem dX11_arrivals_14 : decode cX11_arrivals 14 = .ok (.iload_n 1, 1) := by decide +kernel
theorem dX11_arrivals_15 : decode cX11_arrivals 15 = .ok (.iload_n 2, 1) := by decide +kernel
theorem dX11_arrivals_16 : decode cX11_arrivals 16 = .ok (.invokestatic 153, 3) := by decide +kernel
theorem dX11_arrivals_19 : decode cX11_arrivals 19 = .ok (.invokestatic 100, 3) := by decide +kernel
theorem dX11_arrivals_22 : decode cX11_arrivals 22 = .ok (.aload_n 0, 1) := by decide +kernel
theorem dX11_arrivals_23 : decode cX11_arrivals 23 = .ok (.getfield 19, 3) := by decide +kernel
theorem dX11_arrivals_26 : decode cX11_arrivals 26 = .ok (.aload_n 0, 1) := by decide +kernel
theorem dX11_arrivals_27 : decode cX11_arrivals 27 = .ok (.getfield 10, 3) := by decide +kernel
theorem dX11_arrivals_30 : decode cX11_arrivals 30 = .ok (.iload_n 1, 1) := by decide +kernel
theorem dX11_arrivals_31 : decode cX11_arrivals 31 = .ok (.iload_n 2, 1) := by decide +kernel
theorem dX11_arrivals_32 : decode cX11_arrivals 32 = .ok (.iload_n 3, 1) := by decide +kernel
theorem dX11_arrivals_33 : decode cX11_arrivals 33 = .ok (.invokevirtual 157, 3) := by decide +kernel
theorem dX11_arrivals_36 : decode cX11_arrivals 36 = .ok (.aload_n 0, 1) := by decide +kernel
theorem dX11_arrivals_37 : decode cX11_arrivals 37 = .ok (.getfield 19, 3) := by decide +kernel
theorem dX11_arrivals_40 : decode cX11_arrivals 40 = .ok (.getfield 161, 3) := by decide +kernel
theorem dX11_arrivals_43 : decode cX11_arrivals 43 = .ok (.getfield 131, 3) := by decide +kernel
theorem dX11_arrivals_46 : decode cX11_arrivals 46 = .ok (.ireturn, 1) := by decide +kernel
set_option maxRecDepth 20000 in
theorem ggX11_arrival_X9_has : GoodIn wsX11_arrival wsX9_has := goodIn_r _ [9, 10, 149, 150, 151, 152] (by decide +kernel) (by decide +kernel)
set_option maxRecDepth 20000 in
theorem gX11_arrival_X9_has : GoodIn wsX11_arrival (wsV RX11 86 RX9 yX9_has wsX9_has) := goodIn_app (goodIn_of _ (by decide +kernel)) ggX11_arrival_X9_has
set_option maxRecDepth 20000 in
theorem ggX11_arrival_X11_requireThere : GoodIn wsX11_arrival wsX11_requireThere := goodIn_ca (goodIn_ca (goodIn_ca (goodIn_r _ [14, 15, 16, 13, 17, 18, 19, 20, 21, 22, 23] (by decide +kernel) (by decide +kernel)) (goodIn_sub (fun _ h => List.mem_cons_of_mem _ (List.mem_append_left _ (List.mem_append_left _ (List.mem_append_right _ h)))) (by decide +kernel))) (goodIn_sub (fun _ h => List.mem_cons_of_mem _ (List.mem_append_left _ (List.mem_append_right _ h))) (by decide +kernel))) (goodIn_sub (fun _ h => List.mem_cons_of_mem _ (List.mem_append_right _ h)) (by decide +kernel))
set_option maxRecDepth 20000 in
theorem gX11_arrival_X11_requireThere : GoodIn wsX11_arrival (va_wsS RX11 92 yX11_requireThere wsX11_requireThere) := goodIn_app (goodIn_of _ (by decide +kernel)) ggX11_arrival_X11_requireThere
set_option maxRecDepth 20000 in
theorem ggX11_arrival_X11_isClickPlace : GoodIn wsX11_arrival wsX11_isClickPlace := goodIn_r _ [26, 27, 28, 13, 29] (by decide +kernel) (by decide +kernel)
set_option maxRecDepth 20000 in
theorem gX11_arrival_X11_isClickPlace : GoodIn wsX11_arrival (va_wsS RX11 153 yX11_isClickPlace wsX11_isClickPlace) := goodIn_app (goodIn_of _ (by decide +kernel)) ggX11_arrival_X11_isClickPlace
set_option maxRecDepth 20000 in
theorem ggX11_arrival_X11_isBetween : GoodIn wsX11_arrival wsX11_isBetween := goodIn_r _ [29] (by decide +kernel) (by decide +kernel)
set_option maxRecDepth 20000 in
theorem gX11_arrival_X11_isBetween : GoodIn wsX11_arrival (va_wsS RX11 96 yX11_isBetween wsX11_isBetween) := goodIn_app (goodIn_of _ (by decide +kernel)) ggX11_arrival_X11_isBetween
set_option maxRecDepth 20000 in
theorem ggX11_arrival_X11_requireRange : GoodIn wsX11_arrival wsX11_requireRange := goodIn_ca (goodIn_ca (goodIn_ca (goodIn_r _ [32, 15, 16, 13, 17, 18, 19, 20, 21, 22, 23] (by decide +kernel) (by decide +kernel)) (goodIn_sub (fun _ h => List.mem_cons_of_mem _ (List.mem_append_left _ (List.mem_append_left _ (List.mem_append_right _ h)))) (by decide +kernel))) (goodIn_sub (fun _ h => List.mem_cons_of_mem _ (List.mem_append_left _ (List.mem_append_right _ h))) (by decide +kernel))) (goodIn_sub (fun _ h => List.mem_cons_of_mem _ (List.mem_append_right _ h)) (by decide +kernel))
set_option maxRecDepth 20000 in
theorem gX11_arrival_X11_requireRange : GoodIn wsX11_arrival (va_wsS RX11 100 yX11_requireRange wsX11_requireRange) := goodIn_app (goodIn_of _ (by decide +kernel)) ggX11_arrival_X11_requireRange
set_option maxRecDepth 20000 in
theorem ggX11_arrival_X1_collect : GoodIn wsX11_arrival wsX1_collect := goodIn_r _ [37, 38, 39, 40, 41, 42, 43, 44, 45, 46, 47, 48, 49, 50, 51, 52, 8, 53, 10, 54, 55, 56, 57, 58, 59, 60, 61, 62, 63, 64, 65, 66, 67, 68, 69, 70, 71, 72, 73, 74, 75, 76, 77, 78, 79, 80, 81, 82, 83, 84, 36, 85, 86, 87, 88, 89, 90, 91, 92, 93, 94, 95, 6, 7, 9, 96, 97, 98, 99, 100, 101, 102, 103, 104, 105, 106, 107, 108, 109, 110, 111, 112, 113, 114, 115, 116, 117, 118, 119, 120, 121, 122, 123, 124, 125, 126, 127, 128, 129, 130, 148, 149, 150, 151, 152, 140, 141, 142, 143, 144, 145, 146, 147] (by decide +kernel) (by decide +kernel)
set_option maxRecDepth 20000 in
theorem gX11_arrival_X1_collect : GoodIn wsX11_arrival (wsV RX11 157 RX1 yX1_collect wsX1_collect) := goodIn_app (goodIn_of _ (by decide +kernel)) ggX11_arrival_X1_collect
set_option maxRecDepth 20000 in
theorem ggX11_arrival_X9_at : GoodIn wsX11_arrival wsX9_at := goodIn_r _ [53, 10, 54, 55, 56, 149, 150, 151, 152] (by decide +kernel) (by decide +kernel)
set_option maxRecDepth 20000 in
theorem gX11_arrival_X9_at : GoodIn wsX11_arrival (wsV RX11 103 RX9 yX9_at wsX9_at) := goodIn_app (goodIn_of _ (by decide +kernel)) ggX11_arrival_X9_at
theorem dX11_arrival_0 : decode cX11_arrival 0 = .ok (.aload_n 0, 1) := by decide +kernel
theorem dX11_arrival_1 : decode cX11_arrival 1 = .ok (.getfield 10, 3) := by decide +kernel
theorem dX11_arrival_4 : decode cX11_arrival 4 = .ok (.getfield 82, 3) := by decide +kernel
theorem dX11_arrival_7 : decode cX11_arrival 7 = .ok (.iload_n 3, 1) := by decide +kernel
theorem dX11_arrival_8 : decode cX11_arrival 8 = .ok (.invokevirtual 86, 3) := by decide +kernel
theorem dX11_arrival_11 : decode cX11_arrival 11 = .ok (.invokestatic 92, 3) := by decide +kernel
theorem dX11_arrival_14 : decode cX11_arrival 14 = .ok (.iload_n 1, 1) := by decide +kernel
theorem dX11_arrival_15 : decode cX11_arrival 15 = .ok (.iload_n 2, 1) := by decide +kernel
theorem dX11_arrival_16 : decode cX11_arrival 16 = .ok (.invokestatic 153, 3) := by decide +kernel
theorem dX11_arrival_19 : decode cX11_arrival 19 = .ok (.ifCond .eq 22, 3) := by decide +kernel
theorem dX11_arrival_22 : decode cX11_arrival 22 = .ok (.iload 4, 2) := by decide +kernel
theorem dX11_arrival_24 : decode cX11_arrival 24 = .ok (.ifCond .lt 17, 3) := by decide +kernel
theorem dX11_arrival_27 : decode cX11_arrival 27 = .ok (.iload 5, 2) := by decide +kernel
theorem dX11_arrival_29 : decode cX11_arrival 29 = .ok (.iconst 0, 1) := by decide +kernel
theorem dX11_arrival_30 : decode cX11_arrival 30 = .ok (.iconst 3, 1) := by decide +kernel
theorem dX11_arrival_31 : decode cX11_arrival 31 = .ok (.invokestatic 96, 3) := by decide +kernel
theorem dX11_arrival_34 : decode cX11_arrival 34 = .ok (.ifCond .eq 7, 3) := by decide +kernel
theorem dX11_arrival_37 : decode cX11_arrival 37 = .ok (.iconst 1, 1) := by decide +kernel
theorem dX11_arrival_38 : decode cX11_arrival 38 = .ok (.goto 4, 3) := by decide +kernel
theorem dX11_arrival_41 : decode cX11_arrival 41 = .ok (.iconst 0, 1) := by decide +kernel
theorem dX11_arrival_42 : decode cX11_arrival 42 = .ok (.invokestatic 100, 3) := by decide +kernel
theorem dX11_arrival_45 : decode cX11_arrival 45 = .ok (.aload_n 0, 1) := by decide +kernel
theorem dX11_arrival_46 : decode cX11_arrival 46 = .ok (.getfield 19, 3) := by decide +kernel
theorem dX11_arrival_49 : decode cX11_arrival 49 = .ok (.aload_n 0, 1) := by decide +kernel
theorem dX11_arrival_50 : decode cX11_arrival 50 = .ok (.getfield 10, 3) := by decide +kernel
theorem dX11_arrival_53 : decode cX11_arrival 53 = .ok (.iload_n 1, 1) := by decide +kernel
theorem dX11_arrival_54 : decode cX11_arrival 54 = .ok (.iload_n 2, 1) := by decide +kernel
theorem dX11_arrival_55 : decode cX11_arrival 55 = .ok (.iload_n 3, 1) := by decide +kernel
theorem dX11_arrival_56 : decode cX11_arrival 56 = .ok (.invokevirtual 157, 3) := by decide +kernel
theorem dX11_arrival_59 : decode cX11_arrival 59 = .ok (.aload_n 0, 1) := by decide +kernel
theorem dX11_arrival_60 : decode cX11_arrival 60 = .ok (.getfield 19, 3) := by decide +kernel
theorem dX11_arrival_63 : decode cX11_arrival 63 = .ok (.getfield 161, 3) := by decide +kernel
theorem dX11_arrival_66 : decode cX11_arrival 66 = .ok (.iload 4, 2) := by decide +kernel
theorem dX11_arrival_68 : decode cX11_arrival 68 = .ok (.iload 5, 2) := by decide +kernel
theorem dX11_arrival_70 : decode cX11_arrival 70 = .ok (.invokevirtual 103, 3) := by decide +kernel
theorem dX11_arrival_73 : decode cX11_arrival 73 = .ok (.ireturn, 1) := by decide +kernel
set_option maxRecDepth 20000 in
theorem ggX11_delay_X9_has : GoodIn wsX11_delay wsX9_has := goodIn_r _ [8, 9, 57, 58, 59, 60] (by decide +kernel) (by decide +kernel)
set_option maxRecDepth 20000 in
theorem gX11_delay_X9_has : GoodIn wsX11_delay (wsV RX11 86 RX9 yX9_has wsX9_has) := goodIn_app (goodIn_of _ (by decide +kernel)) ggX11_delay_X9_has
set_option maxRecDepth 20000 in
theorem ggX11_delay_X11_requireThere : GoodIn wsX11_delay wsX11_requireThere := goodIn_ca (goodIn_ca (goodIn_ca (goodIn_r _ [13, 14, 15, 12, 16, 17, 18, 19, 20, 21, 22] (by decide +kernel) (by decide +kernel)) (goodIn_sub (fun _ h => List.mem_cons_of_mem _ (List.mem_append_left _ (List.mem_append_left _ (List.mem_append_right _ h)))) (by decide +kernel))) (goodIn_sub (fun _ h => List.mem_cons_of_mem _ (List.mem_append_left _ (List.mem_append_right _ h))) (by decide +kernel))) (goodIn_sub (fun _ h => List.mem_cons_of_mem _ (List.mem_append_right _ h)) (by decide +kernel))
set_option maxRecDepth 20000 in
theorem gX11_delay_X11_requireThere : GoodIn wsX11_delay (va_wsS RX11 92 yX11_requireThere wsX11_requireThere) := goodIn_app (goodIn_of _ (by decide +kernel)) ggX11_delay_X11_requireThere
set_option maxRecDepth 20000 in
theorem ggX11_delay_X11_requireRange : GoodIn wsX11_delay wsX11_requireRange := goodIn_ca (goodIn_ca (goodIn_ca (goodIn_r _ [25, 14, 15, 12, 16, 17, 18, 19, 20, 21, 22] (by decide +kernel) (by decide +kernel)) (goodIn_sub (fun _ h => List.mem_cons_of_mem _ (List.mem_append_left _ (List.mem_append_left _ (List.mem_append_right _ h)))) (by decide +kernel))) (goodIn_sub (fun _ h => List.mem_cons_of_mem _ (List.mem_append_left _ (List.mem_append_right _ h))) (by decide +kernel))) (goodIn_sub (fun _ h => List.mem_cons_of_mem _ (List.mem_append_right _ h)) (by decide +kernel))
set_option maxRecDepth 20000 in
theorem gX11_delay_X11_requireRange : GoodIn wsX11_delay (va_wsS RX11 100 yX11_requireRange wsX11_requireRange) := goodIn_app (goodIn_of _ (by decide +kernel)) ggX11_delay_X11_requireRange
set_option maxRecDepth 20000 in
theorem ggX11_delay_X2_hasNoted : GoodIn wsX11_delay wsX2_hasNoted := goodIn_r _ [30, 31, 32, 33, 34, 35, 7, 36, 9, 37, 38, 39, 49, 50, 51, 52, 53, 54, 55, 56, 57, 58, 59, 60] (by decide +kernel) (by decide +kernel)
set_option maxRecDepth 20000 in
theorem gX11_delay_X2_hasNoted : GoodIn wsX11_delay (wsV RX11 164 RX2 yX2_hasNoted wsX2_hasNoted) := goodIn_app (goodIn_of _ (by decide +kernel)) ggX11_delay_X2_hasNoted
set_option maxRecDepth 20000 in
theorem ggX11_delay_X9_at : GoodIn wsX11_delay wsX9_at := goodIn_r _ [36, 9, 37, 38, 39, 57, 58, 59, 60] (by decide +kernel) (by decide +kernel)
set_option maxRecDepth 20000 in
theorem gX11_delay_X9_at : GoodIn wsX11_delay (wsV RX11 103 RX9 yX9_at wsX9_at) := goodIn_app (goodIn_of _ (by decide +kernel)) ggX11_delay_X9_at
theorem dX11_delay_0 : decode cX11_delay 0 = .ok (.aload_n 0, 1) := by decide +kernel
theorem dX11_delay_1 : decode cX11_delay 1 = .ok (.getfield 10, 3) := by decide +kernel
theorem dX11_delay_4 : decode cX11_delay 4 = .ok (.getfield 82, 3) := by decide +kernel
theorem dX11_delay_7 : decode cX11_delay 7 = .ok (.iload_n 1, 1) := by decide +kernel
theorem dX11_delay_8 : decode cX11_delay 8 = .ok (.invokevirtual 86, 3) := by decide +kernel
theorem dX11_delay_11 : decode cX11_delay 11 = .ok (.ifCond .eq 21, 3) := by decide +kernel
theorem dX11_delay_14 : decode cX11_delay 14 = .ok (.aload_n 0, 1) := by decide +kernel
theorem dX11_delay_15 : decode cX11_delay 15 = .ok (.getfield 10, 3) := by decide +kernel
theorem dX11_delay_18 : decode cX11_delay 18 = .ok (.getfield 82, 3) := by decide +kernel
theorem dX11_delay_21 : decode cX11_delay 21 = .ok (.iload_n 2, 1) := by decide +kernel
theorem dX11_delay_22 : decode cX11_delay 22 = .ok (.invokevirtual 86, 3) := by decide +kernel
theorem dX11_delay_25 : decode cX11_delay 25 = .ok (.ifCond .eq 7, 3) := by decide +kernel
theorem dX11_delay_28 : decode cX11_delay 28 = .ok (.iconst 1, 1) := by decide +kernel
theorem dX11_delay_29 : decode cX11_delay 29 = .ok (.goto 4, 3) := by decide +kernel
theorem dX11_delay_32 : decode cX11_delay 32 = .ok (.iconst 0, 1) := by decide +kernel
theorem dX11_delay_33 : decode cX11_delay 33 = .ok (.invokestatic 92, 3) := by decide +kernel
theorem dX11_delay_36 : decode cX11_delay 36 = .ok (.iload_n 1, 1) := by decide +kernel
theorem dX11_delay_37 : decode cX11_delay 37 = .ok (.iload_n 2, 1) := by decide +kernel
theorem dX11_delay_38 : decode cX11_delay 38 = .ok (.if_icmp .eq 7, 3) := by decide +kernel
theorem dX11_delay_41 : decode cX11_delay 41 = .ok (.iconst 1, 1) := by decide +kernel
theorem dX11_delay_42 : decode cX11_delay 42 = .ok (.goto 4, 3) := by decide +kernel
theorem dX11_delay_45 : decode cX11_delay 45 = .ok (.iconst 0, 1) := by decide +kernel
theorem dX11_delay_46 : decode cX11_delay 46 = .ok (.invokestatic 100, 3) := by decide +kernel
theorem dX11_delay_49 : decode cX11_delay 49 = .ok (.aload_n 0, 1) := by decide +kernel
theorem dX11_delay_50 : decode cX11_delay 50 = .ok (.getfield 10, 3) := by decide +kernel
theorem dX11_delay_53 : decode cX11_delay 53 = .ok (.iload_n 1, 1) := by decide +kernel
theorem dX11_delay_54 : decode cX11_delay 54 = .ok (.invokevirtual 164, 3) := by decide +kernel
theorem dX11_delay_57 : decode cX11_delay 57 = .ok (.ifCond .eq 14, 3) := by decide +kernel
theorem dX11_delay_60 : decode cX11_delay 60 = .ok (.aload_n 0, 1) := by decide +kernel
theorem dX11_delay_61 : decode cX11_delay 61 = .ok (.getfield 10, 3) := by decide +kernel
theorem dX11_delay_64 : decode cX11_delay 64 = .ok (.iload_n 2, 1) := by decide +kernel
theorem dX11_delay_65 : decode cX11_delay 65 = .ok (.invokevirtual 164, 3) := by decide +kernel
theorem dX11_delay_68 : decode cX11_delay 68 = .ok (.ifCond .ne 6, 3) := by decide +kernel
theorem dX11_delay_71 : decode cX11_delay 71 = .ok (.ldc 167, 2) := by decide +kernel
theorem dX11_delay_73 : decode cX11_delay 73 = .ok (.ireturn, 1) := by decide +kernel
theorem dX11_delay_74 : decode cX11_delay 74 = .ok (.aload_n 0, 1) := by decide +kernel
theorem dX11_delay_75 : decode cX11_delay 75 = .ok (.getfield 10, 3) := by decide +kernel
theorem dX11_delay_78 : decode cX11_delay 78 = .ok (.getfield 82, 3) := by decide +kernel
theorem dX11_delay_81 : decode cX11_delay 81 = .ok (.iload_n 1, 1) := by decide +kernel
theorem dX11_delay_82 : decode cX11_delay 82 = .ok (.iconst 4, 1) := by decide +kernel
theorem dX11_delay_83 : decode cX11_delay 83 = .ok (.invokevirtual 103, 3) := by decide +kernel
theorem dX11_delay_86 : decode cX11_delay 86 = .ok (.aload_n 0, 1) := by decide +kernel
theorem dX11_delay_87 : decode cX11_delay 87 = .ok (.getfield 10, 3) := by decide +kernel
theorem dX11_delay_90 : decode cX11_delay 90 = .ok (.getfield 82, 3) := by decide +kernel
theorem dX11_delay_93 : decode cX11_delay 93 = .ok (.iload_n 2, 1) := by decide +kernel
theorem dX11_delay_94 : decode cX11_delay 94 = .ok (.iconst 4, 1) := by decide +kernel
theorem dX11_delay_95 : decode cX11_delay 95 = .ok (.invokevirtual 103, 3) := by decide +kernel
theorem dX11_delay_98 : decode cX11_delay 98 = .ok (.isub, 1) := by decide +kernel
theorem dX11_delay_99 : decode cX11_delay 99 = .ok (.ireturn, 1) := by decide +kernel
set_option maxRecDepth 20000 in
theorem ggX11_expected_X2_hasCell : GoodIn wsX11_expected wsX2_hasCell := goodIn_r _ [7, 8, 9, 10, 6, 11, 12, 13, 78, 79, 80, 81, 82, 83, 84, 85] (by decide +kernel) (by decide +kernel)
set_option maxRecDepth 20000 in
theorem gX11_expected_X2_hasCell : GoodIn wsX11_expected (wsV RX11 168 RX2 yX2_hasCell wsX2_hasCell) := goodIn_app (goodIn_of _ (by decide +kernel)) ggX11_expected_X2_hasCell
set_option maxRecDepth 20000 in
theorem ggX11_expected_X9_has : GoodIn wsX11_expected wsX9_has := goodIn_r _ [18, 19, 86, 87, 88, 89] (by decide +kernel) (by decide +kernel)
set_option maxRecDepth 20000 in
theorem gX11_expected_X9_has : GoodIn wsX11_expected (wsV RX11 86 RX9 yX9_has wsX9_has) := goodIn_app (goodIn_of _ (by decide +kernel)) ggX11_expected_X9_has
set_option maxRecDepth 20000 in
theorem ggX11_expected_X11_requireThere : GoodIn wsX11_expected wsX11_requireThere := goodIn_ca (goodIn_ca (goodIn_ca (goodIn_r _ [23, 24, 25, 22, 26, 27, 28, 29, 30, 31, 32] (by decide +kernel) (by decide +kernel)) (goodIn_sub (fun _ h => List.mem_cons_of_mem _ (List.mem_append_left _ (List.mem_append_left _ (List.mem_append_right _ h)))) (by decide +kernel))) (goodIn_sub (fun _ h => List.mem_cons_of_mem _ (List.mem_append_left _ (List.mem_append_right _ h))) (by decide +kernel))) (goodIn_sub (fun _ h => List.mem_cons_of_mem _ (List.mem_append_right _ h)) (by decide +kernel))
set_option maxRecDepth 20000 in
theorem gX11_expected_X11_requireThere : GoodIn wsX11_expected (va_wsS RX11 92 yX11_requireThere wsX11_requireThere) := goodIn_app (goodIn_of _ (by decide +kernel)) ggX11_expected_X11_requireThere
set_option maxRecDepth 20000 in
theorem ggX11_expected_X11_requireRange : GoodIn wsX11_expected wsX11_requireRange := goodIn_ca (goodIn_ca (goodIn_ca (goodIn_r _ [35, 24, 25, 22, 26, 27, 28, 29, 30, 31, 32] (by decide +kernel) (by decide +kernel)) (goodIn_sub (fun _ h => List.mem_cons_of_mem _ (List.mem_append_left _ (List.mem_append_left _ (List.mem_append_right _ h)))) (by decide +kernel))) (goodIn_sub (fun _ h => List.mem_cons_of_mem _ (List.mem_append_left _ (List.mem_append_right _ h))) (by decide +kernel))) (goodIn_sub (fun _ h => List.mem_cons_of_mem _ (List.mem_append_right _ h)) (by decide +kernel))
set_option maxRecDepth 20000 in
theorem gX11_expected_X11_requireRange : GoodIn wsX11_expected (va_wsS RX11 100 yX11_requireRange wsX11_requireRange) := goodIn_app (goodIn_of _ (by decide +kernel)) ggX11_expected_X11_requireRange
set_option maxRecDepth 20000 in
theorem ggX11_expected_X2_timeFromCell : GoodIn wsX11_expected wsX2_timeFromCell := goodIn_r _ [39, 40, 41, 42, 6, 43, 12, 44, 45, 46, 47, 48, 49, 50, 51, 52, 53, 54, 55, 17, 56, 19, 57, 58, 59, 60, 61, 62, 63, 64, 65, 66, 67, 68, 69, 78, 79, 80, 81, 82, 83, 84, 85, 86, 87, 88, 89] (by decide +kernel) (by decide +kernel)
set_option maxRecDepth 20000 in
theorem gX11_expected_X2_timeFromCell : GoodIn wsX11_expected (wsV RX11 171 RX2 yX2_timeFromCell wsX2_timeFromCell) := goodIn_app (goodIn_of _ (by decide +kernel)) ggX11_expected_X2_timeFromCell
theorem dX11_expected_0 : decode cX11_expected 0 = .ok (.aload_n 0, 1) := by decide +kernel
theorem dX11_expected_1 : decode cX11_expected 1 = .ok (.getfield 10, 3) := by decide +kernel
theorem dX11_expected_4 : decode cX11_expected 4 = .ok (.iload_n 1, 1) := by decide +kernel
theorem dX11_expected_5 : decode cX11_expected 5 = .ok (.invokevirtual 168, 3) := by decide +kernel
theorem dX11_expected_8 : decode cX11_expected 8 = .ok (.ifCond .eq 35, 3) := by decide +kernel
theorem dX11_expected_11 : decode cX11_expected 11 = .ok (.aload_n 0, 1) := by decide +kernel
theorem dX11_expected_12 : decode cX11_expected 12 = .ok (.getfield 10, 3) := by decide +kernel
theorem dX11_expected_15 : decode cX11_expected 15 = .ok (.getfield 82, 3) := by decide +kernel
theorem dX11_expected_18 : decode cX11_expected 18 = .ok (.iload_n 2, 1) := by decide +kernel
theorem dX11_expected_19 : decode cX11_expected 19 = .ok (.invokevirtual 86, 3) := by decide +kernel
theorem dX11_expected_22 : decode cX11_expected 22 = .ok (.ifCond .eq 21, 3) := by decide +kernel
theorem dX11_expected_25 : decode cX11_expected 25 = .ok (.aload_n 0, 1) := by decide +kernel
theorem dX11_expected_26 : decode cX11_expected 26 = .ok (.getfield 10, 3) := by decide +kernel
theorem dX11_expected_29 : decode cX11_expected 29 = .ok (.getfield 82, 3) := by decide +kernel
theorem dX11_expected_32 : decode cX11_expected 32 = .ok (.iload_n 3, 1) := by decide +kernel
theorem dX11_expected_33 : decode cX11_expected 33 = .ok (.invokevirtual 86, 3) := by decide +kernel
theorem dX11_expected_36 : decode cX11_expected 36 = .ok (.ifCond .eq 7, 3) := by decide +kernel
theorem dX11_expected_39 : decode cX11_expected 39 = .ok (.iconst 1, 1) := by decide +kernel
theorem dX11_expected_40 : decode cX11_expected 40 = .ok (.goto 4, 3) := by decide +kernel
theorem dX11_expected_43 : decode cX11_expected 43 = .ok (.iconst 0, 1) := by decide +kernel
theorem dX11_expected_44 : decode cX11_expected 44 = .ok (.invokestatic 92, 3) := by decide +kernel
theorem dX11_expected_47 : decode cX11_expected 47 = .ok (.iload_n 2, 1) := by decide +kernel
theorem dX11_expected_48 : decode cX11_expected 48 = .ok (.iload_n 3, 1) := by decide +kernel
theorem dX11_expected_49 : decode cX11_expected 49 = .ok (.if_icmp .eq 7, 3) := by decide +kernel
theorem dX11_expected_52 : decode cX11_expected 52 = .ok (.iconst 1, 1) := by decide +kernel
theorem dX11_expected_53 : decode cX11_expected 53 = .ok (.goto 4, 3) := by decide +kernel
theorem dX11_expected_56 : decode cX11_expected 56 = .ok (.iconst 0, 1) := by decide +kernel
theorem dX11_expected_57 : decode cX11_expected 57 = .ok (.invokestatic 100, 3) := by decide +kernel
theorem dX11_expected_60 : decode cX11_expected 60 = .ok (.aload_n 0, 1) := by decide +kernel
theorem dX11_expected_61 : decode cX11_expected 61 = .ok (.getfield 10, 3) := by decide +kernel
theorem dX11_expected_64 : decode cX11_expected 64 = .ok (.iload_n 1, 1) := by decide +kernel
theorem dX11_expected_65 : decode cX11_expected 65 = .ok (.iload_n 2, 1) := by decide +kernel
theorem dX11_expected_66 : decode cX11_expected 66 = .ok (.invokevirtual 171, 3) := by decide +kernel
theorem dX11_expected_69 : decode cX11_expected 69 = .ok (.aload_n 0, 1) := by decide +kernel
theorem dX11_expected_70 : decode cX11_expected 70 = .ok (.getfield 10, 3) := by decide +kernel
theorem dX11_expected_73 : decode cX11_expected 73 = .ok (.iload_n 1, 1) := by decide +kernel
theorem dX11_expected_74 : decode cX11_expected 74 = .ok (.iload_n 3, 1) := by decide +kernel
theorem dX11_expected_75 : decode cX11_expected 75 = .ok (.invokevirtual 171, 3) := by decide +kernel
theorem dX11_expected_78 : decode cX11_expected 78 = .ok (.isub, 1) := by decide +kernel
theorem dX11_expected_79 : decode cX11_expected 79 = .ok (.ireturn, 1) := by decide +kernel
set_option maxRecDepth 20000 in
theorem ggX11_votes_X2_hasCell : GoodIn wsX11_votes wsX2_hasCell := goodIn_r _ [7, 8, 9, 10, 6, 11, 12, 13, 136, 137, 138, 139, 140, 141, 142, 143] (by decide +kernel) (by decide +kernel)
set_option maxRecDepth 20000 in
theorem gX11_votes_X2_hasCell : GoodIn wsX11_votes (wsV RX11 168 RX2 yX2_hasCell wsX2_hasCell) := goodIn_app (goodIn_of _ (by decide +kernel)) ggX11_votes_X2_hasCell
set_option maxRecDepth 20000 in
theorem ggX11_votes_X11_requireThere : GoodIn wsX11_votes wsX11_requireThere := goodIn_ca (goodIn_ca (goodIn_ca (goodIn_r _ [17, 18, 19, 16, 20, 21, 22, 23, 24, 25, 26] (by decide +kernel) (by decide +kernel)) (goodIn_sub (fun _ h => List.mem_cons_of_mem _ (List.mem_append_left _ (List.mem_append_left _ (List.mem_append_right _ h)))) (by decide +kernel))) (goodIn_sub (fun _ h => List.mem_cons_of_mem _ (List.mem_append_left _ (List.mem_append_right _ h))) (by decide +kernel))) (goodIn_sub (fun _ h => List.mem_cons_of_mem _ (List.mem_append_right _ h)) (by decide +kernel))
set_option maxRecDepth 20000 in
theorem gX11_votes_X11_requireThere : GoodIn wsX11_votes (va_wsS RX11 92 yX11_requireThere wsX11_requireThere) := goodIn_app (goodIn_of _ (by decide +kernel)) ggX11_votes_X11_requireThere
set_option maxRecDepth 20000 in
theorem ggX11_votes_X8_take : GoodIn wsX11_votes wsX8_take := goodIn_r _ [31, 32, 33, 34, 35, 36, 37, 38, 39, 40, 30, 41, 42, 43, 44, 45, 46, 47, 48, 6, 49, 50, 51, 52, 53, 54, 55, 56, 57, 58, 59, 60, 61, 9, 10, 11, 12, 13, 62, 63, 64, 65, 66, 67, 68, 69, 70, 71, 72, 73, 74, 75, 76, 77, 78, 79, 80, 81, 82, 83, 84, 85, 86, 87, 88, 89, 90, 91, 92, 93, 94, 95, 96, 97, 98, 99, 100, 101, 102, 103, 104, 105, 106, 107, 108, 109, 110, 111, 112, 113, 114, 115, 116, 117, 118, 119, 120, 121, 144, 145, 146, 147, 148, 149, 150, 151, 152, 136, 137, 138, 139, 140, 141, 142, 143, 153, 154, 155, 156] (by decide +kernel) (by decide +kernel)
set_option maxRecDepth 20000 in
theorem gX11_votes_X8_take : GoodIn wsX11_votes (wsV RX11 174 RX8 yX8_take wsX8_take) := goodIn_app (goodIn_of _ (by decide +kernel)) ggX11_votes_X8_take
set_option maxRecDepth 20000 in
theorem ggX11_votes_X8_votesOf : GoodIn wsX11_votes wsX8_votesOf := goodIn_r _ [125, 66, 126, 16, 127, 144, 145, 146, 147, 148, 149, 150, 151, 152] (by decide +kernel) (by decide +kernel)
set_option maxRecDepth 20000 in
theorem gX11_votes_X8_votesOf : GoodIn wsX11_votes (wsV RX11 178 RX8 yX8_votesOf wsX8_votesOf) := goodIn_app (goodIn_of _ (by decide +kernel)) ggX11_votes_X8_votesOf
theorem dX11_votes_0 : decode cX11_votes 0 = .ok (.aload_n 0, 1) := by decide +kernel
theorem dX11_votes_1 : decode cX11_votes 1 = .ok (.getfield 10, 3) := by decide +kernel
theorem dX11_votes_4 : decode cX11_votes 4 = .ok (.iload_n 1, 1) := by decide +kernel
theorem dX11_votes_5 : decode cX11_votes 5 = .ok (.invokevirtual 168, 3) := by decide +kernel
theorem dX11_votes_8 : decode cX11_votes 8 = .ok (.invokestatic 92, 3) := by decide +kernel
theorem dX11_votes_11 : decode cX11_votes 11 = .ok (.aload_n 0, 1) := by decide +kernel
theorem dX11_votes_12 : decode cX11_votes 12 = .ok (.getfield 33, 3) := by decide +kernel
theorem dX11_votes_15 : decode cX11_votes 15 = .ok (.aload_n 0, 1) := by decide +kernel
theorem dX11_votes_16 : decode cX11_votes 16 = .ok (.getfield 10, 3) := by decide +kernel
theorem dX11_votes_19 : decode cX11_votes 19 = .ok (.iconst (-1), 1) := by decide +kernel
theorem dX11_votes_20 : decode cX11_votes 20 = .ok (.invokevirtual 174, 3) := by decide +kernel
theorem dX11_votes_23 : decode cX11_votes 23 = .ok (.aload_n 0, 1) := by decide +kernel
theorem dX11_votes_24 : decode cX11_votes 24 = .ok (.getfield 33, 3) := by decide +kernel
theorem dX11_votes_27 : decode cX11_votes 27 = .ok (.iload_n 1, 1) := by decide +kernel
theorem dX11_votes_28 : decode cX11_votes 28 = .ok (.invokevirtual 178, 3) := by decide +kernel
theorem dX11_votes_31 : decode cX11_votes 31 = .ok (.ireturn, 1) := by decide +kernel
set_option maxRecDepth 20000 in
theorem ggX11_error_X2_hasCell : GoodIn wsX11_error wsX2_hasCell := goodIn_r _ [7, 8, 9, 10, 6, 11, 12, 13, 136, 137, 138, 139, 140, 141, 142, 143] (by decide +kernel) (by decide +kernel)
set_option maxRecDepth 20000 in
theorem gX11_error_X2_hasCell : GoodIn wsX11_error (wsV RX11 168 RX2 yX2_hasCell wsX2_hasCell) := goodIn_app (goodIn_of _ (by decide +kernel)) ggX11_error_X2_hasCell
set_option maxRecDepth 20000 in
theorem ggX11_error_X11_requireThere : GoodIn wsX11_error wsX11_requireThere := goodIn_ca (goodIn_ca (goodIn_ca (goodIn_r _ [17, 18, 19, 16, 20, 21, 22, 23, 24, 25, 26] (by decide +kernel) (by decide +kernel)) (goodIn_sub (fun _ h => List.mem_cons_of_mem _ (List.mem_append_left _ (List.mem_append_left _ (List.mem_append_right _ h)))) (by decide +kernel))) (goodIn_sub (fun _ h => List.mem_cons_of_mem _ (List.mem_append_left _ (List.mem_append_right _ h))) (by decide +kernel))) (goodIn_sub (fun _ h => List.mem_cons_of_mem _ (List.mem_append_right _ h)) (by decide +kernel))
set_option maxRecDepth 20000 in
theorem gX11_error_X11_requireThere : GoodIn wsX11_error (va_wsS RX11 92 yX11_requireThere wsX11_requireThere) := goodIn_app (goodIn_of _ (by decide +kernel)) ggX11_error_X11_requireThere
set_option maxRecDepth 20000 in
theorem ggX11_error_X8_take : GoodIn wsX11_error wsX8_take := goodIn_r _ [31, 32, 33, 34, 35, 36, 37, 38, 39, 40, 30, 41, 42, 43, 44, 45, 46, 47, 48, 6, 49, 50, 51, 52, 53, 54, 55, 56, 57, 58, 59, 60, 61, 9, 10, 11, 12, 13, 62, 63, 64, 65, 66, 67, 68, 69, 70, 71, 72, 73, 74, 75, 76, 77, 78, 79, 80, 81, 82, 83, 84, 85, 86, 87, 88, 89, 90, 91, 92, 93, 94, 95, 96, 97, 98, 99, 100, 101, 102, 103, 104, 105, 106, 107, 108, 109, 110, 111, 112, 113, 114, 115, 116, 117, 118, 119, 120, 121, 144, 145, 146, 147, 148, 149, 150, 151, 152, 136, 137, 138, 139, 140, 141, 142, 143, 153, 154, 155, 156] (by decide +kernel) (by decide +kernel)
set_option maxRecDepth 20000 in
theorem gX11_error_X8_take : GoodIn wsX11_error (wsV RX11 174 RX8 yX8_take wsX8_take) := goodIn_app (goodIn_of _ (by decide +kernel)) ggX11_error_X8_take
set_option maxRecDepth 20000 in
theorem ggX11_error_X8_errorOf : GoodIn wsX11_error wsX8_errorOf := goodIn_r _ [125, 67, 126, 16, 127, 144, 145, 146, 147, 148, 149, 150, 151, 152] (by decide +kernel) (by decide +kernel)
set_option maxRecDepth 20000 in
theorem gX11_error_X8_errorOf : GoodIn wsX11_error (wsV RX11 182 RX8 yX8_errorOf wsX8_errorOf) := goodIn_app (goodIn_of _ (by decide +kernel)) ggX11_error_X8_errorOf
theorem dX11_error_0 : decode cX11_error 0 = .ok (.aload_n 0, 1) := by decide +kernel
theorem dX11_error_1 : decode cX11_error 1 = .ok (.getfield 10, 3) := by decide +kernel
theorem dX11_error_4 : decode cX11_error 4 = .ok (.iload_n 1, 1) := by decide +kernel
theorem dX11_error_5 : decode cX11_error 5 = .ok (.invokevirtual 168, 3) := by decide +kernel
theorem dX11_error_8 : decode cX11_error 8 = .ok (.invokestatic 92, 3) := by decide +kernel
theorem dX11_error_11 : decode cX11_error 11 = .ok (.aload_n 0, 1) := by decide +kernel
theorem dX11_error_12 : decode cX11_error 12 = .ok (.getfield 33, 3) := by decide +kernel
theorem dX11_error_15 : decode cX11_error 15 = .ok (.aload_n 0, 1) := by decide +kernel
theorem dX11_error_16 : decode cX11_error 16 = .ok (.getfield 10, 3) := by decide +kernel
theorem dX11_error_19 : decode cX11_error 19 = .ok (.iconst (-1), 1) := by decide +kernel
theorem dX11_error_20 : decode cX11_error 20 = .ok (.invokevirtual 174, 3) := by decide +kernel
theorem dX11_error_23 : decode cX11_error 23 = .ok (.aload_n 0, 1) := by decide +kernel
theorem dX11_error_24 : decode cX11_error 24 = .ok (.getfield 33, 3) := by decide +kernel
theorem dX11_error_27 : decode cX11_error 27 = .ok (.iload_n 1, 1) := by decide +kernel
theorem dX11_error_28 : decode cX11_error 28 = .ok (.invokevirtual 182, 3) := by decide +kernel
theorem dX11_error_31 : decode cX11_error 31 = .ok (.ireturn, 1) := by decide +kernel
set_option maxRecDepth 20000 in
theorem ggX11_found_X8_take : GoodIn wsX11_found wsX8_take := goodIn_r _ [8, 9, 10, 11, 12, 13, 14, 15, 16, 17, 7, 18, 19, 20, 21, 22, 23, 24, 25, 26, 27, 28, 29, 30, 31, 32, 33, 34, 35, 36, 37, 38, 39, 40, 41, 42, 43, 44, 45, 46, 47, 48, 49, 50, 51, 52, 53, 54, 55, 56, 57, 58, 59, 60, 61, 62, 63, 64, 65, 66, 67, 68, 69, 70, 71, 72, 73, 74, 75, 76, 77, 78, 79, 80, 81, 82, 83, 84, 85, 86, 87, 88, 89, 90, 91, 92, 93, 94, 95, 96, 97, 98, 99, 100, 101, 102, 103, 104, 113, 114, 115, 116, 117, 118, 119, 120, 121, 122, 123, 124, 125, 126, 127, 128, 129, 130, 131, 132, 133] (by decide +kernel) (by decide +kernel)
set_option maxRecDepth 20000 in
theorem gX11_found_X8_take : GoodIn wsX11_found (wsV RX11 174 RX8 yX8_take wsX8_take) := goodIn_app (goodIn_of _ (by decide +kernel)) ggX11_found_X8_take
theorem dX11_found_0 : decode cX11_found 0 = .ok (.aload_n 0, 1) := by decide +kernel
theorem dX11_found_1 : decode cX11_found 1 = .ok (.getfield 33, 3) := by decide +kernel
theorem dX11_found_4 : decode cX11_found 4 = .ok (.aload_n 0, 1) := by decide +kernel
theorem dX11_found_5 : decode cX11_found 5 = .ok (.getfield 10, 3) := by decide +kernel
theorem dX11_found_8 : decode cX11_found 8 = .ok (.iconst (-1), 1) := by decide +kernel
theorem dX11_found_9 : decode cX11_found 9 = .ok (.invokevirtual 174, 3) := by decide +kernel
theorem dX11_found_12 : decode cX11_found 12 = .ok (.aload_n 0, 1) := by decide +kernel
theorem dX11_found_13 : decode cX11_found 13 = .ok (.getfield 33, 3) := by decide +kernel
theorem dX11_found_16 : decode cX11_found 16 = .ok (.getfield 185, 3) := by decide +kernel
theorem dX11_found_19 : decode cX11_found 19 = .ok (.ireturn, 1) := by decide +kernel
set_option maxRecDepth 20000 in
theorem ggX11_middle_X8_take : GoodIn wsX11_middle wsX8_take := goodIn_r _ [9, 10, 11, 12, 13, 14, 15, 16, 17, 18, 8, 19, 20, 21, 22, 23, 24, 25, 26, 27, 28, 29, 30, 31, 32, 33, 34, 35, 36, 37, 38, 39, 40, 41, 42, 43, 44, 45, 46, 47, 48, 49, 50, 51, 52, 53, 54, 55, 56, 57, 58, 59, 60, 61, 62, 63, 64, 65, 66, 67, 68, 69, 70, 71, 72, 73, 74, 75, 76, 77, 78, 79, 80, 81, 82, 83, 84, 85, 86, 87, 88, 89, 90, 91, 92, 93, 94, 95, 96, 97, 98, 99, 100, 101, 102, 103, 104, 105, 127, 128, 129, 130, 131, 132, 133, 134, 135, 136, 137, 138, 139, 140, 141, 142, 143, 144, 145, 146, 147] (by decide +kernel) (by decide +kernel)
set_option maxRecDepth 20000 in
theorem gX11_middle_X8_take : GoodIn wsX11_middle (wsV RX11 174 RX8 yX8_take wsX8_take) := goodIn_app (goodIn_of _ (by decide +kernel)) ggX11_middle_X8_take
set_option maxRecDepth 20000 in
theorem ggX11_middle_X8_sumOfTied : GoodIn wsX11_middle wsX8_sumOfTied := goodIn_r _ [109, 100, 40, 41, 42, 27, 43, 44, 45, 110, 111, 112, 8, 113, 50, 114, 115, 116, 117, 67, 68, 69, 118, 63, 64, 65, 127, 128, 129, 130, 131, 132, 133, 134, 135, 136, 137, 138, 139, 140, 141, 142, 143] (by decide +kernel) (by decide +kernel)
set_option maxRecDepth 20000 in
theorem gX11_middle_X8_sumOfTied : GoodIn wsX11_middle (wsV RX11 193 RX8 yX8_sumOfTied wsX8_sumOfTied) := goodIn_app (goodIn_of _ (by decide +kernel)) ggX11_middle_X8_sumOfTied
theorem dX11_middle_0 : decode cX11_middle 0 = .ok (.aload_n 0, 1) := by decide +kernel
theorem dX11_middle_1 : decode cX11_middle 1 = .ok (.getfield 33, 3) := by decide +kernel
theorem dX11_middle_4 : decode cX11_middle 4 = .ok (.aload_n 0, 1) := by decide +kernel
theorem dX11_middle_5 : decode cX11_middle 5 = .ok (.getfield 10, 3) := by decide +kernel
theorem dX11_middle_8 : decode cX11_middle 8 = .ok (.iconst (-1), 1) := by decide +kernel
theorem dX11_middle_9 : decode cX11_middle 9 = .ok (.invokevirtual 174, 3) := by decide +kernel
theorem dX11_middle_12 : decode cX11_middle 12 = .ok (.aload_n 0, 1) := by decide +kernel
theorem dX11_middle_13 : decode cX11_middle 13 = .ok (.getfield 33, 3) := by decide +kernel
theorem dX11_middle_16 : decode cX11_middle 16 = .ok (.getfield 188, 3) := by decide +kernel
theorem dX11_middle_19 : decode cX11_middle 19 = .ok (.istore_n 2, 1) := by decide +kernel
theorem dX11_middle_20 : decode cX11_middle 20 = .ok (.iload_n 2, 1) := by decide +kernel
theorem dX11_middle_21 : decode cX11_middle 21 = .ok (.ifCond .ne 7, 3) := by decide +kernel
theorem dX11_middle_24 : decode cX11_middle 24 = .ok (.ldc2_w 191, 3) := by decide +kernel
theorem dX11_middle_27 : decode cX11_middle 27 = .ok (.dreturn, 1) := by decide +kernel
theorem dX11_middle_28 : decode cX11_middle 28 = .ok (.aload_n 0, 1) := by decide +kernel
theorem dX11_middle_29 : decode cX11_middle 29 = .ok (.getfield 33, 3) := by decide +kernel
theorem dX11_middle_32 : decode cX11_middle 32 = .ok (.aload_n 0, 1) := by decide +kernel
theorem dX11_middle_33 : decode cX11_middle 33 = .ok (.getfield 10, 3) := by decide +kernel
theorem dX11_middle_36 : decode cX11_middle 36 = .ok (.iload_n 1, 1) := by decide +kernel
theorem dX11_middle_37 : decode cX11_middle 37 = .ok (.invokevirtual 193, 3) := by decide +kernel
theorem dX11_middle_40 : decode cX11_middle 40 = .ok (.istore_n 3, 1) := by decide +kernel
theorem dX11_middle_41 : decode cX11_middle 41 = .ok (.iload_n 3, 1) := by decide +kernel
theorem dX11_middle_42 : decode cX11_middle 42 = .ok (.i2d, 1) := by decide +kernel
theorem dX11_middle_43 : decode cX11_middle 43 = .ok (.iload_n 2, 1) := by decide +kernel
theorem dX11_middle_44 : decode cX11_middle 44 = .ok (.i2d, 1) := by decide +kernel
theorem dX11_middle_45 : decode cX11_middle 45 = .ok (.ddiv, 1) := by decide +kernel
theorem dX11_middle_46 : decode cX11_middle 46 = .ok (.dreturn, 1) := by decide +kernel
set_option maxRecDepth 20000 in
theorem ggX11_blame_X9_has : GoodIn wsX11_blame wsX9_has := goodIn_r _ [8, 9, 142, 143, 144, 145] (by decide +kernel) (by decide +kernel)
set_option maxRecDepth 20000 in
theorem gX11_blame_X9_has : GoodIn wsX11_blame (wsV RX11 86 RX9 yX9_has wsX9_has) := goodIn_app (goodIn_of _ (by decide +kernel)) ggX11_blame_X9_has
set_option maxRecDepth 20000 in
theorem ggX11_blame_X11_requireThere : GoodIn wsX11_blame wsX11_requireThere := goodIn_ca (goodIn_ca (goodIn_ca (goodIn_r _ [13, 14, 15, 12, 16, 17, 18, 19, 20, 21, 22] (by decide +kernel) (by decide +kernel)) (goodIn_sub (fun _ h => List.mem_cons_of_mem _ (List.mem_append_left _ (List.mem_append_left _ (List.mem_append_right _ h)))) (by decide +kernel))) (goodIn_sub (fun _ h => List.mem_cons_of_mem _ (List.mem_append_left _ (List.mem_append_right _ h))) (by decide +kernel))) (goodIn_sub (fun _ h => List.mem_cons_of_mem _ (List.mem_append_right _ h)) (by decide +kernel))
set_option maxRecDepth 20000 in
theorem gX11_blame_X11_requireThere : GoodIn wsX11_blame (va_wsS RX11 92 yX11_requireThere wsX11_requireThere) := goodIn_app (goodIn_of _ (by decide +kernel)) ggX11_blame_X11_requireThere
set_option maxRecDepth 20000 in
theorem ggX11_blame_X8_take : GoodIn wsX11_blame wsX8_take := goodIn_r _ [27, 28, 29, 30, 31, 32, 33, 34, 35, 36, 26, 37, 38, 39, 40, 41, 42, 43, 44, 45, 46, 47, 48, 49, 50, 51, 7, 52, 9, 53, 54, 55, 56, 57, 58, 59, 60, 61, 62, 63, 64, 65, 66, 67, 68, 69, 70, 71, 72, 73, 74, 75, 76, 77, 78, 79, 80, 81, 82, 83, 84, 85, 86, 87, 88, 89, 90, 91, 92, 93, 94, 95, 96, 97, 98, 99, 100, 101, 102, 103, 104, 105, 106, 107, 108, 109, 110, 111, 112, 113, 114, 115, 116, 117, 118, 119, 120, 121, 146, 147, 148, 149, 150, 151, 152, 153, 154, 134, 135, 136, 137, 138, 139, 140, 141, 142, 143, 144, 145] (by decide +kernel) (by decide +kernel)
set_option maxRecDepth 20000 in
theorem gX11_blame_X8_take : GoodIn wsX11_blame (wsV RX11 174 RX8 yX8_take wsX8_take) := goodIn_app (goodIn_of _ (by decide +kernel)) ggX11_blame_X8_take
set_option maxRecDepth 20000 in
theorem ggX11_blame_X8_blameOf : GoodIn wsX11_blame wsX8_blameOf := goodIn_r _ [125, 116, 115, 38, 41, 68, 69, 70, 26, 71, 72, 39, 73, 50, 51, 7, 52, 9, 53, 54, 55, 74, 75, 76, 45, 77, 78, 79, 80, 81, 60, 82, 83, 84, 85, 86, 87, 88, 89, 47, 49, 90, 91, 92, 93, 94, 95, 96, 97, 98, 99, 100, 101, 102, 103, 104, 105, 106, 107, 108, 109, 32, 110, 146, 147, 148, 149, 150, 151, 152, 153, 154, 134, 135, 136, 137, 138, 139, 140, 141, 142, 143, 144, 145] (by decide +kernel) (by decide +kernel)
set_option maxRecDepth 20000 in
theorem gX11_blame_X8_blameOf : GoodIn wsX11_blame (wsV RX11 197 RX8 yX8_blameOf wsX8_blameOf) := goodIn_app (goodIn_of _ (by decide +kernel)) ggX11_blame_X8_blameOf
theorem dX11_blame_0 : decode cX11_blame 0 = .ok (.aload_n 0, 1) := by decide +kernel
theorem dX11_blame_1 : decode cX11_blame 1 = .ok (.getfield 10, 3) := by decide +kernel
theorem dX11_blame_4 : decode cX11_blame 4 = .ok (.getfield 82, 3) := by decide +kernel
theorem dX11_blame_7 : decode cX11_blame 7 = .ok (.iload_n 1, 1) := by decide +kernel
theorem dX11_blame_8 : decode cX11_blame 8 = .ok (.invokevirtual 86, 3) := by decide +kernel
theorem dX11_blame_11 : decode cX11_blame 11 = .ok (.invokestatic 92, 3) := by decide +kernel
theorem dX11_blame_14 : decode cX11_blame 14 = .ok (.aload_n 0, 1) := by decide +kernel
theorem dX11_blame_15 : decode cX11_blame 15 = .ok (.getfield 33, 3) := by decide +kernel
theorem dX11_blame_18 : decode cX11_blame 18 = .ok (.aload_n 0, 1) := by decide +kernel
theorem dX11_blame_19 : decode cX11_blame 19 = .ok (.getfield 10, 3) := by decide +kernel
theorem dX11_blame_22 : decode cX11_blame 22 = .ok (.iconst (-1), 1) := by decide +kernel
theorem dX11_blame_23 : decode cX11_blame 23 = .ok (.invokevirtual 174, 3) := by decide +kernel
theorem dX11_blame_26 : decode cX11_blame 26 = .ok (.aload_n 0, 1) := by decide +kernel
theorem dX11_blame_27 : decode cX11_blame 27 = .ok (.getfield 33, 3) := by decide +kernel
theorem dX11_blame_30 : decode cX11_blame 30 = .ok (.aload_n 0, 1) := by decide +kernel
theorem dX11_blame_31 : decode cX11_blame 31 = .ok (.getfield 10, 3) := by decide +kernel
theorem dX11_blame_34 : decode cX11_blame 34 = .ok (.iload_n 1, 1) := by decide +kernel
theorem dX11_blame_35 : decode cX11_blame 35 = .ok (.invokevirtual 197, 3) := by decide +kernel
theorem dX11_blame_38 : decode cX11_blame 38 = .ok (.ireturn, 1) := by decide +kernel
set_option maxRecDepth 20000 in
theorem ggX11_suspect_X8_take : GoodIn wsX11_suspect wsX8_take := goodIn_r _ [7, 8, 9, 10, 11, 12, 13, 14, 15, 16, 6, 17, 18, 19, 20, 21, 22, 23, 24, 25, 26, 27, 28, 29, 30, 31, 32, 33, 34, 35, 36, 37, 38, 39, 40, 41, 42, 43, 44, 45, 46, 47, 48, 49, 50, 51, 52, 53, 54, 55, 56, 57, 58, 59, 60, 61, 62, 63, 64, 65, 66, 67, 68, 69, 70, 71, 72, 73, 74, 75, 76, 77, 78, 79, 80, 81, 82, 83, 84, 85, 86, 87, 88, 89, 90, 91, 92, 93, 94, 95, 96, 97, 98, 99, 100, 101, 102, 103, 120, 121, 122, 123, 124, 125, 126, 127, 128, 129, 130, 131, 132, 133, 134, 135, 136, 137, 138, 139, 140] (by decide +kernel) (by decide +kernel)
set_option maxRecDepth 20000 in
theorem gX11_suspect_X8_take : GoodIn wsX11_suspect (wsV RX11 174 RX8 yX8_take wsX8_take) := goodIn_app (goodIn_of _ (by decide +kernel)) ggX11_suspect_X8_take
set_option maxRecDepth 20000 in
theorem ggX11_suspect_X8_mostBlamed : GoodIn wsX11_suspect wsX8_mostBlamed := goodIn_r _ [107, 97, 19, 20, 108, 109, 110, 6, 111, 98, 18, 21, 50, 51, 52, 53, 54, 55, 30, 31, 32, 33, 34, 35, 36, 37, 56, 57, 58, 25, 59, 60, 61, 62, 63, 42, 64, 65, 66, 67, 68, 69, 70, 71, 27, 29, 72, 73, 74, 75, 76, 77, 78, 79, 80, 81, 82, 83, 84, 85, 86, 87, 88, 89, 90, 91, 12, 92, 129, 130, 131, 132, 133, 134, 135, 136, 137, 138, 139, 140, 120, 121, 122, 123, 124, 125, 126, 127, 128] (by decide +kernel) (by decide +kernel)
set_option maxRecDepth 20000 in
theorem gX11_suspect_X8_mostBlamed : GoodIn wsX11_suspect (wsV RX11 201 RX8 yX8_mostBlamed wsX8_mostBlamed) := goodIn_app (goodIn_of _ (by decide +kernel)) ggX11_suspect_X8_mostBlamed
theorem dX11_suspect_0 : decode cX11_suspect 0 = .ok (.aload_n 0, 1) := by decide +kernel
theorem dX11_suspect_1 : decode cX11_suspect 1 = .ok (.getfield 33, 3) := by decide +kernel
theorem dX11_suspect_4 : decode cX11_suspect 4 = .ok (.aload_n 0, 1) := by decide +kernel
theorem dX11_suspect_5 : decode cX11_suspect 5 = .ok (.getfield 10, 3) := by decide +kernel
theorem dX11_suspect_8 : decode cX11_suspect 8 = .ok (.iconst (-1), 1) := by decide +kernel
theorem dX11_suspect_9 : decode cX11_suspect 9 = .ok (.invokevirtual 174, 3) := by decide +kernel
theorem dX11_suspect_12 : decode cX11_suspect 12 = .ok (.aload_n 0, 1) := by decide +kernel
theorem dX11_suspect_13 : decode cX11_suspect 13 = .ok (.getfield 33, 3) := by decide +kernel
theorem dX11_suspect_16 : decode cX11_suspect 16 = .ok (.aload_n 0, 1) := by decide +kernel
theorem dX11_suspect_17 : decode cX11_suspect 17 = .ok (.getfield 10, 3) := by decide +kernel
theorem dX11_suspect_20 : decode cX11_suspect 20 = .ok (.invokevirtual 201, 3) := by decide +kernel
theorem dX11_suspect_23 : decode cX11_suspect 23 = .ok (.ireturn, 1) := by decide +kernel
set_option maxRecDepth 20000 in
theorem ggX11_foundWithout_X9_has : GoodIn wsX11_foundWithout wsX9_has := goodIn_r _ [9, 10, 148, 149, 150, 151] (by decide +kernel) (by decide +kernel)
set_option maxRecDepth 20000 in
theorem gX11_foundWithout_X9_has : GoodIn wsX11_foundWithout (wsV RX11 86 RX9 yX9_has wsX9_has) := goodIn_app (goodIn_of _ (by decide +kernel)) ggX11_foundWithout_X9_has
