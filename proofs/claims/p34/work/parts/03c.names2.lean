theorem dX10_push_32 : decode cX10_push 32 = .ok (.aload_n 0, 1) := by decide +kernel
theorem dX10_push_33 : decode cX10_push 33 = .ok (.getfield 21, 3) := by decide +kernel
theorem dX10_push_36 : decode cX10_push 36 = .ok (.iconst 1, 1) := by decide +kernel
theorem dX10_push_37 : decode cX10_push 37 = .ok (.iadd, 1) := by decide +kernel
theorem dX10_push_38 : decode cX10_push 38 = .ok (.iconst 4, 1) := by decide +kernel
theorem dX10_push_39 : decode cX10_push 39 = .ok (.invokestatic 29, 3) := by decide +kernel
theorem dX10_push_42 : decode cX10_push 42 = .ok (.putfield 21, 3) := by decide +kernel
theorem dX10_push_45 : decode cX10_push 45 = .ok (.return_, 1) := by decide +kernel
set_option maxRecDepth 20000 in
theorem ggX11_init_X2_init : GoodIn wsX11_init wsX2_init := goodIn_r _ [35, 36, 2, 3, 37, 38, 39, 40, 41, 42, 43, 44, 45, 46, 47, 48, 49, 50, 51, 52, 53, 54, 55, 56, 57, 58, 59, 60, 61, 62, 63, 64, 65, 66, 67, 68, 69, 70, 71, 72, 73, 74, 125, 126, 127, 128, 129, 130, 131, 132, 165, 166, 167, 168] (by decide +kernel) (by decide +kernel)
set_option maxRecDepth 20000 in
theorem gX11_init_X2_init : GoodIn wsX11_init (wsX2_init) := ggX11_init_X2_init
set_option maxRecDepth 20000 in
theorem ggX11_init_X1_init : GoodIn wsX11_init wsX1_init := goodIn_r _ [76, 77, 2, 3, 78, 42, 43, 79, 80, 49, 50, 51, 52, 53, 54, 55, 56, 57, 58, 59, 60, 165, 166, 167, 168, 141] (by decide +kernel) (by decide +kernel)
set_option maxRecDepth 20000 in
theorem gX11_init_X1_init_n18 : GoodIn wsX11_init (wsX1_init) := ggX11_init_X1_init
set_option maxRecDepth 20000 in
theorem ggX11_init_X6_init : GoodIn wsX11_init wsX6_init := goodIn_r _ [82, 83, 2, 3, 84, 9, 10, 85, 75, 76, 77, 78, 42, 43, 79, 80, 49, 50, 51, 52, 53, 54, 55, 56, 57, 58, 59, 60, 141, 142, 165, 166, 167, 168] (by decide +kernel) (by decide +kernel)
set_option maxRecDepth 20000 in
theorem gX11_init_X6_init_n25 : GoodIn wsX11_init (wsX6_init) := ggX11_init_X6_init
set_option maxRecDepth 20000 in
theorem ggX11_init_X8_init : GoodIn wsX11_init wsX8_init := goodIn_r _ [87, 88, 2, 3, 59, 89, 90, 91, 92, 93, 94, 95, 96, 97, 98, 143, 144, 145, 146, 147, 148, 149, 150, 151] (by decide +kernel) (by decide +kernel)
set_option maxRecDepth 20000 in
theorem gX11_init_X8_init_n32 : GoodIn wsX11_init (wsX8_init) := ggX11_init_X8_init
set_option maxRecDepth 20000 in
theorem ggX11_init_X10_init : GoodIn wsX11_init wsX10_init := goodIn_r _ [101, 102, 2, 3, 103, 104, 105, 106, 5, 6, 107, 34, 35, 36, 37, 38, 39, 40, 41, 42, 43, 44, 45, 46, 47, 48, 49, 50, 51, 52, 53, 54, 55, 56, 57, 58, 59, 60, 61, 62, 63, 64, 65, 66, 67, 68, 69, 70, 71, 72, 73, 74, 152, 153, 154, 125, 126, 127, 128, 129, 130, 131, 132, 165, 166, 167, 168] (by decide +kernel) (by decide +kernel)
set_option maxRecDepth 20000 in
theorem gX11_init_X10_init : GoodIn wsX11_init (wsX10_init) := ggX11_init_X10_init
set_option maxRecDepth 20000 in
theorem ggX11_init_X5_init : GoodIn wsX11_init wsX5_init := goodIn_r _ [109, 110, 2, 3, 59, 111, 112, 155, 156] (by decide +kernel) (by decide +kernel)
set_option maxRecDepth 20000 in
theorem gX11_init_X5_init_n46 : GoodIn wsX11_init (wsX5_init) := ggX11_init_X5_init
set_option maxRecDepth 20000 in
theorem ggX11_init_X4_init : GoodIn wsX11_init wsX4_init := goodIn_r _ [114, 115, 2, 3, 116, 117, 59, 118, 119, 120, 121, 122, 123, 124, 157, 158, 159, 160, 161, 162, 163, 164] (by decide +kernel) (by decide +kernel)
set_option maxRecDepth 20000 in
theorem gX11_init_X4_init_n53 : GoodIn wsX11_init (wsX4_init) := ggX11_init_X4_init
theorem dX11_init_0 : decode cX11_init 0 = .ok (.aload_n 0, 1) := by decide +kernel
theorem dX11_init_1 : decode cX11_init 1 = .ok (.invokespecial 1, 3) := by decide +kernel
theorem dX11_init_4 : decode cX11_init 4 = .ok (.aload_n 0, 1) := by decide +kernel
theorem dX11_init_5 : decode cX11_init 5 = .ok (.new 7, 3) := by decide +kernel
theorem dX11_init_8 : decode cX11_init 8 = .ok (.dup, 1) := by decide +kernel
theorem dX11_init_9 : decode cX11_init 9 = .ok (.invokespecial 9, 3) := by decide +kernel
theorem dX11_init_12 : decode cX11_init 12 = .ok (.putfield 10, 3) := by decide +kernel
theorem dX11_init_15 : decode cX11_init 15 = .ok (.aload_n 0, 1) := by decide +kernel
theorem dX11_init_16 : decode cX11_init 16 = .ok (.new 16, 3) := by decide +kernel
theorem dX11_init_19 : decode cX11_init 19 = .ok (.dup, 1) := by decide +kernel
theorem dX11_init_20 : decode cX11_init 20 = .ok (.invokespecial 18, 3) := by decide +kernel
theorem dX11_init_23 : decode cX11_init 23 = .ok (.putfield 19, 3) := by decide +kernel
theorem dX11_init_26 : decode cX11_init 26 = .ok (.aload_n 0, 1) := by decide +kernel
theorem dX11_init_27 : decode cX11_init 27 = .ok (.new 23, 3) := by decide +kernel
theorem dX11_init_30 : decode cX11_init 30 = .ok (.dup, 1) := by decide +kernel
theorem dX11_init_31 : decode cX11_init 31 = .ok (.invokespecial 25, 3) := by decide +kernel
theorem dX11_init_34 : decode cX11_init 34 = .ok (.putfield 26, 3) := by decide +kernel
theorem dX11_init_37 : decode cX11_init 37 = .ok (.aload_n 0, 1) := by decide +kernel
theorem dX11_init_38 : decode cX11_init 38 = .ok (.new 30, 3) := by decide +kernel
theorem dX11_init_41 : decode cX11_init 41 = .ok (.dup, 1) := by decide +kernel
theorem dX11_init_42 : decode cX11_init 42 = .ok (.invokespecial 32, 3) := by decide +kernel
theorem dX11_init_45 : decode cX11_init 45 = .ok (.putfield 33, 3) := by decide +kernel
theorem dX11_init_48 : decode cX11_init 48 = .ok (.aload_n 0, 1) := by decide +kernel
theorem dX11_init_49 : decode cX11_init 49 = .ok (.new 37, 3) := by decide +kernel
theorem dX11_init_52 : decode cX11_init 52 = .ok (.dup, 1) := by decide +kernel
theorem dX11_init_53 : decode cX11_init 53 = .ok (.invokespecial 39, 3) := by decide +kernel
theorem dX11_init_56 : decode cX11_init 56 = .ok (.putfield 40, 3) := by decide +kernel
theorem dX11_init_59 : decode cX11_init 59 = .ok (.aload_n 0, 1) := by decide +kernel
theorem dX11_init_60 : decode cX11_init 60 = .ok (.new 44, 3) := by decide +kernel
theorem dX11_init_63 : decode cX11_init 63 = .ok (.dup, 1) := by decide +kernel
theorem dX11_init_64 : decode cX11_init 64 = .ok (.invokespecial 46, 3) := by decide +kernel
theorem dX11_init_67 : decode cX11_init 67 = .ok (.putfield 47, 3) := by decide +kernel
theorem dX11_init_70 : decode cX11_init 70 = .ok (.aload_n 0, 1) := by decide +kernel
theorem dX11_init_71 : decode cX11_init 71 = .ok (.new 51, 3) := by decide +kernel
theorem dX11_init_74 : decode cX11_init 74 = .ok (.dup, 1) := by decide +kernel
theorem dX11_init_75 : decode cX11_init 75 = .ok (.invokespecial 53, 3) := by decide +kernel
theorem dX11_init_78 : decode cX11_init 78 = .ok (.putfield 54, 3) := by decide +kernel
theorem dX11_init_81 : decode cX11_init 81 = .ok (.aload_n 0, 1) := by decide +kernel
theorem dX11_init_82 : decode cX11_init 82 = .ok (.iconst 0, 1) := by decide +kernel
theorem dX11_init_83 : decode cX11_init 83 = .ok (.putfield 58, 3) := by decide +kernel
theorem dX11_init_86 : decode cX11_init 86 = .ok (.return_, 1) := by decide +kernel
set_option maxRecDepth 20000 in
theorem ggX11_begin_X2_refusalOfField : GoodIn wsX11_begin wsX2_refusalOfField := goodIn_r _ [6, 7, 8, 9] (by decide +kernel) (by decide +kernel)
set_option maxRecDepth 20000 in
theorem gX11_begin_X2_refusalOfField : GoodIn wsX11_begin (wsV RX11 62 RX2 yX2_refusalOfField wsX2_refusalOfField) := goodIn_app (goodIn_of _ (by decide +kernel)) ggX11_begin_X2_refusalOfField
set_option maxRecDepth 20000 in
theorem ggX11_begin_X11_refuse : GoodIn wsX11_begin wsX11_refuse := goodIn_ca (goodIn_ca (goodIn_ca (goodIn_r _ [12, 13, 14, 15, 16, 17, 18] (by decide +kernel) (by decide +kernel)) (goodIn_sub (fun _ h => List.mem_cons_of_mem _ (List.mem_append_left _ (List.mem_append_left _ (List.mem_append_right _ h)))) (by decide +kernel))) (goodIn_sub (fun _ h => List.mem_cons_of_mem _ (List.mem_append_left _ (List.mem_append_right _ h))) (by decide +kernel))) (goodIn_sub (fun _ h => List.mem_cons_of_mem _ (List.mem_append_right _ h)) (by decide +kernel))
set_option maxRecDepth 20000 in
theorem gX11_begin_X11_refuse : GoodIn wsX11_begin (va_wsS RX11 66 yX11_refuse wsX11_refuse) := goodIn_app (goodIn_of _ (by decide +kernel)) ggX11_begin_X11_refuse
set_option maxRecDepth 20000 in
theorem ggX11_begin_X11_saveState : GoodIn wsX11_begin wsX11_saveState := goodIn_r _ [22, 23, 1, 24, 25, 26, 27, 28, 29, 30, 31, 32, 33, 34, 35, 36, 37, 38, 39, 5, 40, 41, 42, 43, 44, 45, 46, 47, 48, 49, 50, 51, 52, 53, 54, 55, 56, 57, 58, 59, 60, 61, 62, 63, 64, 65, 66, 72, 73, 74, 75, 76, 77, 78, 79, 80, 81, 82, 83, 84, 85, 86, 87, 88, 89, 90, 91, 92, 93, 94, 95, 96, 97, 98, 99, 100, 101, 102, 103] (by decide +kernel) (by decide +kernel)
set_option maxRecDepth 20000 in
theorem gX11_begin_X11_saveState : GoodIn wsX11_begin (wsV RX11 70 RX11 yX11_saveState wsX11_saveState) := goodIn_app (goodIn_of _ (by decide +kernel)) ggX11_begin_X11_saveState
set_option maxRecDepth 20000 in
theorem ggX11_begin_X2_startField : GoodIn wsX11_begin wsX2_startField := goodIn_r _ [70, 43, 41, 42, 45, 71, 46, 47, 83, 84, 85, 86, 87, 88, 89, 90, 91, 92, 93, 94] (by decide +kernel) (by decide +kernel)
set_option maxRecDepth 20000 in
theorem gX11_begin_X2_startField : GoodIn wsX11_begin (wsV RX11 73 RX2 yX2_startField wsX2_startField) := goodIn_app (goodIn_of _ (by decide +kernel)) ggX11_begin_X2_startField
theorem dX11_begin_0 : decode cX11_begin 0 = .ok (.aload_n 0, 1) := by decide +kernel
theorem dX11_begin_1 : decode cX11_begin 1 = .ok (.getfield 10, 3) := by decide +kernel
theorem dX11_begin_4 : decode cX11_begin 4 = .ok (.iload_n 1, 1) := by decide +kernel
theorem dX11_begin_5 : decode cX11_begin 5 = .ok (.iload_n 2, 1) := by decide +kernel
theorem dX11_begin_6 : decode cX11_begin 6 = .ok (.invokevirtual 62, 3) := by decide +kernel
theorem dX11_begin_9 : decode cX11_begin 9 = .ok (.invokestatic 66, 3) := by decide +kernel
theorem dX11_begin_12 : decode cX11_begin 12 = .ok (.aload_n 0, 1) := by decide +kernel
theorem dX11_begin_13 : decode cX11_begin 13 = .ok (.invokevirtual 70, 3) := by decide +kernel
theorem dX11_begin_16 : decode cX11_begin 16 = .ok (.aload_n 0, 1) := by decide +kernel
theorem dX11_begin_17 : decode cX11_begin 17 = .ok (.getfield 10, 3) := by decide +kernel
theorem dX11_begin_20 : decode cX11_begin 20 = .ok (.iload_n 1, 1) := by decide +kernel
theorem dX11_begin_21 : decode cX11_begin 21 = .ok (.iload_n 2, 1) := by decide +kernel
theorem dX11_begin_22 : decode cX11_begin 22 = .ok (.invokevirtual 73, 3) := by decide +kernel
theorem dX11_begin_25 : decode cX11_begin 25 = .ok (.ireturn, 1) := by decide +kernel
set_option maxRecDepth 20000 in
theorem ggX11_addMicrophone_X2_refusalOfMicrophone : GoodIn wsX11_addMicrophone wsX2_refusalOfMicrophone := goodIn_r _ [6, 7, 8, 9, 10, 11, 12, 13, 14, 15, 16, 17, 96, 97, 98, 99, 100, 101, 102, 103, 104, 105, 106, 107] (by decide +kernel) (by decide +kernel)
set_option maxRecDepth 20000 in
theorem gX11_addMicrophone_X2_refusalOfMicrophone : GoodIn wsX11_addMicrophone (wsV RX11 76 RX2 yX2_refusalOfMicrophone wsX2_refusalOfMicrophone) := goodIn_app (goodIn_of _ (by decide +kernel)) ggX11_addMicrophone_X2_refusalOfMicrophone
set_option maxRecDepth 20000 in
theorem ggX11_addMicrophone_X11_refuse : GoodIn wsX11_addMicrophone wsX11_refuse := goodIn_ca (goodIn_ca (goodIn_ca (goodIn_r _ [20, 21, 22, 23, 24, 25, 26] (by decide +kernel) (by decide +kernel)) (goodIn_sub (fun _ h => List.mem_cons_of_mem _ (List.mem_append_left _ (List.mem_append_left _ (List.mem_append_right _ h)))) (by decide +kernel))) (goodIn_sub (fun _ h => List.mem_cons_of_mem _ (List.mem_append_left _ (List.mem_append_right _ h))) (by decide +kernel))) (goodIn_sub (fun _ h => List.mem_cons_of_mem _ (List.mem_append_right _ h)) (by decide +kernel))
set_option maxRecDepth 20000 in
theorem gX11_addMicrophone_X11_refuse : GoodIn wsX11_addMicrophone (va_wsS RX11 66 yX11_refuse wsX11_refuse) := goodIn_app (goodIn_of _ (by decide +kernel)) ggX11_addMicrophone_X11_refuse
set_option maxRecDepth 20000 in
theorem ggX11_addMicrophone_X11_saveState : GoodIn wsX11_addMicrophone wsX11_saveState := goodIn_r _ [30, 31, 1, 32, 33, 34, 35, 36, 37, 38, 39, 40, 41, 42, 43, 44, 45, 46, 47, 5, 48, 49, 50, 51, 52, 7, 53, 54, 55, 56, 57, 58, 14, 59, 60, 61, 62, 63, 64, 65, 16, 66, 67, 68, 69, 70, 71, 88, 89, 90, 91, 92, 93, 94, 95, 108, 109, 110, 96, 97, 98, 99, 100, 101, 102, 103, 104, 105, 106, 107, 111, 112, 113, 114, 115, 116, 117, 118, 119] (by decide +kernel) (by decide +kernel)
set_option maxRecDepth 20000 in
theorem gX11_addMicrophone_X11_saveState : GoodIn wsX11_addMicrophone (wsV RX11 70 RX11 yX11_saveState wsX11_saveState) := goodIn_app (goodIn_of _ (by decide +kernel)) ggX11_addMicrophone_X11_saveState
set_option maxRecDepth 20000 in
theorem ggX11_addMicrophone_X2_placeMicrophone : GoodIn wsX11_addMicrophone wsX2_placeMicrophone := goodIn_r _ [75, 7, 76, 77, 78, 14, 79, 80, 16, 81, 82, 12, 13, 15, 17, 83, 84, 85, 86, 60, 87, 96, 97, 98, 99, 100, 101, 102, 103, 104, 105, 106, 107] (by decide +kernel) (by decide +kernel)
set_option maxRecDepth 20000 in
theorem gX11_addMicrophone_X2_placeMicrophone : GoodIn wsX11_addMicrophone (wsV RX11 79 RX2 yX2_placeMicrophone wsX2_placeMicrophone) := goodIn_app (goodIn_of _ (by decide +kernel)) ggX11_addMicrophone_X2_placeMicrophone
theorem dX11_addMicrophone_0 : decode cX11_addMicrophone 0 = .ok (.aload_n 0, 1) := by decide +kernel
theorem dX11_addMicrophone_1 : decode cX11_addMicrophone 1 = .ok (.getfield 10, 3) := by decide +kernel
theorem dX11_addMicrophone_4 : decode cX11_addMicrophone 4 = .ok (.iload_n 1, 1) := by decide +kernel
theorem dX11_addMicrophone_5 : decode cX11_addMicrophone 5 = .ok (.iload_n 2, 1) := by decide +kernel
theorem dX11_addMicrophone_6 : decode cX11_addMicrophone 6 = .ok (.invokevirtual 76, 3) := by decide +kernel
theorem dX11_addMicrophone_9 : decode cX11_addMicrophone 9 = .ok (.invokestatic 66, 3) := by decide +kernel
theorem dX11_addMicrophone_12 : decode cX11_addMicrophone 12 = .ok (.aload_n 0, 1) := by decide +kernel
theorem dX11_addMicrophone_13 : decode cX11_addMicrophone 13 = .ok (.invokevirtual 70, 3) := by decide +kernel
theorem dX11_addMicrophone_16 : decode cX11_addMicrophone 16 = .ok (.aload_n 0, 1) := by decide +kernel
theorem dX11_addMicrophone_17 : decode cX11_addMicrophone 17 = .ok (.getfield 10, 3) := by decide +kernel
theorem dX11_addMicrophone_20 : decode cX11_addMicrophone 20 = .ok (.iload_n 1, 1) := by decide +kernel
theorem dX11_addMicrophone_21 : decode cX11_addMicrophone 21 = .ok (.iload_n 2, 1) := by decide +kernel
theorem dX11_addMicrophone_22 : decode cX11_addMicrophone 22 = .ok (.invokevirtual 79, 3) := by decide +kernel
theorem dX11_addMicrophone_25 : decode cX11_addMicrophone 25 = .ok (.ireturn, 1) := by decide +kernel
set_option maxRecDepth 20000 in
theorem ggX11_setClock_X9_has : GoodIn wsX11_setClock wsX9_has := goodIn_r _ [7, 8, 101, 102, 103, 104] (by decide +kernel) (by decide +kernel)
set_option maxRecDepth 20000 in
theorem gX11_setClock_X9_has : GoodIn wsX11_setClock (wsV RX11 86 RX9 yX9_has wsX9_has) := goodIn_app (goodIn_of _ (by decide +kernel)) ggX11_setClock_X9_has
set_option maxRecDepth 20000 in
theorem ggX11_setClock_X11_requireThere : GoodIn wsX11_setClock wsX11_requireThere := goodIn_ca (goodIn_ca (goodIn_ca (goodIn_r _ [12, 13, 14, 11, 15, 16, 17, 18, 19, 20, 21] (by decide +kernel) (by decide +kernel)) (goodIn_sub (fun _ h => List.mem_cons_of_mem _ (List.mem_append_left _ (List.mem_append_left _ (List.mem_append_right _ h)))) (by decide +kernel))) (goodIn_sub (fun _ h => List.mem_cons_of_mem _ (List.mem_append_left _ (List.mem_append_right _ h))) (by decide +kernel))) (goodIn_sub (fun _ h => List.mem_cons_of_mem _ (List.mem_append_right _ h)) (by decide +kernel))
set_option maxRecDepth 20000 in
theorem gX11_setClock_X11_requireThere : GoodIn wsX11_setClock (va_wsS RX11 92 yX11_requireThere wsX11_requireThere) := goodIn_app (goodIn_of _ (by decide +kernel)) ggX11_setClock_X11_requireThere
set_option maxRecDepth 20000 in
theorem ggX11_setClock_X11_isBetween : GoodIn wsX11_setClock wsX11_isBetween := goodIn_r _ [24] (by decide +kernel) (by decide +kernel)
set_option maxRecDepth 20000 in
theorem gX11_setClock_X11_isBetween : GoodIn wsX11_setClock (va_wsS RX11 96 yX11_isBetween wsX11_isBetween) := goodIn_app (goodIn_of _ (by decide +kernel)) ggX11_setClock_X11_isBetween
set_option maxRecDepth 20000 in
theorem ggX11_setClock_X11_requireRange : GoodIn wsX11_setClock wsX11_requireRange := goodIn_ca (goodIn_ca (goodIn_ca (goodIn_r _ [27, 13, 14, 11, 15, 16, 17, 18, 19, 20, 21] (by decide +kernel) (by decide +kernel)) (goodIn_sub (fun _ h => List.mem_cons_of_mem _ (List.mem_append_left _ (List.mem_append_left _ (List.mem_append_right _ h)))) (by decide +kernel))) (goodIn_sub (fun _ h => List.mem_cons_of_mem _ (List.mem_append_left _ (List.mem_append_right _ h))) (by decide +kernel))) (goodIn_sub (fun _ h => List.mem_cons_of_mem _ (List.mem_append_right _ h)) (by decide +kernel))
set_option maxRecDepth 20000 in
theorem gX11_setClock_X11_requireRange : GoodIn wsX11_setClock (va_wsS RX11 100 yX11_requireRange wsX11_requireRange) := goodIn_app (goodIn_of _ (by decide +kernel)) ggX11_setClock_X11_requireRange
set_option maxRecDepth 20000 in
theorem ggX11_setClock_X11_saveState : GoodIn wsX11_setClock wsX11_saveState := goodIn_r _ [31, 32, 1, 33, 34, 35, 36, 37, 38, 39, 40, 41, 42, 43, 44, 45, 46, 47, 48, 49, 50, 51, 52, 53, 54, 55, 56, 57, 58, 59, 60, 61, 6, 62, 63, 64, 65, 66, 67, 68, 8, 69, 70, 71, 72, 73, 74, 85, 86, 87, 88, 89, 90, 91, 92, 105, 106, 107, 93, 94, 95, 96, 97, 98, 99, 100, 101, 102, 103, 104, 108, 109, 110, 111, 112, 113, 114, 115, 116] (by decide +kernel) (by decide +kernel)
set_option maxRecDepth 20000 in
theorem gX11_setClock_X11_saveState : GoodIn wsX11_setClock (wsV RX11 70 RX11 yX11_saveState wsX11_saveState) := goodIn_app (goodIn_of _ (by decide +kernel)) ggX11_setClock_X11_saveState
set_option maxRecDepth 20000 in
theorem ggX11_setClock_X9_at : GoodIn wsX11_setClock wsX9_at := goodIn_r _ [78, 8, 79, 80, 63, 101, 102, 103, 104] (by decide +kernel) (by decide +kernel)
set_option maxRecDepth 20000 in
theorem gX11_setClock_X9_at : GoodIn wsX11_setClock (wsV RX11 103 RX9 yX9_at wsX9_at) := goodIn_app (goodIn_of _ (by decide +kernel)) ggX11_setClock_X9_at
set_option maxRecDepth 20000 in
theorem ggX11_setClock_X9_put : GoodIn wsX11_setClock wsX9_put := goodIn_r _ [84, 8, 79, 63, 101, 102, 103, 104] (by decide +kernel) (by decide +kernel)
set_option maxRecDepth 20000 in
theorem gX11_setClock_X9_put : GoodIn wsX11_setClock (wsV RX11 106 RX9 yX9_put wsX9_put) := goodIn_app (goodIn_of _ (by decide +kernel)) ggX11_setClock_X9_put
theorem dX11_setClock_0 : decode cX11_setClock 0 = .ok (.aload_n 0, 1) := by decide +kernel
theorem dX11_setClock_1 : decode cX11_setClock 1 = .ok (.getfield 10, 3) := by decide +kernel
theorem dX11_setClock_4 : decode cX11_setClock 4 = .ok (.getfield 82, 3) := by decide +kernel
theorem dX11_setClock_7 : decode cX11_setClock 7 = .ok (.iload_n 1, 1) := by decide +kernel
theorem dX11_setClock_8 : decode cX11_setClock 8 = .ok (.invokevirtual 86, 3) := by decide +kernel
theorem dX11_setClock_11 : decode cX11_setClock 11 = .ok (.invokestatic 92, 3) := by decide +kernel
theorem dX11_setClock_14 : decode cX11_setClock 14 = .ok (.iload_n 2, 1) := by decide +kernel
theorem dX11_setClock_15 : decode cX11_setClock 15 = .ok (.sipush (-500), 3) := by decide +kernel
theorem dX11_setClock_18 : decode cX11_setClock 18 = .ok (.sipush 500, 3) := by decide +kernel
theorem dX11_setClock_21 : decode cX11_setClock 21 = .ok (.invokestatic 96, 3) := by decide +kernel
theorem dX11_setClock_24 : decode cX11_setClock 24 = .ok (.invokestatic 100, 3) := by decide +kernel
theorem dX11_setClock_27 : decode cX11_setClock 27 = .ok (.aload_n 0, 1) := by decide +kernel
theorem dX11_setClock_28 : decode cX11_setClock 28 = .ok (.invokevirtual 70, 3) := by decide +kernel
theorem dX11_setClock_31 : decode cX11_setClock 31 = .ok (.aload_n 0, 1) := by decide +kernel
theorem dX11_setClock_32 : decode cX11_setClock 32 = .ok (.getfield 10, 3) := by decide +kernel
theorem dX11_setClock_35 : decode cX11_setClock 35 = .ok (.getfield 82, 3) := by decide +kernel
theorem dX11_setClock_38 : decode cX11_setClock 38 = .ok (.iload_n 1, 1) := by decide +kernel
theorem dX11_setClock_39 : decode cX11_setClock 39 = .ok (.iconst 2, 1) := by decide +kernel
theorem dX11_setClock_40 : decode cX11_setClock 40 = .ok (.invokevirtual 103, 3) := by decide +kernel
theorem dX11_setClock_43 : decode cX11_setClock 43 = .ok (.istore_n 3, 1) := by decide +kernel
theorem dX11_setClock_44 : decode cX11_setClock 44 = .ok (.aload_n 0, 1) := by decide +kernel
theorem dX11_setClock_45 : decode cX11_setClock 45 = .ok (.getfield 10, 3) := by decide +kernel
theorem dX11_setClock_48 : decode cX11_setClock 48 = .ok (.getfield 82, 3) := by decide +kernel
theorem dX11_setClock_51 : decode cX11_setClock 51 = .ok (.iload_n 1, 1) := by decide +kernel
theorem dX11_setClock_52 : decode cX11_setClock 52 = .ok (.iconst 2, 1) := by decide +kernel
theorem dX11_setClock_53 : decode cX11_setClock 53 = .ok (.iload_n 2, 1) := by decide +kernel
theorem dX11_setClock_54 : decode cX11_setClock 54 = .ok (.invokevirtual 106, 3) := by decide +kernel
theorem dX11_setClock_57 : decode cX11_setClock 57 = .ok (.iload_n 3, 1) := by decide +kernel
theorem dX11_setClock_58 : decode cX11_setClock 58 = .ok (.ireturn, 1) := by decide +kernel
set_option maxRecDepth 20000 in
theorem ggX11_addWall_X2_refusalOfWall : GoodIn wsX11_addWall wsX2_refusalOfWall := goodIn_r _ [6, 7, 8, 9, 10, 11, 12, 13, 14, 15, 16, 17, 96, 97, 98, 99, 100, 101, 102, 103, 104, 105, 106, 107] (by decide +kernel) (by decide +kernel)
set_option maxRecDepth 20000 in
theorem gX11_addWall_X2_refusalOfWall : GoodIn wsX11_addWall (wsV RX11 110 RX2 yX2_refusalOfWall wsX2_refusalOfWall) := goodIn_app (goodIn_of _ (by decide +kernel)) ggX11_addWall_X2_refusalOfWall
set_option maxRecDepth 20000 in
theorem ggX11_addWall_X11_refuse : GoodIn wsX11_addWall wsX11_refuse := goodIn_ca (goodIn_ca (goodIn_ca (goodIn_r _ [20, 21, 22, 23, 24, 25, 26] (by decide +kernel) (by decide +kernel)) (goodIn_sub (fun _ h => List.mem_cons_of_mem _ (List.mem_append_left _ (List.mem_append_left _ (List.mem_append_right _ h)))) (by decide +kernel))) (goodIn_sub (fun _ h => List.mem_cons_of_mem _ (List.mem_append_left _ (List.mem_append_right _ h))) (by decide +kernel))) (goodIn_sub (fun _ h => List.mem_cons_of_mem _ (List.mem_append_right _ h)) (by decide +kernel))
set_option maxRecDepth 20000 in
theorem gX11_addWall_X11_refuse : GoodIn wsX11_addWall (va_wsS RX11 66 yX11_refuse wsX11_refuse) := goodIn_app (goodIn_of _ (by decide +kernel)) ggX11_addWall_X11_refuse
set_option maxRecDepth 20000 in
theorem ggX11_addWall_X11_saveState : GoodIn wsX11_addWall wsX11_saveState := goodIn_r _ [30, 31, 1, 32, 33, 34, 35, 36, 37, 38, 39, 40, 41, 42, 43, 44, 45, 46, 47, 5, 48, 49, 50, 51, 52, 53, 7, 54, 55, 56, 57, 58, 14, 59, 60, 61, 62, 63, 64, 65, 16, 66, 67, 68, 69, 70, 71, 88, 89, 90, 91, 92, 93, 94, 95, 108, 109, 110, 96, 97, 98, 99, 100, 101, 102, 103, 104, 105, 106, 107, 111, 112, 113, 114, 115, 116, 117, 118, 119] (by decide +kernel) (by decide +kernel)
set_option maxRecDepth 20000 in
theorem gX11_addWall_X11_saveState : GoodIn wsX11_addWall (wsV RX11 70 RX11 yX11_saveState wsX11_saveState) := goodIn_app (goodIn_of _ (by decide +kernel)) ggX11_addWall_X11_saveState
set_option maxRecDepth 20000 in
theorem ggX11_addWall_X2_placeWall : GoodIn wsX11_addWall wsX2_placeWall := goodIn_r _ [75, 7, 76, 77, 78, 14, 79, 80, 16, 81, 82, 12, 13, 15, 17, 83, 84, 85, 86, 60, 87, 96, 97, 98, 99, 100, 101, 102, 103, 104, 105, 106, 107] (by decide +kernel) (by decide +kernel)
set_option maxRecDepth 20000 in
theorem gX11_addWall_X2_placeWall : GoodIn wsX11_addWall (wsV RX11 114 RX2 yX2_placeWall wsX2_placeWall) := goodIn_app (goodIn_of _ (by decide +kernel)) ggX11_addWall_X2_placeWall
theorem dX11_addWall_0 : decode cX11_addWall 0 = .ok (.aload_n 0, 1) := by decide +kernel
theorem dX11_addWall_1 : decode cX11_addWall 1 = .ok (.getfield 10, 3) := by decide +kernel
theorem dX11_addWall_4 : decode cX11_addWall 4 = .ok (.iload_n 1, 1) := by decide +kernel
theorem dX11_addWall_5 : decode cX11_addWall 5 = .ok (.iload_n 2, 1) := by decide +kernel
theorem dX11_addWall_6 : decode cX11_addWall 6 = .ok (.iload_n 3, 1) := by decide +kernel
theorem dX11_addWall_7 : decode cX11_addWall 7 = .ok (.invokevirtual 110, 3) := by decide +kernel
theorem dX11_addWall_10 : decode cX11_addWall 10 = .ok (.invokestatic 66, 3) := by decide +kernel
theorem dX11_addWall_13 : decode cX11_addWall 13 = .ok (.aload_n 0, 1) := by decide +kernel
theorem dX11_addWall_14 : decode cX11_addWall 14 = .ok (.invokevirtual 70, 3) := by decide +kernel
theorem dX11_addWall_17 : decode cX11_addWall 17 = .ok (.aload_n 0, 1) := by decide +kernel
theorem dX11_addWall_18 : decode cX11_addWall 18 = .ok (.getfield 10, 3) := by decide +kernel
theorem dX11_addWall_21 : decode cX11_addWall 21 = .ok (.iload_n 1, 1) := by decide +kernel
theorem dX11_addWall_22 : decode cX11_addWall 22 = .ok (.iload_n 2, 1) := by decide +kernel
theorem dX11_addWall_23 : decode cX11_addWall 23 = .ok (.iload_n 3, 1) := by decide +kernel
theorem dX11_addWall_24 : decode cX11_addWall 24 = .ok (.invokevirtual 114, 3) := by decide +kernel
theorem dX11_addWall_27 : decode cX11_addWall 27 = .ok (.ireturn, 1) := by decide +kernel
set_option maxRecDepth 20000 in
theorem ggX11_addScreen_X2_refusalOfScreen : GoodIn wsX11_addScreen wsX2_refusalOfScreen := goodIn_r _ [6, 7, 8, 9, 10, 11, 12, 13, 14, 15, 16, 17, 96, 97, 98, 99, 100, 101, 102, 103, 104, 105, 106, 107] (by decide +kernel) (by decide +kernel)
set_option maxRecDepth 20000 in
theorem gX11_addScreen_X2_refusalOfScreen : GoodIn wsX11_addScreen (wsV RX11 117 RX2 yX2_refusalOfScreen wsX2_refusalOfScreen) := goodIn_app (goodIn_of _ (by decide +kernel)) ggX11_addScreen_X2_refusalOfScreen
set_option maxRecDepth 20000 in
theorem ggX11_addScreen_X11_refuse : GoodIn wsX11_addScreen wsX11_refuse := goodIn_ca (goodIn_ca (goodIn_ca (goodIn_r _ [20, 21, 22, 23, 24, 25, 26] (by decide +kernel) (by decide +kernel)) (goodIn_sub (fun _ h => List.mem_cons_of_mem _ (List.mem_append_left _ (List.mem_append_left _ (List.mem_append_right _ h)))) (by decide +kernel))) (goodIn_sub (fun _ h => List.mem_cons_of_mem _ (List.mem_append_left _ (List.mem_append_right _ h))) (by decide +kernel))) (goodIn_sub (fun _ h => List.mem_cons_of_mem _ (List.mem_append_right _ h)) (by decide +kernel))
set_option maxRecDepth 20000 in
theorem gX11_addScreen_X11_refuse : GoodIn wsX11_addScreen (va_wsS RX11 66 yX11_refuse wsX11_refuse) := goodIn_app (goodIn_of _ (by decide +kernel)) ggX11_addScreen_X11_refuse
set_option maxRecDepth 20000 in
theorem ggX11_addScreen_X11_saveState : GoodIn wsX11_addScreen wsX11_saveState := goodIn_r _ [30, 31, 1, 32, 33, 34, 35, 36, 37, 38, 39, 40, 41, 42, 43, 44, 45, 46, 47, 5, 48, 49, 50, 51, 52, 53, 54, 7, 55, 56, 57, 58, 14, 59, 60, 61, 62, 63, 64, 65, 16, 66, 67, 68, 69, 70, 71, 88, 89, 90, 91, 92, 93, 94, 95, 108, 109, 110, 96, 97, 98, 99, 100, 101, 102, 103, 104, 105, 106, 107, 111, 112, 113, 114, 115, 116, 117, 118, 119] (by decide +kernel) (by decide +kernel)
set_option maxRecDepth 20000 in
theorem gX11_addScreen_X11_saveState : GoodIn wsX11_addScreen (wsV RX11 70 RX11 yX11_saveState wsX11_saveState) := goodIn_app (goodIn_of _ (by decide +kernel)) ggX11_addScreen_X11_saveState
set_option maxRecDepth 20000 in
theorem ggX11_addScreen_X2_placeScreen : GoodIn wsX11_addScreen wsX2_placeScreen := goodIn_r _ [75, 7, 76, 77, 78, 14, 79, 80, 16, 81, 82, 12, 13, 15, 17, 83, 84, 85, 86, 60, 87, 96, 97, 98, 99, 100, 101, 102, 103, 104, 105, 106, 107] (by decide +kernel) (by decide +kernel)
set_option maxRecDepth 20000 in
theorem gX11_addScreen_X2_placeScreen : GoodIn wsX11_addScreen (wsV RX11 121 RX2 yX2_placeScreen wsX2_placeScreen) := goodIn_app (goodIn_of _ (by decide +kernel)) ggX11_addScreen_X2_placeScreen
theorem dX11_addScreen_0 : decode cX11_addScreen 0 = .ok (.aload_n 0, 1) := by decide +kernel
theorem dX11_addScreen_1 : decode cX11_addScreen 1 = .ok (.getfield 10, 3) := by decide +kernel
theorem dX11_addScreen_4 : decode cX11_addScreen 4 = .ok (.iload_n 1, 1) := by decide +kernel
theorem dX11_addScreen_5 : decode cX11_addScreen 5 = .ok (.iload_n 2, 1) := by decide +kernel
theorem dX11_addScreen_6 : decode cX11_addScreen 6 = .ok (.iload_n 3, 1) := by decide +kernel
theorem dX11_addScreen_7 : decode cX11_addScreen 7 = .ok (.iload 4, 2) := by decide +kernel
theorem dX11_addScreen_9 : decode cX11_addScreen 9 = .ok (.invokevirtual 117, 3) := by decide +kernel
theorem dX11_addScreen_12 : decode cX11_addScreen 12 = .ok (.invokestatic 66, 3) := by decide +kernel
theorem dX11_addScreen_15 : decode cX11_addScreen 15 = .ok (.aload_n 0, 1) := by decide +kernel
theorem dX11_addScreen_16 : decode cX11_addScreen 16 = .ok (.invokevirtual 70, 3) := by decide +kernel
theorem dX11_addScreen_19 : decode cX11_addScreen 19 = .ok (.aload_n 0, 1) := by decide +kernel
theorem dX11_addScreen_20 : decode cX11_addScreen 20 = .ok (.getfield 10, 3) := by decide +kernel
theorem dX11_addScreen_23 : decode cX11_addScreen 23 = .ok (.iload_n 1, 1) := by decide +kernel
theorem dX11_addScreen_24 : decode cX11_addScreen 24 = .ok (.iload_n 2, 1) := by decide +kernel
theorem dX11_addScreen_25 : decode cX11_addScreen 25 = .ok (.iload_n 3, 1) := by decide +kernel
theorem dX11_addScreen_26 : decode cX11_addScreen 26 = .ok (.iload 4, 2) := by decide +kernel
theorem dX11_addScreen_28 : decode cX11_addScreen 28 = .ok (.invokevirtual 121, 3) := by decide +kernel
theorem dX11_addScreen_31 : decode cX11_addScreen 31 = .ok (.ireturn, 1) := by decide +kernel
set_option maxRecDepth 20000 in
theorem ggX11_remove_X11_isBetween : GoodIn wsX11_remove wsX11_isBetween := goodIn_r _ [6] (by decide +kernel) (by decide +kernel)
set_option maxRecDepth 20000 in
theorem gX11_remove_X11_isBetween : GoodIn wsX11_remove (va_wsS RX11 96 yX11_isBetween wsX11_isBetween) := goodIn_app (goodIn_of _ (by decide +kernel)) ggX11_remove_X11_isBetween
set_option maxRecDepth 20000 in
theorem ggX11_remove_X11_requireRange : GoodIn wsX11_remove wsX11_requireRange := goodIn_ca (goodIn_ca (goodIn_ca (goodIn_r _ [9, 10, 11, 5, 12, 13, 14, 15, 16, 17, 18] (by decide +kernel) (by decide +kernel)) (goodIn_sub (fun _ h => List.mem_cons_of_mem _ (List.mem_append_left _ (List.mem_append_left _ (List.mem_append_right _ h)))) (by decide +kernel))) (goodIn_sub (fun _ h => List.mem_cons_of_mem _ (List.mem_append_left _ (List.mem_append_right _ h))) (by decide +kernel))) (goodIn_sub (fun _ h => List.mem_cons_of_mem _ (List.mem_append_right _ h)) (by decide +kernel))
set_option maxRecDepth 20000 in
theorem gX11_remove_X11_requireRange : GoodIn wsX11_remove (va_wsS RX11 100 yX11_requireRange wsX11_requireRange) := goodIn_app (goodIn_of _ (by decide +kernel)) ggX11_remove_X11_requireRange
set_option maxRecDepth 20000 in
theorem ggX11_remove_X2_tableOf : GoodIn wsX11_remove wsX2_tableOf := goodIn_r _ [23, 24, 25, 26, 27, 97, 98, 99, 100, 101, 102, 103, 104] (by decide +kernel) (by decide +kernel)
set_option maxRecDepth 20000 in
theorem gX11_remove_X2_tableOf : GoodIn wsX11_remove (wsV RX11 124 RX2 yX2_tableOf wsX2_tableOf) := goodIn_app (goodIn_of _ (by decide +kernel)) ggX11_remove_X2_tableOf
set_option maxRecDepth 20000 in
theorem ggX11_remove_X9_has : GoodIn wsX11_remove wsX9_has := goodIn_r _ [32, 33, 93, 94, 95, 96] (by decide +kernel) (by decide +kernel)
set_option maxRecDepth 20000 in
theorem gX11_remove_X9_has : GoodIn wsX11_remove (wsV RX11 86 RX9 yX9_has wsX9_has) := goodIn_app (goodIn_of _ (by decide +kernel)) ggX11_remove_X9_has
set_option maxRecDepth 20000 in
theorem ggX11_remove_X11_requireThere : GoodIn wsX11_remove wsX11_requireThere := goodIn_ca (goodIn_ca (goodIn_ca (goodIn_r _ [36, 10, 11, 5, 12, 13, 14, 15, 16, 17, 18] (by decide +kernel) (by decide +kernel)) (goodIn_sub (fun _ h => List.mem_cons_of_mem _ (List.mem_append_left _ (List.mem_append_left _ (List.mem_append_right _ h)))) (by decide +kernel))) (goodIn_sub (fun _ h => List.mem_cons_of_mem _ (List.mem_append_left _ (List.mem_append_right _ h))) (by decide +kernel))) (goodIn_sub (fun _ h => List.mem_cons_of_mem _ (List.mem_append_right _ h)) (by decide +kernel))
set_option maxRecDepth 20000 in
theorem gX11_remove_X11_requireThere : GoodIn wsX11_remove (va_wsS RX11 92 yX11_requireThere wsX11_requireThere) := goodIn_app (goodIn_of _ (by decide +kernel)) ggX11_remove_X11_requireThere
set_option maxRecDepth 20000 in
theorem ggX11_remove_X11_saveState : GoodIn wsX11_remove wsX11_saveState := goodIn_r _ [40, 41, 1, 42, 43, 44, 45, 46, 47, 48, 49, 50, 51, 52, 53, 54, 55, 56, 57, 22, 58, 59, 60, 61, 62, 24, 25, 26, 27, 63, 64, 65, 31, 66, 67, 68, 69, 70, 71, 72, 33, 73, 74, 75, 76, 77, 78, 85, 86, 87, 88, 89, 90, 91, 92, 105, 106, 107, 97, 98, 99, 100, 101, 102, 103, 104, 93, 94, 95, 96, 108, 109, 110, 111, 112, 113, 114, 115, 116] (by decide +kernel) (by decide +kernel)
set_option maxRecDepth 20000 in
theorem gX11_remove_X11_saveState : GoodIn wsX11_remove (wsV RX11 70 RX11 yX11_saveState wsX11_saveState) := goodIn_app (goodIn_of _ (by decide +kernel)) ggX11_remove_X11_saveState
set_option maxRecDepth 20000 in
theorem ggX11_remove_X9_dropRow : GoodIn wsX11_remove wsX9_dropRow := goodIn_r _ [82, 33, 83, 67, 69, 70, 71, 72, 84, 29, 30, 31, 32, 93, 94, 95, 96] (by decide +kernel) (by decide +kernel)
set_option maxRecDepth 20000 in
theorem gX11_remove_X9_dropRow : GoodIn wsX11_remove (wsV RX11 128 RX9 yX9_dropRow wsX9_dropRow) := goodIn_app (goodIn_of _ (by decide +kernel)) ggX11_remove_X9_dropRow
theorem dX11_remove_0 : decode cX11_remove 0 = .ok (.iload_n 1, 1) := by decide +kernel
theorem dX11_remove_1 : decode cX11_remove 1 = .ok (.iconst 0, 1) := by decide +kernel
theorem dX11_remove_2 : decode cX11_remove 2 = .ok (.iconst 2, 1) := by decide +kernel
theorem dX11_remove_3 : decode cX11_remove 3 = .ok (.invokestatic 96, 3) := by decide +kernel
theorem dX11_remove_6 : decode cX11_remove 6 = .ok (.invokestatic 100, 3) := by decide +kernel
theorem dX11_remove_9 : decode cX11_remove 9 = .ok (.aload_n 0, 1) := by decide +kernel
theorem dX11_remove_10 : decode cX11_remove 10 = .ok (.getfield 10, 3) := by decide +kernel
theorem dX11_remove_13 : decode cX11_remove 13 = .ok (.iload_n 1, 1) := by decide +kernel
theorem dX11_remove_14 : decode cX11_remove 14 = .ok (.invokevirtual 124, 3) := by decide +kernel
theorem dX11_remove_17 : decode cX11_remove 17 = .ok (.astore_n 3, 1) := by decide +kernel
theorem dX11_remove_18 : decode cX11_remove 18 = .ok (.aload_n 3, 1) := by decide +kernel
theorem dX11_remove_19 : decode cX11_remove 19 = .ok (.iload_n 2, 1) := by decide +kernel
theorem dX11_remove_20 : decode cX11_remove 20 = .ok (.invokevirtual 86, 3) := by decide +kernel
theorem dX11_remove_23 : decode cX11_remove 23 = .ok (.invokestatic 92, 3) := by decide +kernel
theorem dX11_remove_26 : decode cX11_remove 26 = .ok (.aload_n 0, 1) := by decide +kernel
theorem dX11_remove_27 : decode cX11_remove 27 = .ok (.invokevirtual 70, 3) := by decide +kernel
theorem dX11_remove_30 : decode cX11_remove 30 = .ok (.aload_n 3, 1) := by decide +kernel
theorem dX11_remove_31 : decode cX11_remove 31 = .ok (.iload_n 2, 1) := by decide +kernel
theorem dX11_remove_32 : decode cX11_remove 32 = .ok (.invokevirtual 128, 3) := by decide +kernel
theorem dX11_remove_35 : decode cX11_remove 35 = .ok (.aload_n 3, 1) := by decide +kernel
theorem dX11_remove_36 : decode cX11_remove 36 = .ok (.getfield 131, 3) := by decide +kernel
theorem dX11_remove_39 : decode cX11_remove 39 = .ok (.ireturn, 1) := by decide +kernel
set_option maxRecDepth 20000 in
theorem ggX11_set_X2_refusalOfSetting : GoodIn wsX11_set wsX2_refusalOfSetting := goodIn_r _ [6, 7, 8, 9] (by decide +kernel) (by decide +kernel)
set_option maxRecDepth 20000 in
theorem gX11_set_X2_refusalOfSetting : GoodIn wsX11_set (wsV RX11 134 RX2 yX2_refusalOfSetting wsX2_refusalOfSetting) := goodIn_app (goodIn_of _ (by decide +kernel)) ggX11_set_X2_refusalOfSetting
set_option maxRecDepth 20000 in
theorem ggX11_set_X11_refuse : GoodIn wsX11_set wsX11_refuse := goodIn_ca (goodIn_ca (goodIn_ca (goodIn_r _ [12, 13, 14, 15, 16, 17, 18] (by decide +kernel) (by decide +kernel)) (goodIn_sub (fun _ h => List.mem_cons_of_mem _ (List.mem_append_left _ (List.mem_append_left _ (List.mem_append_right _ h)))) (by decide +kernel))) (goodIn_sub (fun _ h => List.mem_cons_of_mem _ (List.mem_append_left _ (List.mem_append_right _ h))) (by decide +kernel))) (goodIn_sub (fun _ h => List.mem_cons_of_mem _ (List.mem_append_right _ h)) (by decide +kernel))
set_option maxRecDepth 20000 in
theorem gX11_set_X11_refuse : GoodIn wsX11_set (va_wsS RX11 66 yX11_refuse wsX11_refuse) := goodIn_app (goodIn_of _ (by decide +kernel)) ggX11_set_X11_refuse
set_option maxRecDepth 20000 in
theorem ggX11_set_X11_saveState : GoodIn wsX11_set wsX11_saveState := goodIn_r _ [22, 23, 1, 24, 25, 26, 27, 28, 29, 30, 31, 32, 33, 34, 35, 36, 37, 38, 39, 5, 40, 41, 42, 43, 44, 45, 46, 47, 48, 49, 50, 51, 52, 53, 54, 55, 56, 57, 58, 59, 60, 61, 62, 63, 64, 65, 66, 85, 86, 87, 88, 89, 90, 91, 92, 93, 94, 95, 96, 97, 98, 99, 100, 101, 102, 103, 104, 105, 106, 107, 108, 109, 110, 111, 112, 113, 114, 115, 116] (by decide +kernel) (by decide +kernel)
set_option maxRecDepth 20000 in
theorem gX11_set_X11_saveState : GoodIn wsX11_set (wsV RX11 70 RX11 yX11_saveState wsX11_saveState) := goodIn_app (goodIn_of _ (by decide +kernel)) ggX11_set_X11_saveState
set_option maxRecDepth 20000 in
theorem ggX11_set_X2_changeSetting : GoodIn wsX11_set wsX2_changeSetting := goodIn_r _ [70, 48, 71, 72, 73, 5, 74, 75, 76, 77, 52, 78, 60, 79, 80, 54, 81, 82, 83, 84, 96, 97, 98, 99, 100, 101, 102, 103, 104, 105, 106, 107] (by decide +kernel) (by decide +kernel)
set_option maxRecDepth 20000 in
theorem gX11_set_X2_changeSetting : GoodIn wsX11_set (wsV RX11 137 RX2 yX2_changeSetting wsX2_changeSetting) := goodIn_app (goodIn_of _ (by decide +kernel)) ggX11_set_X2_changeSetting
theorem dX11_set_0 : decode cX11_set 0 = .ok (.aload_n 0, 1) := by decide +kernel
theorem dX11_set_1 : decode cX11_set 1 = .ok (.getfield 10, 3) := by decide +kernel
theorem dX11_set_4 : decode cX11_set 4 = .ok (.iload_n 1, 1) := by decide +kernel
theorem dX11_set_5 : decode cX11_set 5 = .ok (.iload_n 2, 1) := by decide +kernel
theorem dX11_set_6 : decode cX11_set 6 = .ok (.invokevirtual 134, 3) := by decide +kernel
theorem dX11_set_9 : decode cX11_set 9 = .ok (.invokestatic 66, 3) := by decide +kernel
theorem dX11_set_12 : decode cX11_set 12 = .ok (.aload_n 0, 1) := by decide +kernel
theorem dX11_set_13 : decode cX11_set 13 = .ok (.invokevirtual 70, 3) := by decide +kernel
theorem dX11_set_16 : decode cX11_set 16 = .ok (.aload_n 0, 1) := by decide +kernel
theorem dX11_set_17 : decode cX11_set 17 = .ok (.getfield 10, 3) := by decide +kernel
theorem dX11_set_20 : decode cX11_set 20 = .ok (.iload_n 1, 1) := by decide +kernel
theorem dX11_set_21 : decode cX11_set 21 = .ok (.iload_n 2, 1) := by decide +kernel
theorem dX11_set_22 : decode cX11_set 22 = .ok (.invokevirtual 137, 3) := by decide +kernel
theorem dX11_set_25 : decode cX11_set 25 = .ok (.ireturn, 1) := by decide +kernel
set_option maxRecDepth 20000 in
theorem ggX11_setS_X11_requireRange : GoodIn wsX11_setS wsX11_requireRange := goodIn_ca (goodIn_ca (goodIn_ca (goodIn_r _ [6, 7, 8, 5, 9, 10, 11, 12, 13, 14, 15] (by decide +kernel) (by decide +kernel)) (goodIn_sub (fun _ h => List.mem_cons_of_mem _ (List.mem_append_left _ (List.mem_append_left _ (List.mem_append_right _ h)))) (by decide +kernel))) (goodIn_sub (fun _ h => List.mem_cons_of_mem _ (List.mem_append_left _ (List.mem_append_right _ h))) (by decide +kernel))) (goodIn_sub (fun _ h => List.mem_cons_of_mem _ (List.mem_append_right _ h)) (by decide +kernel))
set_option maxRecDepth 20000 in
theorem gX11_setS_X11_requireRange : GoodIn wsX11_setS (va_wsS RX11 100 yX11_requireRange wsX11_requireRange) := goodIn_app (goodIn_of _ (by decide +kernel)) ggX11_setS_X11_requireRange
set_option maxRecDepth 20000 in
theorem ggX11_setS_X11_saveState : GoodIn wsX11_setS wsX11_saveState := goodIn_r _ [19, 20, 1, 21, 22, 23, 24, 25, 26, 27, 28, 29, 30, 31, 32, 33, 34, 35, 36, 37, 38, 39, 40, 41, 42, 43, 44, 45, 46, 47, 48, 49, 50, 51, 52, 53, 54, 55, 56, 57, 58, 59, 60, 61, 62, 63, 64, 65, 66, 67, 68, 69, 70, 71, 72, 81, 82, 83, 73, 74, 75, 76, 77, 78, 79, 80, 84, 85, 86, 87, 88, 89, 90, 91, 92, 93, 94, 95, 96] (by decide +kernel) (by decide +kernel)
set_option maxRecDepth 20000 in
theorem gX11_setS_X11_saveState : GoodIn wsX11_setS (wsV RX11 70 RX11 yX11_saveState wsX11_saveState) := goodIn_app (goodIn_of _ (by decide +kernel)) ggX11_setS_X11_saveState
theorem dX11_setS_0 : decode cX11_setS 0 = .ok (.iload_n 1, 1) := by decide +kernel
theorem dX11_setS_1 : decode cX11_setS 1 = .ok (.ifCond .lt 7, 3) := by decide +kernel
theorem dX11_setS_4 : decode cX11_setS 4 = .ok (.iconst 1, 1) := by decide +kernel
theorem dX11_setS_5 : decode cX11_setS 5 = .ok (.goto 4, 3) := by decide +kernel
theorem dX11_setS_8 : decode cX11_setS 8 = .ok (.iconst 0, 1) := by decide +kernel
theorem dX11_setS_9 : decode cX11_setS 9 = .ok (.invokestatic 100, 3) := by decide +kernel
theorem dX11_setS_12 : decode cX11_setS 12 = .ok (.aload_n 0, 1) := by decide +kernel
theorem dX11_setS_13 : decode cX11_setS 13 = .ok (.invokevirtual 70, 3) := by decide +kernel
theorem dX11_setS_16 : decode cX11_setS 16 = .ok (.aload_n 0, 1) := by decide +kernel
theorem dX11_setS_17 : decode cX11_setS 17 = .ok (.getfield 10, 3) := by decide +kernel
theorem dX11_setS_20 : decode cX11_setS 20 = .ok (.getfield 140, 3) := by decide +kernel
theorem dX11_setS_23 : decode cX11_setS 23 = .ok (.istore_n 2, 1) := by decide +kernel
theorem dX11_setS_24 : decode cX11_setS 24 = .ok (.aload_n 0, 1) := by decide +kernel
theorem dX11_setS_25 : decode cX11_setS 25 = .ok (.getfield 10, 3) := by decide +kernel
theorem dX11_setS_28 : decode cX11_setS 28 = .ok (.iload_n 1, 1) := by decide +kernel
theorem dX11_setS_29 : decode cX11_setS 29 = .ok (.putfield 140, 3) := by decide +kernel
theorem dX11_setS_32 : decode cX11_setS 32 = .ok (.iload_n 2, 1) := by decide +kernel
theorem dX11_setS_33 : decode cX11_setS 33 = .ok (.ireturn, 1) := by decide +kernel
set_option maxRecDepth 20000 in
theorem ggX11_click_X2_refusalOfClick : GoodIn wsX11_click wsX2_refusalOfClick := goodIn_r _ [7, 8, 9, 10, 11, 12, 13, 14, 15, 16, 214, 215, 216, 217, 218, 219, 220, 221, 222, 223, 224, 225] (by decide +kernel) (by decide +kernel)
set_option maxRecDepth 20000 in
theorem gX11_click_X2_refusalOfClick : GoodIn wsX11_click (wsV RX11 143 RX2 yX2_refusalOfClick wsX2_refusalOfClick) := goodIn_app (goodIn_of _ (by decide +kernel)) ggX11_click_X2_refusalOfClick
set_option maxRecDepth 20000 in
theorem ggX11_click_X11_refuse : GoodIn wsX11_click wsX11_refuse := goodIn_ca (goodIn_ca (goodIn_ca (goodIn_r _ [19, 20, 21, 22, 23, 24, 25] (by decide +kernel) (by decide +kernel)) (goodIn_sub (fun _ h => List.mem_cons_of_mem _ (List.mem_append_left _ (List.mem_append_left _ (List.mem_append_right _ h)))) (by decide +kernel))) (goodIn_sub (fun _ h => List.mem_cons_of_mem _ (List.mem_append_left _ (List.mem_append_right _ h))) (by decide +kernel))) (goodIn_sub (fun _ h => List.mem_cons_of_mem _ (List.mem_append_right _ h)) (by decide +kernel))
set_option maxRecDepth 20000 in
theorem gX11_click_X11_refuse : GoodIn wsX11_click (va_wsS RX11 66 yX11_refuse wsX11_refuse) := goodIn_app (goodIn_of _ (by decide +kernel)) ggX11_click_X11_refuse
set_option maxRecDepth 20000 in
theorem ggX11_click_X11_saveState : GoodIn wsX11_click wsX11_saveState := goodIn_r _ [29, 30, 1, 31, 32, 33, 34, 35, 36, 37, 38, 39, 40, 41, 42, 43, 44, 45, 46, 6, 47, 48, 49, 50, 51, 9, 52, 53, 54, 55, 56, 57, 58, 59, 60, 61, 62, 63, 64, 65, 66, 67, 68, 69, 70, 71, 72, 206, 207, 208, 209, 210, 211, 212, 213, 226, 227, 228, 214, 215, 216, 217, 218, 219, 220, 221, 222, 223, 224, 225, 229, 230, 231, 232, 233, 234, 235, 236, 237] (by decide +kernel) (by decide +kernel)
set_option maxRecDepth 20000 in
theorem gX11_click_X11_saveState : GoodIn wsX11_click (wsV RX11 70 RX11 yX11_saveState wsX11_saveState) := goodIn_app (goodIn_of _ (by decide +kernel)) ggX11_click_X11_saveState
set_option maxRecDepth 20000 in
theorem ggX11_click_X6_hearClick : GoodIn wsX11_click wsX6_hearClick := goodIn_r _ [77, 78, 79, 80, 81, 82, 83, 84, 85, 86, 87, 88, 89, 90, 91, 92, 93, 6, 94, 9, 53, 10, 95, 96, 97, 58, 98, 66, 99, 100, 60, 101, 102, 103, 104, 105, 41, 42, 43, 106, 107, 108, 109, 110, 111, 112, 113, 114, 115, 116, 117, 118, 119, 120, 121, 122, 123, 124, 125, 126, 127, 128, 129, 130, 131, 132, 133, 134, 52, 135, 136, 137, 138, 139, 140, 141, 142, 143, 144, 145, 146, 147, 148, 149, 150, 151, 152, 153, 154, 155, 156, 54, 157, 158, 159, 160, 161, 162, 163, 164, 165, 166, 167, 168, 169, 170, 171, 172, 173, 174, 175, 76, 176, 177, 178, 179, 180, 181, 182, 183, 51, 184, 185, 186, 187, 188, 189, 190, 191, 192, 193, 194, 195, 196, 197, 198, 199, 200, 201, 202, 203, 204, 205, 214, 215, 216, 217, 218, 219, 220, 221, 222, 223, 224, 225, 238, 239] (by decide +kernel) (by decide +kernel)
set_option maxRecDepth 20000 in
theorem gX11_click_X6_hearClick : GoodIn wsX11_click (wsV RX11 146 RX6 yX6_hearClick wsX6_hearClick) := goodIn_app (goodIn_of _ (by decide +kernel)) ggX11_click_X6_hearClick
theorem dX11_click_0 : decode cX11_click 0 = .ok (.aload_n 0, 1) := by decide +kernel
theorem dX11_click_1 : decode cX11_click 1 = .ok (.getfield 10, 3) := by decide +kernel
theorem dX11_click_4 : decode cX11_click 4 = .ok (.iload_n 1, 1) := by decide +kernel
theorem dX11_click_5 : decode cX11_click 5 = .ok (.iload_n 2, 1) := by decide +kernel
theorem dX11_click_6 : decode cX11_click 6 = .ok (.iload_n 3, 1) := by decide +kernel
theorem dX11_click_7 : decode cX11_click 7 = .ok (.invokevirtual 143, 3) := by decide +kernel
theorem dX11_click_10 : decode cX11_click 10 = .ok (.invokestatic 66, 3) := by decide +kernel
theorem dX11_click_13 : decode cX11_click 13 = .ok (.aload_n 0, 1) := by decide +kernel
theorem dX11_click_14 : decode cX11_click 14 = .ok (.invokevirtual 70, 3) := by decide +kernel
theorem dX11_click_17 : decode cX11_click 17 = .ok (.aload_n 0, 1) := by decide +kernel
theorem dX11_click_18 : decode cX11_click 18 = .ok (.getfield 26, 3) := by decide +kernel
theorem dX11_click_21 : decode cX11_click 21 = .ok (.aload_n 0, 1) := by decide +kernel
theorem dX11_click_22 : decode cX11_click 22 = .ok (.getfield 10, 3) := by decide +kernel
theorem dX11_click_25 : decode cX11_click 25 = .ok (.iload_n 1, 1) := by decide +kernel
theorem dX11_click_26 : decode cX11_click 26 = .ok (.iload_n 2, 1) := by decide +kernel
theorem dX11_click_27 : decode cX11_click 27 = .ok (.iload_n 3, 1) := by decide +kernel
theorem dX11_click_28 : decode cX11_click 28 = .ok (.invokevirtual 146, 3) := by decide +kernel
theorem dX11_click_31 : decode cX11_click 31 = .ok (.ireturn, 1) := by decide +kernel
set_option maxRecDepth 20000 in
theorem ggX11_calibrate_X2_refusalOfClick : GoodIn wsX11_calibrate wsX2_refusalOfClick := goodIn_r _ [7, 8, 9, 10, 11, 12, 13, 14, 15, 16, 216, 217, 218, 219, 220, 221, 222, 223, 224, 225, 226, 227] (by decide +kernel) (by decide +kernel)
set_option maxRecDepth 20000 in
theorem gX11_calibrate_X2_refusalOfClick : GoodIn wsX11_calibrate (wsV RX11 143 RX2 yX2_refusalOfClick wsX2_refusalOfClick) := goodIn_app (goodIn_of _ (by decide +kernel)) ggX11_calibrate_X2_refusalOfClick
set_option maxRecDepth 20000 in
theorem ggX11_calibrate_X11_refuse : GoodIn wsX11_calibrate wsX11_refuse := goodIn_ca (goodIn_ca (goodIn_ca (goodIn_r _ [19, 20, 21, 22, 23, 24, 25] (by decide +kernel) (by decide +kernel)) (goodIn_sub (fun _ h => List.mem_cons_of_mem _ (List.mem_append_left _ (List.mem_append_left _ (List.mem_append_right _ h)))) (by decide +kernel))) (goodIn_sub (fun _ h => List.mem_cons_of_mem _ (List.mem_append_left _ (List.mem_append_right _ h))) (by decide +kernel))) (goodIn_sub (fun _ h => List.mem_cons_of_mem _ (List.mem_append_right _ h)) (by decide +kernel))
set_option maxRecDepth 20000 in
theorem gX11_calibrate_X11_refuse : GoodIn wsX11_calibrate (va_wsS RX11 66 yX11_refuse wsX11_refuse) := goodIn_app (goodIn_of _ (by decide +kernel)) ggX11_calibrate_X11_refuse
set_option maxRecDepth 20000 in
theorem ggX11_calibrate_X11_saveState : GoodIn wsX11_calibrate wsX11_saveState := goodIn_r _ [29, 30, 1, 31, 32, 33, 34, 35, 36, 37, 38, 39, 40, 41, 42, 43, 44, 45, 46, 6, 47, 48, 49, 50, 51, 9, 52, 53, 54, 55, 56, 57, 58, 59, 60, 61, 62, 63, 64, 65, 66, 67, 68, 69, 70, 71, 72, 208, 209, 210, 211, 212, 213, 214, 215, 228, 229, 230, 216, 217, 218, 219, 220, 221, 222, 223, 224, 225, 226, 227, 231, 232, 233, 234, 235, 236, 237, 238, 239] (by decide +kernel) (by decide +kernel)
set_option maxRecDepth 20000 in
theorem gX11_calibrate_X11_saveState : GoodIn wsX11_calibrate (wsV RX11 70 RX11 yX11_saveState wsX11_saveState) := goodIn_app (goodIn_of _ (by decide +kernel)) ggX11_calibrate_X11_saveState
set_option maxRecDepth 20000 in
theorem ggX11_calibrate_X6_hearKnownClick : GoodIn wsX11_calibrate wsX6_hearKnownClick := goodIn_r _ [77, 78, 79, 80, 81, 82, 83, 84, 58, 85, 66, 86, 87, 60, 88, 89, 90, 91, 92, 93, 94, 95, 96, 97, 98, 99, 100, 101, 102, 103, 6, 104, 9, 53, 10, 105, 106, 107, 108, 109, 110, 41, 42, 43, 111, 112, 113, 114, 115, 116, 117, 118, 119, 120, 121, 122, 123, 124, 125, 126, 127, 128, 129, 130, 131, 132, 133, 134, 135, 136, 137, 138, 139, 52, 140, 141, 142, 143, 144, 145, 146, 147, 148, 149, 150, 151, 152, 153, 154, 155, 156, 157, 158, 54, 159, 160, 161, 162, 163, 164, 165, 166, 167, 168, 169, 170, 171, 172, 173, 174, 175, 176, 177, 76, 178, 179, 180, 181, 182, 183, 184, 185, 51, 186, 187, 188, 189, 190, 191, 192, 193, 194, 195, 196, 197, 198, 199, 200, 201, 202, 203, 204, 205, 206, 207, 216, 217, 218, 219, 220, 221, 222, 223, 224, 225, 226, 227, 240, 241] (by decide +kernel) (by decide +kernel)
set_option maxRecDepth 20000 in
theorem gX11_calibrate_X6_hearKnownClick : GoodIn wsX11_calibrate (wsV RX11 150 RX6 yX6_hearKnownClick wsX6_hearKnownClick) := goodIn_app (goodIn_of _ (by decide +kernel)) ggX11_calibrate_X6_hearKnownClick
theorem dX11_calibrate_0 : decode cX11_calibrate 0 = .ok (.aload_n 0, 1) := by decide +kernel
theorem dX11_calibrate_1 : decode cX11_calibrate 1 = .ok (.getfield 10, 3) := by decide +kernel
theorem dX11_calibrate_4 : decode cX11_calibrate 4 = .ok (.iload_n 1, 1) := by decide +kernel
theorem dX11_calibrate_5 : decode cX11_calibrate 5 = .ok (.iload_n 2, 1) := by decide +kernel
theorem dX11_calibrate_6 : decode cX11_calibrate 6 = .ok (.iload_n 3, 1) := by decide +kernel
theorem dX11_calibrate_7 : decode cX11_calibrate 7 = .ok (.invokevirtual 143, 3) := by decide +kernel
theorem dX11_calibrate_10 : decode cX11_calibrate 10 = .ok (.invokestatic 66, 3) := by decide +kernel
theorem dX11_calibrate_13 : decode cX11_calibrate 13 = .ok (.aload_n 0, 1) := by decide +kernel
theorem dX11_calibrate_14 : decode cX11_calibrate 14 = .ok (.invokevirtual 70, 3) := by decide +kernel
theorem dX11_calibrate_17 : decode cX11_calibrate 17 = .ok (.aload_n 0, 1) := by decide +kernel
theorem dX11_calibrate_18 : decode cX11_calibrate 18 = .ok (.getfield 26, 3) := by decide +kernel
theorem dX11_calibrate_21 : decode cX11_calibrate 21 = .ok (.aload_n 0, 1) := by decide +kernel
theorem dX11_calibrate_22 : decode cX11_calibrate 22 = .ok (.getfield 10, 3) := by decide +kernel
theorem dX11_calibrate_25 : decode cX11_calibrate 25 = .ok (.iload_n 1, 1) := by decide +kernel
theorem dX11_calibrate_26 : decode cX11_calibrate 26 = .ok (.iload_n 2, 1) := by decide +kernel
theorem dX11_calibrate_27 : decode cX11_calibrate 27 = .ok (.iload_n 3, 1) := by decide +kernel
theorem dX11_calibrate_28 : decode cX11_calibrate 28 = .ok (.invokevirtual 150, 3) := by decide +kernel
theorem dX11_calibrate_31 : decode cX11_calibrate 31 = .ok (.ireturn, 1) := by decide +kernel
set_option maxRecDepth 20000 in
theorem ggX11_note_X9_has : GoodIn wsX11_note wsX9_has := goodIn_r _ [7, 8, 45, 46, 47, 48] (by decide +kernel) (by decide +kernel)
set_option maxRecDepth 20000 in
theorem gX11_note_X9_has : GoodIn wsX11_note (wsV RX11 86 RX9 yX9_has wsX9_has) := goodIn_app (goodIn_of _ (by decide +kernel)) ggX11_note_X9_has
set_option maxRecDepth 20000 in
theorem ggX11_note_X11_requireThere : GoodIn wsX11_note wsX11_requireThere := goodIn_ca (goodIn_ca (goodIn_ca (goodIn_r _ [12, 13, 14, 11, 15, 16, 17, 18, 19, 20, 21] (by decide +kernel) (by decide +kernel)) (goodIn_sub (fun _ h => List.mem_cons_of_mem _ (List.mem_append_left _ (List.mem_append_left _ (List.mem_append_right _ h)))) (by decide +kernel))) (goodIn_sub (fun _ h => List.mem_cons_of_mem _ (List.mem_append_left _ (List.mem_append_right _ h))) (by decide +kernel))) (goodIn_sub (fun _ h => List.mem_cons_of_mem _ (List.mem_append_right _ h)) (by decide +kernel))
set_option maxRecDepth 20000 in
theorem gX11_note_X11_requireThere : GoodIn wsX11_note (va_wsS RX11 92 yX11_requireThere wsX11_requireThere) := goodIn_app (goodIn_of _ (by decide +kernel)) ggX11_note_X11_requireThere
set_option maxRecDepth 20000 in
theorem ggX11_note_X9_at : GoodIn wsX11_note wsX9_at := goodIn_r _ [25, 8, 26, 27, 28, 45, 46, 47, 48] (by decide +kernel) (by decide +kernel)
set_option maxRecDepth 20000 in
theorem gX11_note_X9_at : GoodIn wsX11_note (wsV RX11 103 RX9 yX9_at wsX9_at) := goodIn_app (goodIn_of _ (by decide +kernel)) ggX11_note_X9_at
theorem dX11_note_0 : decode cX11_note 0 = .ok (.aload_n 0, 1) := by decide +kernel
theorem dX11_note_1 : decode cX11_note 1 = .ok (.getfield 10, 3) := by decide +kernel
theorem dX11_note_4 : decode cX11_note 4 = .ok (.getfield 82, 3) := by decide +kernel
theorem dX11_note_7 : decode cX11_note 7 = .ok (.iload_n 1, 1) := by decide +kernel
theorem dX11_note_8 : decode cX11_note 8 = .ok (.invokevirtual 86, 3) := by decide +kernel
theorem dX11_note_11 : decode cX11_note 11 = .ok (.invokestatic 92, 3) := by decide +kernel
theorem dX11_note_14 : decode cX11_note 14 = .ok (.aload_n 0, 1) := by decide +kernel
theorem dX11_note_15 : decode cX11_note 15 = .ok (.getfield 10, 3) := by decide +kernel
theorem dX11_note_18 : decode cX11_note 18 = .ok (.getfield 82, 3) := by decide +kernel
theorem dX11_note_21 : decode cX11_note 21 = .ok (.iload_n 1, 1) := by decide +kernel
theorem dX11_note_22 : decode cX11_note 22 = .ok (.iconst 4, 1) := by decide +kernel
theorem dX11_note_23 : decode cX11_note 23 = .ok (.invokevirtual 103, 3) := by decide +kernel
theorem dX11_note_26 : decode cX11_note 26 = .ok (.ireturn, 1) := by decide +kernel
set_option maxRecDepth 20000 in
theorem ggX11_heard_X9_has : GoodIn wsX11_heard wsX9_has := goodIn_r _ [7, 8, 51, 52, 53, 54] (by decide +kernel) (by decide +kernel)
set_option maxRecDepth 20000 in
theorem gX11_heard_X9_has : GoodIn wsX11_heard (wsV RX11 86 RX9 yX9_has wsX9_has) := goodIn_app (goodIn_of _ (by decide +kernel)) ggX11_heard_X9_has
set_option maxRecDepth 20000 in
theorem ggX11_heard_X11_requireThere : GoodIn wsX11_heard wsX11_requireThere := goodIn_ca (goodIn_ca (goodIn_ca (goodIn_r _ [12, 13, 14, 11, 15, 16, 17, 18, 19, 20, 21] (by decide +kernel) (by decide +kernel)) (goodIn_sub (fun _ h => List.mem_cons_of_mem _ (List.mem_append_left _ (List.mem_append_left _ (List.mem_append_right _ h)))) (by decide +kernel))) (goodIn_sub (fun _ h => List.mem_cons_of_mem _ (List.mem_append_left _ (List.mem_append_right _ h))) (by decide +kernel))) (goodIn_sub (fun _ h => List.mem_cons_of_mem _ (List.mem_append_right _ h)) (by decide +kernel))
set_option maxRecDepth 20000 in
theorem gX11_heard_X11_requireThere : GoodIn wsX11_heard (va_wsS RX11 92 yX11_requireThere wsX11_requireThere) := goodIn_app (goodIn_of _ (by decide +kernel)) ggX11_heard_X11_requireThere
set_option maxRecDepth 20000 in
theorem ggX11_heard_X11_isBetween : GoodIn wsX11_heard wsX11_isBetween := goodIn_r _ [24] (by decide +kernel) (by decide +kernel)
set_option maxRecDepth 20000 in
theorem gX11_heard_X11_isBetween : GoodIn wsX11_heard (va_wsS RX11 96 yX11_isBetween wsX11_isBetween) := goodIn_app (goodIn_of _ (by decide +kernel)) ggX11_heard_X11_isBetween
set_option maxRecDepth 20000 in
theorem ggX11_heard_X11_requireRange : GoodIn wsX11_heard wsX11_requireRange := goodIn_ca (goodIn_ca (goodIn_ca (goodIn_r _ [27, 13, 14, 11, 15, 16, 17, 18, 19, 20, 21] (by decide +kernel) (by decide +kernel)) (goodIn_sub (fun _ h => List.mem_cons_of_mem _ (List.mem_append_left _ (List.mem_append_left _ (List.mem_append_right _ h)))) (by decide +kernel))) (goodIn_sub (fun _ h => List.mem_cons_of_mem _ (List.mem_append_left _ (List.mem_append_right _ h))) (by decide +kernel))) (goodIn_sub (fun _ h => List.mem_cons_of_mem _ (List.mem_append_right _ h)) (by decide +kernel))
set_option maxRecDepth 20000 in
theorem gX11_heard_X11_requireRange : GoodIn wsX11_heard (va_wsS RX11 100 yX11_requireRange wsX11_requireRange) := goodIn_app (goodIn_of _ (by decide +kernel)) ggX11_heard_X11_requireRange
set_option maxRecDepth 20000 in
theorem ggX11_heard_X9_at : GoodIn wsX11_heard wsX9_at := goodIn_r _ [31, 8, 32, 33, 34, 51, 52, 53, 54] (by decide +kernel) (by decide +kernel)
set_option maxRecDepth 20000 in
theorem gX11_heard_X9_at : GoodIn wsX11_heard (wsV RX11 103 RX9 yX9_at wsX9_at) := goodIn_app (goodIn_of _ (by decide +kernel)) ggX11_heard_X9_at
theorem dX11_heard_0 : decode cX11_heard 0 = .ok (.aload_n 0, 1) := by decide +kernel
theorem dX11_heard_1 : decode cX11_heard 1 = .ok (.getfield 10, 3) := by decide +kernel
theorem dX11_heard_4 : decode cX11_heard 4 = .ok (.getfield 82, 3) := by decide +kernel
theorem dX11_heard_7 : decode cX11_heard 7 = .ok (.iload_n 1, 1) := by decide +kernel
theorem dX11_heard_8 : decode cX11_heard 8 = .ok (.invokevirtual 86, 3) := by decide +kernel
theorem dX11_heard_11 : decode cX11_heard 11 = .ok (.invokestatic 92, 3) := by decide +kernel
theorem dX11_heard_14 : decode cX11_heard 14 = .ok (.iload_n 2, 1) := by decide +kernel
theorem dX11_heard_15 : decode cX11_heard 15 = .ok (.iconst 0, 1) := by decide +kernel
theorem dX11_heard_16 : decode cX11_heard 16 = .ok (.iconst 3, 1) := by decide +kernel
theorem dX11_heard_17 : decode cX11_heard 17 = .ok (.invokestatic 96, 3) := by decide +kernel
theorem dX11_heard_20 : decode cX11_heard 20 = .ok (.invokestatic 100, 3) := by decide +kernel
theorem dX11_heard_23 : decode cX11_heard 23 = .ok (.aload_n 0, 1) := by decide +kernel
theorem dX11_heard_24 : decode cX11_heard 24 = .ok (.getfield 10, 3) := by decide +kernel
theorem dX11_heard_27 : decode cX11_heard 27 = .ok (.getfield 82, 3) := by decide +kernel
theorem dX11_heard_30 : decode cX11_heard 30 = .ok (.iload_n 1, 1) := by decide +kernel
theorem dX11_heard_31 : decode cX11_heard 31 = .ok (.iconst 5, 1) := by decide +kernel
theorem dX11_heard_32 : decode cX11_heard 32 = .ok (.iload_n 2, 1) := by decide +kernel
theorem dX11_heard_33 : decode cX11_heard 33 = .ok (.iadd, 1) := by decide +kernel
theorem dX11_heard_34 : decode cX11_heard 34 = .ok (.invokevirtual 103, 3) := by decide +kernel
theorem dX11_heard_37 : decode cX11_heard 37 = .ok (.ireturn, 1) := by decide +kernel
set_option maxRecDepth 20000 in
theorem ggX11_arrivals_X9_has : GoodIn wsX11_arrivals wsX9_has := goodIn_r _ [10, 11, 149, 150, 151, 152] (by decide +kernel) (by decide +kernel)
set_option maxRecDepth 20000 in
theorem gX11_arrivals_X9_has : GoodIn wsX11_arrivals (wsV RX11 86 RX9 yX9_has wsX9_has) := goodIn_app (goodIn_of _ (by decide +kernel)) ggX11_arrivals_X9_has
set_option maxRecDepth 20000 in
theorem ggX11_arrivals_X11_requireThere : GoodIn wsX11_arrivals wsX11_requireThere := goodIn_ca (goodIn_ca (goodIn_ca (goodIn_r _ [15, 16, 17, 14, 18, 19, 20, 21, 22, 23, 24] (by decide +kernel) (by decide +kernel)) (goodIn_sub (fun _ h => List.mem_cons_of_mem _ (List.mem_append_left _ (List.mem_append_left _ (List.mem_append_right _ h)))) (by decide +kernel))) (goodIn_sub (fun _ h => List.mem_cons_of_mem _ (List.mem_append_left _ (List.mem_append_right _ h))) (by decide +kernel))) (goodIn_sub (fun _ h => List.mem_cons_of_mem _ (List.mem_append_right _ h)) (by decide +kernel))
set_option maxRecDepth 20000 in
theorem gX11_arrivals_X11_requireThere : GoodIn wsX11_arrivals (va_wsS RX11 92 yX11_requireThere wsX11_requireThere) := goodIn_app (goodIn_of _ (by decide +kernel)) ggX11_arrivals_X11_requireThere
set_option maxRecDepth 20000 in
theorem ggX11_arrivals_X11_isClickPlace : GoodIn wsX11_arrivals wsX11_isClickPlace := goodIn_r _ [27, 28, 29, 14, 30] (by decide +kernel) (by decide +kernel)
set_option maxRecDepth 20000 in
theorem gX11_arrivals_X11_isClickPlace : GoodIn wsX11_arrivals (va_wsS RX11 153 yX11_isClickPlace wsX11_isClickPlace) := goodIn_app (goodIn_of _ (by decide +kernel)) ggX11_arrivals_X11_isClickPlace
set_option maxRecDepth 20000 in
theorem ggX11_arrivals_X11_requireRange : GoodIn wsX11_arrivals wsX11_requireRange := goodIn_ca (goodIn_ca (goodIn_ca (goodIn_r _ [33, 16, 17, 14, 18, 19, 20, 21, 22, 23, 24] (by decide +kernel) (by decide +kernel)) (goodIn_sub (fun _ h => List.mem_cons_of_mem _ (List.mem_append_left _ (List.mem_append_left _ (List.mem_append_right _ h)))) (by decide +kernel))) (goodIn_sub (fun _ h => List.mem_cons_of_mem _ (List.mem_append_left _ (List.mem_append_right _ h))) (by decide +kernel))) (goodIn_sub (fun _ h => List.mem_cons_of_mem _ (List.mem_append_right _ h)) (by decide +kernel))
set_option maxRecDepth 20000 in
theorem gX11_arrivals_X11_requireRange : GoodIn wsX11_arrivals (va_wsS RX11 100 yX11_requireRange wsX11_requireRange) := goodIn_app (goodIn_of _ (by decide +kernel)) ggX11_arrivals_X11_requireRange
set_option maxRecDepth 20000 in
theorem ggX11_arrivals_X1_collect : GoodIn wsX11_arrivals wsX1_collect := goodIn_r _ [38, 39, 40, 41, 42, 43, 44, 45, 46, 47, 48, 49, 50, 51, 52, 53, 9, 54, 11, 55, 56, 57, 58, 59, 60, 61, 62, 63, 64, 65, 66, 67, 68, 69, 70, 71, 72, 73, 74, 75, 76, 77, 78, 79, 80, 81, 82, 83, 84, 85, 37, 86, 87, 88, 89, 90, 91, 92, 93, 94, 95, 96, 7, 8, 10, 97, 98, 99, 100, 101, 102, 103, 104, 105, 106, 107, 108, 109, 110, 111, 112, 113, 114, 115, 116, 117, 118, 119, 120, 121, 122, 123, 124, 125, 126, 127, 128, 129, 130, 131, 148, 149, 150, 151, 152, 140, 141, 142, 143, 144, 145, 146, 147] (by decide +kernel) (by decide +kernel)
set_option maxRecDepth 20000 in
theorem gX11_arrivals_X1_collect : GoodIn wsX11_arrivals (wsV RX11 157 RX1 yX1_collect wsX1_collect) := goodIn_app (goodIn_of _ (by decide +kernel)) ggX11_arrivals_X1_collect
theorem dX11_arrivals_0 : decode cX11_arrivals 0 = .ok (.aload_n 0, 1) := by decide +kernel
theorem dX11_arrivals_1 : decode cX11_arrivals 1 = .ok (.getfield 10, 3) := by decide +kernel
theorem dX11_arrivals_4 : decode cX11_arrivals 4 = .ok (.getfield 82, 3) := by decide +kernel
theorem dX11_arrivals_7 : decode cX11_arrivals 7 = .ok (.iload_n 3, 1) := by decide +kernel
theorem dX11_arrivals_8 : decode cX11_arrivals 8 = .ok (.invokevirtual 86, 3) := by decide +kernel
theorem dX11_arrivals_11 : decode cX11_arrivals 11 = .ok (.invokestatic 92, 3) := by decide +kernel
theorem dX11_arrivals_14 : decode cX11_arrivals 14 = .ok (.iload_n 1, 1) := by decide +kernel
theorem dX11_arrivals_15 : decode cX11_arrivals 15 = .ok (.iload_n 2, 1) := by decide +kernel
theorem dX11_arrivals_16 : decode cX11_arrivals 16 = .ok (.invokestatic 153, 3) := by decide +kernel
theorem dX11_arrivals_19 : decode cX11_arrivals 19 = .ok (.invokestatic 100, 3) := by decide +kernel
theorem dX11_arrivals_22 : decode cX11_arrivals 22 = .ok (.aload_n 0, 1) := by decide +kernel
theorem dX11_arrivals_23 : decode cX11_arrivals 23 = .ok (.getfield 19, 3) := by decide +kernel
theorem dX11_arrivals_26 : decode cX11_arrivals 26 = .ok (.aload_n 0, 1) := by decide +kernel
theorem dX11_arrivals_27 : decode cX11_arrivals 27 = .ok (.getfield 10, 3) := by decide +kernel
theorem dX11_arrivals_30 : decode cX11_arrivals 30 = .ok (.iload_n 1, 1) := by decide +kernel
theorem dX11_arrivals_31 : decode cX11_arrivals 31 = .ok (.iload_n 2, 1) := by decide +kernel
theorem dX11_arrivals_32 : decode cX11_arrivals 32 = .ok (.iload_n 3, 1) := by decide +kernel
theorem dX11_arrivals_33 : decode cX11_arrivals 33 = .ok (.invokevirtual 157, 3) := by decide +kernel
theorem dX11_arrivals_36 : decode cX11_arrivals 36 = .ok (.aload_n 0, 1) := by decide +kernel
theorem dX11_arrivals_37 : decode cX11_arrivals 37 = .ok (.getfield 19, 3) := by decide +kernel
theorem dX11_arrivals_40 : decode cX11_arrivals 40 = .ok (.getfield 161, 3) := by decide +kernel
theorem dX11_arrivals_43 : decode cX11_arrivals 43 = .ok (.getfield 131, 3) := by decide +kernel
theorem dX11_arrivals_46 : decode cX11_arrivals 46 = .ok (.ireturn, 1) := by decide +kernel
set_option maxRecDepth 20000 in
theorem ggX11_arrival_X9_has : GoodIn wsX11_arrival wsX9_has := goodIn_r _ [9, 10, 149, 150, 151, 152] (by decide +kernel) (by decide +kernel)
set_option maxRecDepth 20000 in
theorem gX11_arrival_X9_has : GoodIn wsX11_arrival (wsV RX11 86 RX9 yX9_has wsX9_has) := goodIn_app (goodIn_of _ (by decide +kernel)) ggX11_arrival_X9_has
set_option maxRecDepth 20000 in
theorem ggX11_arrival_X11_requireThere : GoodIn wsX11_arrival wsX11_requireThere := goodIn_ca (goodIn_ca (goodIn_ca (goodIn_r _ [14, 15, 16, 13, 17, 18, 19, 20, 21, 22, 23] (by decide +kernel) (by decide +kernel)) (goodIn_sub (fun _ h => List.mem_cons_of_mem _ (List.mem_append_left _ (List.mem_append_left _ (List.mem_append_right _ h)))) (by decide +kernel))) (goodIn_sub (fun _ h => List.mem_cons_of_mem _ (List.mem_append_left _ (List.mem_append_right _ h))) (by decide +kernel))) (goodIn_sub (fun _ h => List.mem_cons_of_mem _ (List.mem_append_right _ h)) (by decide +kernel))
set_option maxRecDepth 20000 in
theorem gX11_arrival_X11_requireThere : GoodIn wsX11_arrival (va_wsS RX11 92 yX11_requireThere wsX11_requireThere) := goodIn_app (goodIn_of _ (by decide +kernel)) ggX11_arrival_X11_requireThere
set_option maxRecDepth 20000 in
theorem ggX11_arrival_X11_isClickPlace : GoodIn wsX11_arrival wsX11_isClickPlace := goodIn_r _ [26, 27, 28, 13, 29] (by decide +kernel) (by decide +kernel)
set_option maxRecDepth 20000 in
theorem gX11_arrival_X11_isClickPlace : GoodIn wsX11_arrival (va_wsS RX11 153 yX11_isClickPlace wsX11_isClickPlace) := goodIn_app (goodIn_of _ (by decide +kernel)) ggX11_arrival_X11_isClickPlace
set_option maxRecDepth 20000 in
theorem ggX11_arrival_X11_isBetween : GoodIn wsX11_arrival wsX11_isBetween := goodIn_r _ [29] (by decide +kernel) (by decide +kernel)
set_option maxRecDepth 20000 in
theorem gX11_arrival_X11_isBetween : GoodIn wsX11_arrival (va_wsS RX11 96 yX11_isBetween wsX11_isBetween) := goodIn_app (goodIn_of _ (by decide +kernel)) ggX11_arrival_X11_isBetween
set_option maxRecDepth 20000 in
theorem ggX11_arrival_X11_requireRange : GoodIn wsX11_arrival wsX11_requireRange := goodIn_ca (goodIn_ca (goodIn_ca (goodIn_r _ [32, 15, 16, 13, 17, 18, 19, 20, 21, 22, 23] (by decide +kernel) (by decide +kernel)) (goodIn_sub (fun _ h => List.mem_cons_of_mem _ (List.mem_append_left _ (List.mem_append_left _ (List.mem_append_right _ h)))) (by decide +kernel))) (goodIn_sub (fun _ h => List.mem_cons_of_mem _ (List.mem_append_left _ (List.mem_append_right _ h))) (by decide +kernel))) (goodIn_sub (fun _ h => List.mem_cons_of_mem _ (List.mem_append_right _ h)) (by decide +kernel))
set_option maxRecDepth 20000 in
theorem gX11_arrival_X11_requireRange : GoodIn wsX11_arrival (va_wsS RX11 100 yX11_requireRange wsX11_requireRange) := goodIn_app (goodIn_of _ (by decide +kernel)) ggX11_arrival_X11_requireRange
set_option maxRecDepth 20000 in
theorem ggX11_arrival_X1_collect : GoodIn wsX11_arrival wsX1_collect := goodIn_r _ [37, 38, 39, 40, 41, 42, 43, 44, 45, 46, 47, 48, 49, 50, 51, 52, 8, 53, 10, 54, 55, 56, 57, 58, 59, 60, 61, 62, 63, 64, 65, 66, 67, 68, 69, 70, 71, 72, 73, 74, 75, 76, 77, 78, 79, 80, 81, 82, 83, 84, 36, 85, 86, 87, 88, 89, 90, 91, 92, 93, 94, 95, 6, 7, 9, 96, 97, 98, 99, 100, 101, 102, 103, 104, 105, 106, 107, 108, 109, 110, 111, 112, 113, 114, 115, 116, 117, 118, 119, 120, 121, 122, 123, 124, 125, 126, 127, 128, 129, 130, 148, 149, 150, 151, 152, 140, 141, 142, 143, 144, 145, 146, 147] (by decide +kernel) (by decide +kernel)
set_option maxRecDepth 20000 in
theorem gX11_arrival_X1_collect : GoodIn wsX11_arrival (wsV RX11 157 RX1 yX1_collect wsX1_collect) := goodIn_app (goodIn_of _ (by decide +kernel)) ggX11_arrival_X1_collect
set_option maxRecDepth 20000 in
theorem ggX11_arrival_X9_at : GoodIn wsX11_arrival wsX9_at := goodIn_r _ [53, 10, 54, 55, 56, 149, 150, 151, 152] (by decide +kernel) (by decide +kernel)
set_option maxRecDepth 20000 in
theorem gX11_arrival_X9_at : GoodIn wsX11_arrival (wsV RX11 103 RX9 yX9_at wsX9_at) := goodIn_app (goodIn_of _ (by decide +kernel)) ggX11_arrival_X9_at
theorem dX11_arrival_0 : decode cX11_arrival 0 = .ok (.aload_n 0, 1) := by decide +kernel
theorem dX11_arrival_1 : decode cX11_arrival 1 = .ok (.getfield 10, 3) := by decide +kernel
theorem dX11_arrival_4 : decode cX11_arrival 4 = .ok (.getfield 82, 3) := by decide +kernel
theorem dX11_arrival_7 : decode cX11_arrival 7 = .ok (.iload_n 3, 1) := by decide +kernel
theorem dX11_arrival_8 : decode cX11_arrival 8 = .ok (.invokevirtual 86, 3) := by decide +kernel
theorem dX11_arrival_11 : decode cX11_arrival 11 = .ok (.invokestatic 92, 3) := by decide +kernel
theorem dX11_arrival_14 : decode cX11_arrival 14 = .ok (.iload_n 1, 1) := by decide +kernel
theorem dX11_arrival_15 : decode cX11_arrival 15 = .ok (.iload_n 2, 1) := by decide +kernel
theorem dX11_arrival_16 : decode cX11_arrival 16 = .ok (.invokestatic 153, 3) := by decide +kernel
theorem dX11_arrival_19 : decode cX11_arrival 19 = .ok (.ifCond .eq 22, 3) := by decide +kernel
theorem dX11_arrival_22 : decode cX11_arrival 22 = .ok (.iload 4, 2) := by decide +kernel
theorem dX11_arrival_24 : decode cX11_arrival 24 = .ok (.ifCond .lt 17, 3) := by decide +kernel
theorem dX11_arrival_27 : decode cX11_arrival 27 = .ok (.iload 5, 2) := by decide +kernel
theorem dX11_arrival_29 : decode cX11_arrival 29 = .ok (.iconst 0, 1) := by decide +kernel
theorem dX11_arrival_30 : decode cX11_arrival 30 = .ok (.iconst 3, 1) := by decide +kernel
theorem dX11_arrival_31 : decode cX11_arrival 31 = .ok (.invokestatic 96, 3) := by decide +kernel
theorem dX11_arrival_34 : decode cX11_arrival 34 = .ok (.ifCond .eq 7, 3) := by decide +kernel
theorem dX11_arrival_37 : decode cX11_arrival 37 = .ok (.iconst 1, 1) := by decide +kernel
theorem dX11_arrival_38 : decode cX11_arrival 38 = .ok (.goto 4, 3) := by decide +kernel
theorem dX11_arrival_41 : decode cX11_arrival 41 = .ok (.iconst 0, 1) := by decide +kernel
theorem dX11_arrival_42 : decode cX11_arrival 42 = .ok (.invokestatic 100, 3) := by decide +kernel
theorem dX11_arrival_45 : decode cX11_arrival 45 = .ok (.aload_n 0, 1) := by decide +kernel
theorem dX11_arrival_46 : decode cX11_arrival 46 = .ok (.getfield 19, 3) := by decide +kernel
theorem dX11_arrival_49 : decode cX11_arrival 49 = .ok (.aload_n 0, 1) := by decide +kernel
theorem dX11_arrival_50 : decode cX11_arrival 50 = .ok (.getfield 10, 3) := by decide +kernel
theorem dX11_arrival_53 : decode cX11_arrival 53 = .ok (.iload_n 1, 1) := by decide +kernel
theorem dX11_arrival_54 : decode cX11_arrival 54 = .ok (.iload_n 2, 1) := by decide +kernel
theorem dX11_arrival_55 : decode cX11_arrival 55 = .ok (.iload_n 3, 1) := by decide +kernel
theorem dX11_arrival_56 : decode cX11_arrival 56 = .ok (.invokevirtual 157, 3) := by decide +kernel
theorem dX11_arrival_59 : decode cX11_arrival 59 = .ok (.aload_n 0, 1) := by decide +kernel
theorem dX11_arrival_60 : decode cX11_arrival 60 = .ok (.getfield 19, 3) := by decide +kernel
theorem dX11_arrival_63 : decode cX11_arrival 63 = .ok (.getfield 161, 3) := by decide +kernel
theorem dX11_arrival_66 : decode cX11_arrival 66 = .ok (.iload 4, 2) := by decide +kernel
theorem dX11_arrival_68 : decode cX11_arrival 68 = .ok (.iload 5, 2) := by decide +kernel
theorem dX11_arrival_70 : decode cX11_arrival 70 = .ok (.invokevirtual 103, 3) := by decide +kernel
theorem dX11_arrival_73 : decode cX11_arrival 73 = .ok (.ireturn, 1) := by decide +kernel
set_option maxRecDepth 20000 in
theorem ggX11_delay_X9_has : GoodIn wsX11_delay wsX9_has := goodIn_r _ [8, 9, 57, 58, 59, 60] (by decide +kernel) (by decide +kernel)
set_option maxRecDepth 20000 in
theorem gX11_delay_X9_has : GoodIn wsX11_delay (wsV RX11 86 RX9 yX9_has wsX9_has) := goodIn_app (goodIn_of _ (by decide +kernel)) ggX11_delay_X9_has
set_option maxRecDepth 20000 in
theorem ggX11_delay_X11_requireThere : GoodIn wsX11_delay wsX11_requireThere := goodIn_ca (goodIn_ca (goodIn_ca (goodIn_r _ [13, 14, 15, 12, 16, 17, 18, 19, 20, 21, 22] (by decide +kernel) (by decide +kernel)) (goodIn_sub (fun _ h => List.mem_cons_of_mem _ (List.mem_append_left _ (List.mem_append_left _ (List.mem_append_right _ h)))) (by decide +kernel))) (goodIn_sub (fun _ h => List.mem_cons_of_mem _ (List.mem_append_left _ (List.mem_append_right _ h))) (by decide +kernel))) (goodIn_sub (fun _ h => List.mem_cons_of_mem _ (List.mem_append_right _ h)) (by decide +kernel))
set_option maxRecDepth 20000 in
theorem gX11_delay_X11_requireThere : GoodIn wsX11_delay (va_wsS RX11 92 yX11_requireThere wsX11_requireThere) := goodIn_app (goodIn_of _ (by decide +kernel)) ggX11_delay_X11_requireThere
set_option maxRecDepth 20000 in
theorem ggX11_delay_X11_requireRange : GoodIn wsX11_delay wsX11_requireRange := goodIn_ca (goodIn_ca (goodIn_ca (goodIn_r _ [25, 14, 15, 12, 16, 17, 18, 19, 20, 21, 22] (by decide +kernel) (by decide +kernel)) (goodIn_sub (fun _ h => List.mem_cons_of_mem _ (List.mem_append_left _ (List.mem_append_left _ (List.mem_append_right _ h)))) (by decide +kernel))) (goodIn_sub (fun _ h => List.mem_cons_of_mem _ (List.mem_append_left _ (List.mem_append_right _ h))) (by decide +kernel))) (goodIn_sub (fun _ h => List.mem_cons_of_mem _ (List.mem_append_right _ h)) (by decide +kernel))
set_option maxRecDepth 20000 in
theorem gX11_delay_X11_requireRange : GoodIn wsX11_delay (va_wsS RX11 100 yX11_requireRange wsX11_requireRange) := goodIn_app (goodIn_of _ (by decide +kernel)) ggX11_delay_X11_requireRange
set_option maxRecDepth 20000 in
theorem ggX11_delay_X2_hasNoted : GoodIn wsX11_delay wsX2_hasNoted := goodIn_r _ [30, 31, 32, 33, 34, 35, 7, 36, 9, 37, 38, 39, 49, 50, 51, 52, 53, 54, 55, 56, 57, 58, 59, 60] (by decide +kernel) (by decide +kernel)
set_option maxRecDepth 20000 in
theorem gX11_delay_X2_hasNoted : GoodIn wsX11_delay (wsV RX11 164 RX2 yX2_hasNoted wsX2_hasNoted) := goodIn_app (goodIn_of _ (by decide +kernel)) ggX11_delay_X2_hasNoted
set_option maxRecDepth 20000 in
theorem ggX11_delay_X9_at : GoodIn wsX11_delay wsX9_at := goodIn_r _ [36, 9, 37, 38, 39, 57, 58, 59, 60] (by decide +kernel) (by decide +kernel)
set_option maxRecDepth 20000 in
theorem gX11_delay_X9_at : GoodIn wsX11_delay (wsV RX11 103 RX9 yX9_at wsX9_at) := goodIn_app (goodIn_of _ (by decide +kernel)) ggX11_delay_X9_at
theorem dX11_delay_0 : decode cX11_delay 0 = .ok (.aload_n 0, 1) := by decide +kernel
theorem dX11_delay_1 : decode cX11_delay 1 = .ok (.getfield 10, 3) := by decide +kernel
theorem dX11_delay_4 : decode cX11_delay 4 = .ok (.getfield 82, 3) := by decide +kernel
theorem dX11_delay_7 : decode cX11_delay 7 = .ok (.iload_n 1, 1) := by decide +kernel
theorem dX11_delay_8 : decode cX11_delay 8 = .ok (.invokevirtual 86, 3) := by decide +kernel
theorem dX11_delay_11 : decode cX11_delay 11 = .ok (.ifCond .eq 21, 3) := by decide +kernel
theorem dX11_delay_14 : decode cX11_delay 14 = .ok (.aload_n 0, 1) := by decide +kernel
theorem dX11_delay_15 : decode cX11_delay 15 = .ok (.getfield 10, 3) := by decide +kernel
theorem dX11_delay_18 : decode cX11_delay 18 = .ok (.getfield 82, 3) := by decide +kernel
theorem dX11_delay_21 : decode cX11_delay 21 = .ok (.iload_n 2, 1) := by decide +kernel
theorem dX11_delay_22 : decode cX11_delay 22 = .ok (.invokevirtual 86, 3) := by decide +kernel
theorem dX11_delay_25 : decode cX11_delay 25 = .ok (.ifCond .eq 7, 3) := by decide +kernel
theorem dX11_delay_28 : decode cX11_delay 28 = .ok (.iconst 1, 1) := by decide +kernel
theorem dX11_delay_29 : decode cX11_delay 29 = .ok (.goto 4, 3) := by decide +kernel
theorem dX11_delay_32 : decode cX11_delay 32 = .ok (.iconst 0, 1) := by decide +kernel
theorem dX11_delay_33 : decode cX11_delay 33 = .ok (.invokestatic 92, 3) := by decide +kernel
theorem dX11_delay_36 : decode cX11_delay 36 = .ok (.iload_n 1, 1) := by decide +kernel
theorem dX11_delay_37 : decode cX11_delay 37 = .ok (.iload_n 2, 1) := by decide +kernel
theorem dX11_delay_38 : decode cX11_delay 38 = .ok (.if_icmp .eq 7, 3) := by decide +kernel
theorem dX11_delay_41 : decode cX11_delay 41 = .ok (.iconst 1, 1) := by decide +kernel
theorem dX11_delay_42 : decode cX11_delay 42 = .ok (.goto 4, 3) := by decide +kernel
theorem dX11_delay_45 : decode cX11_delay 45 = .ok (.iconst 0, 1) := by decide +kernel
theorem dX11_delay_46 : decode cX11_delay 46 = .ok (.invokestatic 100, 3) := by decide +kernel
theorem dX11_delay_49 : decode cX11_delay 49 = .ok (.aload_n 0, 1) := by decide +kernel
theorem dX11_delay_50 : decode cX11_delay 50 = .ok (.getfield 10, 3) := by decide +kernel
theorem dX11_delay_53 : decode cX11_delay 53 = .ok (.iload_n 1, 1) := by decide +kernel
theorem dX11_delay_54 : decode cX11_delay 54 = .ok (.invokevirtual 164, 3) := by decide +kernel
theorem dX11_delay_57 : decode cX11_delay 57 = .ok (.ifCond .eq 14, 3) := by decide +kernel
theorem dX11_delay_60 : decode cX11_delay 60 = .ok (.aload_n 0, 1) := by decide +kernel
theorem dX11_delay_61 : decode cX11_delay 61 = .ok (.getfield 10, 3) := by decide +kernel
theorem dX11_delay_64 : decode cX11_delay 64 = .ok (.iload_n 2, 1) := by decide +kernel
theorem dX11_delay_65 : decode cX11_delay 65 = .ok (.invokevirtual 164, 3) := by decide +kernel
theorem dX11_delay_68 : decode cX11_delay 68 = .ok (.ifCond .ne 6, 3) := by decide +kernel
theorem dX11_delay_71 : decode cX11_delay 71 = .ok (.ldc 167, 2) := by decide +kernel
theorem dX11_delay_73 : decode cX11_delay 73 = .ok (.ireturn, 1) := by decide +kernel
theorem dX11_delay_74 : decode cX11_delay 74 = .ok (.aload_n 0, 1) := by decide +kernel
theorem dX11_delay_75 : decode cX11_delay 75 = .ok (.getfield 10, 3) := by decide +kernel
theorem dX11_delay_78 : decode cX11_delay 78 = .ok (.getfield 82, 3) := by decide +kernel
theorem dX11_delay_81 : decode cX11_delay 81 = .ok (.iload_n 1, 1) := by decide +kernel
theorem dX11_delay_82 : decode cX11_delay 82 = .ok (.iconst 4, 1) := by decide +kernel
theorem dX11_delay_83 : decode cX11_delay 83 = .ok (.invokevirtual 103, 3) := by decide +kernel
theorem dX11_delay_86 : decode cX11_delay 86 = .ok (.aload_n 0, 1) := by decide +kernel
theorem dX11_delay_87 : decode cX11_delay 87 = .ok (.getfield 10, 3) := by decide +kernel
theorem dX11_delay_90 : decode cX11_delay 90 = .ok (.getfield 82, 3) := by decide +kernel
theorem dX11_delay_93 : decode cX11_delay 93 = .ok (.iload_n 2, 1) := by decide +kernel
theorem dX11_delay_94 : decode cX11_delay 94 = .ok (.iconst 4, 1) := by decide +kernel
theorem dX11_delay_95 : decode cX11_delay 95 = .ok (.invokevirtual 103, 3) := by decide +kernel
theorem dX11_delay_98 : decode cX11_delay 98 = .ok (.isub, 1) := by decide +kernel
theorem dX11_delay_99 : decode cX11_delay 99 = .ok (.ireturn, 1) := by decide +kernel
set_option maxRecDepth 20000 in
theorem ggX11_whole_X11_isBetween : GoodIn wsX11_whole wsX11_isBetween := goodIn_r _ [6] (by decide +kernel) (by decide +kernel)
set_option maxRecDepth 20000 in
theorem gX11_whole_X11_isBetween : GoodIn wsX11_whole (va_wsS RX11 96 yX11_isBetween wsX11_isBetween) := goodIn_app (goodIn_of _ (by decide +kernel)) ggX11_whole_X11_isBetween
set_option maxRecDepth 20000 in
theorem ggX11_whole_X11_requireRange : GoodIn wsX11_whole wsX11_requireRange := goodIn_ca (goodIn_ca (goodIn_ca (goodIn_r _ [9, 10, 11, 5, 12, 13, 14, 15, 16, 17, 18] (by decide +kernel) (by decide +kernel)) (goodIn_sub (fun _ h => List.mem_cons_of_mem _ (List.mem_append_left _ (List.mem_append_left _ (List.mem_append_right _ h)))) (by decide +kernel))) (goodIn_sub (fun _ h => List.mem_cons_of_mem _ (List.mem_append_left _ (List.mem_append_right _ h))) (by decide +kernel))) (goodIn_sub (fun _ h => List.mem_cons_of_mem _ (List.mem_append_right _ h)) (by decide +kernel))
set_option maxRecDepth 20000 in
theorem gX11_whole_X11_requireRange : GoodIn wsX11_whole (va_wsS RX11 100 yX11_requireRange wsX11_requireRange) := goodIn_app (goodIn_of _ (by decide +kernel)) ggX11_whole_X11_requireRange
set_option maxRecDepth 20000 in
theorem ggX11_whole_X8_take : GoodIn wsX11_whole wsX8_take := goodIn_r _ [23, 24, 25, 26, 27, 28, 29, 30, 31, 32, 22, 33, 34, 35, 36, 37, 38, 39, 40, 41, 42, 43, 44, 45, 46, 47, 48, 49, 50, 51, 52, 53, 54, 55, 56, 57, 58, 59, 60, 61, 62, 63, 64, 65, 66, 67, 68, 69, 70, 71, 72, 73, 74, 75, 76, 77, 78, 79, 80, 81, 82, 83, 84, 85, 86, 87, 88, 89, 90, 91, 92, 93, 94, 95, 96, 97, 98, 99, 100, 101, 102, 103, 104, 105, 106, 107, 108, 109, 110, 111, 112, 113, 114, 115, 116, 117, 118, 119, 148, 149, 150, 151, 152, 153, 154, 155, 156, 157, 158, 159, 160, 161, 162, 163, 164, 165, 166, 167, 168] (by decide +kernel) (by decide +kernel)
set_option maxRecDepth 20000 in
theorem gX11_whole_X8_take : GoodIn wsX11_whole (wsV RX11 174 RX8 yX8_take wsX8_take) := goodIn_app (goodIn_of _ (by decide +kernel)) ggX11_whole_X8_take
set_option maxRecDepth 20000 in
theorem ggX11_whole_X11_valueOfWhole : GoodIn wsX11_whole wsX11_valueOfWhole := goodIn_r _ [123, 2, 124, 125, 126, 127, 128, 129, 130, 1, 131, 132, 133, 134, 135, 117, 118, 22, 119, 34, 136, 137, 138, 139, 64, 4, 5, 6, 140, 141, 142, 143, 144, 145, 146, 147, 157, 158, 159, 160, 161, 162, 163, 164, 165, 166, 167, 168, 148, 149, 150, 151, 152, 153, 154, 155, 156] (by decide +kernel) (by decide +kernel)
set_option maxRecDepth 20000 in
theorem gX11_whole_X11_valueOfWhole : GoodIn wsX11_whole (wsV RX11 205 RX11 yX11_valueOfWhole wsX11_valueOfWhole) := goodIn_app (goodIn_of _ (by decide +kernel)) ggX11_whole_X11_valueOfWhole
theorem dX11_whole_0 : decode cX11_whole 0 = .ok (.iload_n 1, 1) := by decide +kernel
theorem dX11_whole_1 : decode cX11_whole 1 = .ok (.iconst 0, 1) := by decide +kernel
theorem dX11_whole_2 : decode cX11_whole 2 = .ok (.bipush 10, 2) := by decide +kernel
theorem dX11_whole_4 : decode cX11_whole 4 = .ok (.invokestatic 96, 3) := by decide +kernel
theorem dX11_whole_7 : decode cX11_whole 7 = .ok (.invokestatic 100, 3) := by decide +kernel
theorem dX11_whole_10 : decode cX11_whole 10 = .ok (.iload_n 1, 1) := by decide +kernel
theorem dX11_whole_11 : decode cX11_whole 11 = .ok (.bipush 6, 2) := by decide +kernel
theorem dX11_whole_13 : decode cX11_whole 13 = .ok (.bipush 9, 2) := by decide +kernel
theorem dX11_whole_15 : decode cX11_whole 15 = .ok (.invokestatic 96, 3) := by decide +kernel
theorem dX11_whole_18 : decode cX11_whole 18 = .ok (.ifCond .eq 15, 3) := by decide +kernel
theorem dX11_whole_21 : decode cX11_whole 21 = .ok (.aload_n 0, 1) := by decide +kernel
theorem dX11_whole_22 : decode cX11_whole 22 = .ok (.getfield 33, 3) := by decide +kernel
theorem dX11_whole_25 : decode cX11_whole 25 = .ok (.aload_n 0, 1) := by decide +kernel
theorem dX11_whole_26 : decode cX11_whole 26 = .ok (.getfield 10, 3) := by decide +kernel
theorem dX11_whole_29 : decode cX11_whole 29 = .ok (.iconst (-1), 1) := by decide +kernel
theorem dX11_whole_30 : decode cX11_whole 30 = .ok (.invokevirtual 174, 3) := by decide +kernel
theorem dX11_whole_33 : decode cX11_whole 33 = .ok (.aload_n 0, 1) := by decide +kernel
theorem dX11_whole_34 : decode cX11_whole 34 = .ok (.iload_n 1, 1) := by decide +kernel
theorem dX11_whole_35 : decode cX11_whole 35 = .ok (.invokevirtual 205, 3) := by decide +kernel
theorem dX11_whole_38 : decode cX11_whole 38 = .ok (.ireturn, 1) := by decide +kernel
set_option maxRecDepth 20000 in
theorem ggX11_part_X11_isBetween : GoodIn wsX11_part wsX11_isBetween := goodIn_r _ [6] (by decide +kernel) (by decide +kernel)
set_option maxRecDepth 20000 in
theorem gX11_part_X11_isBetween : GoodIn wsX11_part (va_wsS RX11 96 yX11_isBetween wsX11_isBetween) := goodIn_app (goodIn_of _ (by decide +kernel)) ggX11_part_X11_isBetween
set_option maxRecDepth 20000 in
theorem ggX11_part_X11_requireRange : GoodIn wsX11_part wsX11_requireRange := goodIn_ca (goodIn_ca (goodIn_ca (goodIn_r _ [9, 10, 11, 5, 12, 13, 14, 15, 16, 17, 18] (by decide +kernel) (by decide +kernel)) (goodIn_sub (fun _ h => List.mem_cons_of_mem _ (List.mem_append_left _ (List.mem_append_left _ (List.mem_append_right _ h)))) (by decide +kernel))) (goodIn_sub (fun _ h => List.mem_cons_of_mem _ (List.mem_append_left _ (List.mem_append_right _ h))) (by decide +kernel))) (goodIn_sub (fun _ h => List.mem_cons_of_mem _ (List.mem_append_right _ h)) (by decide +kernel))
set_option maxRecDepth 20000 in
theorem gX11_part_X11_requireRange : GoodIn wsX11_part (va_wsS RX11 100 yX11_requireRange wsX11_requireRange) := goodIn_app (goodIn_of _ (by decide +kernel)) ggX11_part_X11_requireRange
set_option maxRecDepth 20000 in
theorem ggX11_part_X2_tableOf : GoodIn wsX11_part wsX2_tableOf := goodIn_r _ [23, 24, 25, 26, 27, 52, 53, 54, 55, 56, 57, 58, 59] (by decide +kernel) (by decide +kernel)
set_option maxRecDepth 20000 in
theorem gX11_part_X2_tableOf : GoodIn wsX11_part (wsV RX11 124 RX2 yX2_tableOf wsX2_tableOf) := goodIn_app (goodIn_of _ (by decide +kernel)) ggX11_part_X2_tableOf
set_option maxRecDepth 20000 in
theorem ggX11_part_X9_has : GoodIn wsX11_part wsX9_has := goodIn_r _ [32, 33, 60, 61, 62, 63] (by decide +kernel) (by decide +kernel)
set_option maxRecDepth 20000 in
theorem gX11_part_X9_has : GoodIn wsX11_part (wsV RX11 86 RX9 yX9_has wsX9_has) := goodIn_app (goodIn_of _ (by decide +kernel)) ggX11_part_X9_has
set_option maxRecDepth 20000 in
theorem ggX11_part_X11_requireThere : GoodIn wsX11_part wsX11_requireThere := goodIn_ca (goodIn_ca (goodIn_ca (goodIn_r _ [36, 10, 11, 5, 12, 13, 14, 15, 16, 17, 18] (by decide +kernel) (by decide +kernel)) (goodIn_sub (fun _ h => List.mem_cons_of_mem _ (List.mem_append_left _ (List.mem_append_left _ (List.mem_append_right _ h)))) (by decide +kernel))) (goodIn_sub (fun _ h => List.mem_cons_of_mem _ (List.mem_append_left _ (List.mem_append_right _ h))) (by decide +kernel))) (goodIn_sub (fun _ h => List.mem_cons_of_mem _ (List.mem_append_right _ h)) (by decide +kernel))
set_option maxRecDepth 20000 in
theorem gX11_part_X11_requireThere : GoodIn wsX11_part (va_wsS RX11 92 yX11_requireThere wsX11_requireThere) := goodIn_app (goodIn_of _ (by decide +kernel)) ggX11_part_X11_requireThere
set_option maxRecDepth 20000 in
theorem ggX11_part_X9_at : GoodIn wsX11_part wsX9_at := goodIn_r _ [40, 33, 41, 42, 43, 60, 61, 62, 63] (by decide +kernel) (by decide +kernel)
set_option maxRecDepth 20000 in
theorem gX11_part_X9_at : GoodIn wsX11_part (wsV RX11 103 RX9 yX9_at wsX9_at) := goodIn_app (goodIn_of _ (by decide +kernel)) ggX11_part_X9_at
theorem dX11_part_0 : decode cX11_part 0 = .ok (.iload_n 1, 1) := by decide +kernel
theorem dX11_part_1 : decode cX11_part 1 = .ok (.iconst 0, 1) := by decide +kernel
theorem dX11_part_2 : decode cX11_part 2 = .ok (.getstatic 208, 3) := by decide +kernel
theorem dX11_part_5 : decode cX11_part 5 = .ok (.arraylength, 1) := by decide +kernel
theorem dX11_part_6 : decode cX11_part 6 = .ok (.iconst 1, 1) := by decide +kernel
theorem dX11_part_7 : decode cX11_part 7 = .ok (.isub, 1) := by decide +kernel
theorem dX11_part_8 : decode cX11_part 8 = .ok (.invokestatic 96, 3) := by decide +kernel
theorem dX11_part_11 : decode cX11_part 11 = .ok (.ifCond .eq 22, 3) := by decide +kernel
theorem dX11_part_14 : decode cX11_part 14 = .ok (.iload_n 3, 1) := by decide +kernel
theorem dX11_part_15 : decode cX11_part 15 = .ok (.iconst 0, 1) := by decide +kernel
theorem dX11_part_16 : decode cX11_part 16 = .ok (.getstatic 208, 3) := by decide +kernel
theorem dX11_part_19 : decode cX11_part 19 = .ok (.iload_n 1, 1) := by decide +kernel
theorem dX11_part_20 : decode cX11_part 20 = .ok (.iaload, 1) := by decide +kernel
theorem dX11_part_21 : decode cX11_part 21 = .ok (.iconst 1, 1) := by decide +kernel
theorem dX11_part_22 : decode cX11_part 22 = .ok (.isub, 1) := by decide +kernel
theorem dX11_part_23 : decode cX11_part 23 = .ok (.invokestatic 96, 3) := by decide +kernel
theorem dX11_part_26 : decode cX11_part 26 = .ok (.ifCond .eq 7, 3) := by decide +kernel
theorem dX11_part_29 : decode cX11_part 29 = .ok (.iconst 1, 1) := by decide +kernel
theorem dX11_part_30 : decode cX11_part 30 = .ok (.goto 4, 3) := by decide +kernel
theorem dX11_part_33 : decode cX11_part 33 = .ok (.iconst 0, 1) := by decide +kernel
theorem dX11_part_34 : decode cX11_part 34 = .ok (.invokestatic 100, 3) := by decide +kernel
theorem dX11_part_37 : decode cX11_part 37 = .ok (.aload_n 0, 1) := by decide +kernel
theorem dX11_part_38 : decode cX11_part 38 = .ok (.getfield 10, 3) := by decide +kernel
theorem dX11_part_41 : decode cX11_part 41 = .ok (.iload_n 1, 1) := by decide +kernel
theorem dX11_part_42 : decode cX11_part 42 = .ok (.invokevirtual 124, 3) := by decide +kernel
theorem dX11_part_45 : decode cX11_part 45 = .ok (.astore 4, 2) := by decide +kernel
theorem dX11_part_47 : decode cX11_part 47 = .ok (.aload 4, 2) := by decide +kernel
theorem dX11_part_49 : decode cX11_part 49 = .ok (.iload_n 2, 1) := by decide +kernel
theorem dX11_part_50 : decode cX11_part 50 = .ok (.invokevirtual 86, 3) := by decide +kernel
theorem dX11_part_53 : decode cX11_part 53 = .ok (.invokestatic 92, 3) := by decide +kernel
theorem dX11_part_56 : decode cX11_part 56 = .ok (.aload 4, 2) := by decide +kernel
theorem dX11_part_58 : decode cX11_part 58 = .ok (.iload_n 2, 1) := by decide +kernel
theorem dX11_part_59 : decode cX11_part 59 = .ok (.iload_n 3, 1) := by decide +kernel
theorem dX11_part_60 : decode cX11_part 60 = .ok (.invokevirtual 103, 3) := by decide +kernel
theorem dX11_part_63 : decode cX11_part 63 = .ok (.ireturn, 1) := by decide +kernel
theorem dX11_refuse_0 : decode cX11_refuse 0 = .ok (.iload_n 0, 1) := by decide +kernel
theorem dX11_refuse_1 : decode cX11_refuse 1 = .ok (.iconst 1, 1) := by decide +kernel
theorem dX11_refuse_2 : decode cX11_refuse 2 = .ok (.if_icmp .ne 14, 3) := by decide +kernel
theorem dX11_refuse_5 : decode cX11_refuse 5 = .ok (.new 273, 3) := by decide +kernel
theorem dX11_refuse_8 : decode cX11_refuse 8 = .ok (.dup, 1) := by decide +kernel
theorem dX11_refuse_9 : decode cX11_refuse 9 = .ok (.ldc_w 275, 3) := by decide +kernel
theorem dX11_refuse_12 : decode cX11_refuse 12 = .ok (.invokespecial 277, 3) := by decide +kernel
theorem dX11_refuse_15 : decode cX11_refuse 15 = .ok (.athrow, 1) := by decide +kernel
theorem dX11_refuse_16 : decode cX11_refuse 16 = .ok (.iload_n 0, 1) := by decide +kernel
theorem dX11_refuse_17 : decode cX11_refuse 17 = .ok (.iconst 2, 1) := by decide +kernel
theorem dX11_refuse_18 : decode cX11_refuse 18 = .ok (.if_icmp .ne 14, 3) := by decide +kernel
theorem dX11_refuse_21 : decode cX11_refuse 21 = .ok (.new 280, 3) := by decide +kernel
theorem dX11_refuse_24 : decode cX11_refuse 24 = .ok (.dup, 1) := by decide +kernel
theorem dX11_refuse_25 : decode cX11_refuse 25 = .ok (.ldc_w 282, 3) := by decide +kernel
theorem dX11_refuse_28 : decode cX11_refuse 28 = .ok (.invokespecial 284, 3) := by decide +kernel
theorem dX11_refuse_31 : decode cX11_refuse 31 = .ok (.athrow, 1) := by decide +kernel
theorem dX11_refuse_32 : decode cX11_refuse 32 = .ok (.iload_n 0, 1) := by decide +kernel
theorem dX11_refuse_33 : decode cX11_refuse 33 = .ok (.iconst 3, 1) := by decide +kernel
theorem dX11_refuse_34 : decode cX11_refuse 34 = .ok (.if_icmp .ne 14, 3) := by decide +kernel
theorem dX11_refuse_37 : decode cX11_refuse 37 = .ok (.new 285, 3) := by decide +kernel
theorem dX11_refuse_40 : decode cX11_refuse 40 = .ok (.dup, 1) := by decide +kernel
theorem dX11_refuse_41 : decode cX11_refuse 41 = .ok (.ldc_w 287, 3) := by decide +kernel
theorem dX11_refuse_44 : decode cX11_refuse 44 = .ok (.invokespecial 289, 3) := by decide +kernel
theorem dX11_refuse_47 : decode cX11_refuse 47 = .ok (.athrow, 1) := by decide +kernel
theorem dX11_refuse_48 : decode cX11_refuse 48 = .ok (.return_, 1) := by decide +kernel
set_option maxRecDepth 20000 in
theorem ggX11_requireThere_X11_refuse : GoodIn wsX11_requireThere wsX11_refuse := goodIn_ca (goodIn_ca (goodIn_ca (goodIn_r _ [4, 5, 6, 7, 8, 9, 10] (by decide +kernel) (by decide +kernel)) (goodIn_sub (fun _ h => List.mem_cons_of_mem _ (List.mem_append_left _ (List.mem_append_left _ (List.mem_append_right _ h)))) (by decide +kernel))) (goodIn_sub (fun _ h => List.mem_cons_of_mem _ (List.mem_append_left _ (List.mem_append_right _ h))) (by decide +kernel))) (goodIn_sub (fun _ h => List.mem_cons_of_mem _ (List.mem_append_right _ h)) (by decide +kernel))
set_option maxRecDepth 20000 in
theorem gX11_requireThere_X11_refuse : GoodIn wsX11_requireThere (va_wsS RX11 66 yX11_refuse wsX11_refuse) := goodIn_app (goodIn_of _ (by decide +kernel)) ggX11_requireThere_X11_refuse
theorem dX11_requireThere_0 : decode cX11_requireThere 0 = .ok (.iload_n 0, 1) := by decide +kernel
theorem dX11_requireThere_1 : decode cX11_requireThere 1 = .ok (.ifCond .eq 7, 3) := by decide +kernel
theorem dX11_requireThere_4 : decode cX11_requireThere 4 = .ok (.iconst 0, 1) := by decide +kernel
theorem dX11_requireThere_5 : decode cX11_requireThere 5 = .ok (.goto 4, 3) := by decide +kernel
theorem dX11_requireThere_8 : decode cX11_requireThere 8 = .ok (.iconst 1, 1) := by decide +kernel
theorem dX11_requireThere_9 : decode cX11_requireThere 9 = .ok (.invokestatic 66, 3) := by decide +kernel
theorem dX11_requireThere_12 : decode cX11_requireThere 12 = .ok (.return_, 1) := by decide +kernel
set_option maxRecDepth 20000 in
theorem ggX11_requireRange_X11_refuse : GoodIn wsX11_requireRange wsX11_refuse := goodIn_ca (goodIn_ca (goodIn_ca (goodIn_r _ [4, 5, 6, 7, 8, 9, 10] (by decide +kernel) (by decide +kernel)) (goodIn_sub (fun _ h => List.mem_cons_of_mem _ (List.mem_append_left _ (List.mem_append_left _ (List.mem_append_right _ h)))) (by decide +kernel))) (goodIn_sub (fun _ h => List.mem_cons_of_mem _ (List.mem_append_left _ (List.mem_append_right _ h))) (by decide +kernel))) (goodIn_sub (fun _ h => List.mem_cons_of_mem _ (List.mem_append_right _ h)) (by decide +kernel))
set_option maxRecDepth 20000 in
theorem gX11_requireRange_X11_refuse : GoodIn wsX11_requireRange (va_wsS RX11 66 yX11_refuse wsX11_refuse) := goodIn_app (goodIn_of _ (by decide +kernel)) ggX11_requireRange_X11_refuse
theorem dX11_requireRange_0 : decode cX11_requireRange 0 = .ok (.iload_n 0, 1) := by decide +kernel
theorem dX11_requireRange_1 : decode cX11_requireRange 1 = .ok (.ifCond .eq 7, 3) := by decide +kernel
theorem dX11_requireRange_4 : decode cX11_requireRange 4 = .ok (.iconst 0, 1) := by decide +kernel
theorem dX11_requireRange_5 : decode cX11_requireRange 5 = .ok (.goto 4, 3) := by decide +kernel
theorem dX11_requireRange_8 : decode cX11_requireRange 8 = .ok (.iconst 2, 1) := by decide +kernel
theorem dX11_requireRange_9 : decode cX11_requireRange 9 = .ok (.invokestatic 66, 3) := by decide +kernel
theorem dX11_requireRange_12 : decode cX11_requireRange 12 = .ok (.return_, 1) := by decide +kernel
theorem dX11_isBetween_0 : decode cX11_isBetween 0 = .ok (.iload_n 0, 1) := by decide +kernel
theorem dX11_isBetween_1 : decode cX11_isBetween 1 = .ok (.iload_n 1, 1) := by decide +kernel
theorem dX11_isBetween_2 : decode cX11_isBetween 2 = .ok (.if_icmp .lt 12, 3) := by decide +kernel
theorem dX11_isBetween_5 : decode cX11_isBetween 5 = .ok (.iload_n 0, 1) := by decide +kernel
theorem dX11_isBetween_6 : decode cX11_isBetween 6 = .ok (.iload_n 2, 1) := by decide +kernel
theorem dX11_isBetween_7 : decode cX11_isBetween 7 = .ok (.if_icmp .gt 7, 3) := by decide +kernel
theorem dX11_isBetween_10 : decode cX11_isBetween 10 = .ok (.iconst 1, 1) := by decide +kernel
theorem dX11_isBetween_11 : decode cX11_isBetween 11 = .ok (.goto 4, 3) := by decide +kernel
theorem dX11_isBetween_14 : decode cX11_isBetween 14 = .ok (.iconst 0, 1) := by decide +kernel
theorem dX11_isBetween_15 : decode cX11_isBetween 15 = .ok (.ireturn, 1) := by decide +kernel
set_option maxRecDepth 20000 in
theorem ggX11_isClickPlace_X11_isBetween : GoodIn wsX11_isClickPlace wsX11_isBetween := goodIn_r _ [4] (by decide +kernel) (by decide +kernel)
set_option maxRecDepth 20000 in
theorem gX11_isClickPlace_X11_isBetween : GoodIn wsX11_isClickPlace (va_wsS RX11 96 yX11_isBetween wsX11_isBetween) := goodIn_app (goodIn_of _ (by decide +kernel)) ggX11_isClickPlace_X11_isBetween
theorem dX11_isClickPlace_0 : decode cX11_isClickPlace 0 = .ok (.iload_n 0, 1) := by decide +kernel
theorem dX11_isClickPlace_1 : decode cX11_isClickPlace 1 = .ok (.sipush (-1000), 3) := by decide +kernel
theorem dX11_isClickPlace_4 : decode cX11_isClickPlace 4 = .ok (.sipush 3000, 3) := by decide +kernel
theorem dX11_isClickPlace_7 : decode cX11_isClickPlace 7 = .ok (.invokestatic 96, 3) := by decide +kernel
theorem dX11_isClickPlace_10 : decode cX11_isClickPlace 10 = .ok (.ifCond .eq 20, 3) := by decide +kernel
theorem dX11_isClickPlace_13 : decode cX11_isClickPlace 13 = .ok (.iload_n 1, 1) := by decide +kernel
theorem dX11_isClickPlace_14 : decode cX11_isClickPlace 14 = .ok (.sipush (-1000), 3) := by decide +kernel
theorem dX11_isClickPlace_17 : decode cX11_isClickPlace 17 = .ok (.sipush 3000, 3) := by decide +kernel
theorem dX11_isClickPlace_20 : decode cX11_isClickPlace 20 = .ok (.invokestatic 96, 3) := by decide +kernel
theorem dX11_isClickPlace_23 : decode cX11_isClickPlace 23 = .ok (.ifCond .eq 7, 3) := by decide +kernel
theorem dX11_isClickPlace_26 : decode cX11_isClickPlace 26 = .ok (.iconst 1, 1) := by decide +kernel
theorem dX11_isClickPlace_27 : decode cX11_isClickPlace 27 = .ok (.goto 4, 3) := by decide +kernel
theorem dX11_isClickPlace_30 : decode cX11_isClickPlace 30 = .ok (.iconst 0, 1) := by decide +kernel
theorem dX11_isClickPlace_31 : decode cX11_isClickPlace 31 = .ok (.ireturn, 1) := by decide +kernel
set_option maxRecDepth 20000 in
theorem ggX11_saveState_X10_push : GoodIn wsX11_saveState wsX10_push := goodIn_r _ [8, 9, 10, 11, 12, 13, 14, 15, 16, 17, 18, 19, 20, 21, 22, 23, 24, 25, 26, 27, 28, 29, 30, 31, 32, 33, 34, 35, 36, 37, 38, 39, 40, 55, 56, 57, 58, 59, 60, 61, 62, 63, 64, 65, 66, 67, 68, 69] (by decide +kernel) (by decide +kernel)
set_option maxRecDepth 20000 in
theorem gX11_saveState_X10_push : GoodIn wsX11_saveState (wsV RX11 290 RX10 yX10_push wsX10_push) := goodIn_app (goodIn_of _ (by decide +kernel)) ggX11_saveState_X10_push
set_option maxRecDepth 20000 in
theorem ggX11_saveState_X8_outdate : GoodIn wsX11_saveState wsX8_outdate := goodIn_r _ [45, 46, 70, 71, 72, 73, 74, 75, 76, 77, 78] (by decide +kernel) (by decide +kernel)
set_option maxRecDepth 20000 in
theorem gX11_saveState_X8_outdate : GoodIn wsX11_saveState (wsV RX11 250 RX8 yX8_outdate wsX8_outdate) := goodIn_app (goodIn_of _ (by decide +kernel)) ggX11_saveState_X8_outdate
theorem dX11_saveState_0 : decode cX11_saveState 0 = .ok (.aload_n 0, 1) := by decide +kernel
theorem dX11_saveState_1 : decode cX11_saveState 1 = .ok (.getfield 40, 3) := by decide +kernel
theorem dX11_saveState_4 : decode cX11_saveState 4 = .ok (.aload_n 0, 1) := by decide +kernel
theorem dX11_saveState_5 : decode cX11_saveState 5 = .ok (.getfield 10, 3) := by decide +kernel
theorem dX11_saveState_8 : decode cX11_saveState 8 = .ok (.invokevirtual 290, 3) := by decide +kernel
theorem dX11_saveState_11 : decode cX11_saveState 11 = .ok (.aload_n 0, 1) := by decide +kernel
theorem dX11_saveState_12 : decode cX11_saveState 12 = .ok (.getfield 33, 3) := by decide +kernel
theorem dX11_saveState_15 : decode cX11_saveState 15 = .ok (.invokevirtual 250, 3) := by decide +kernel
theorem dX11_saveState_18 : decode cX11_saveState 18 = .ok (.return_, 1) := by decide +kernel
set_option maxRecDepth 20000 in
theorem ggX11_valueOfWhole_X8_pairCount : GoodIn wsX11_valueOfWhole wsX8_pairCount := goodIn_r _ [18, 19, 48, 49, 50, 51, 52, 53, 54, 55, 56] (by decide +kernel) (by decide +kernel)
set_option maxRecDepth 20000 in
theorem gX11_valueOfWhole_X8_pairCount : GoodIn wsX11_valueOfWhole (wsV RX11 321 RX8 yX8_pairCount wsX8_pairCount) := goodIn_app (goodIn_of _ (by decide +kernel)) ggX11_valueOfWhole_X8_pairCount
set_option maxRecDepth 20000 in
theorem ggX11_valueOfWhole_X8_votesOf : GoodIn wsX11_valueOfWhole wsX8_votesOf := goodIn_r _ [23, 24, 25, 26, 27, 48, 49, 50, 51, 52, 53, 54, 55, 56] (by decide +kernel) (by decide +kernel)
set_option maxRecDepth 20000 in
theorem gX11_valueOfWhole_X8_votesOf : GoodIn wsX11_valueOfWhole (wsV RX11 178 RX8 yX8_votesOf wsX8_votesOf) := goodIn_app (goodIn_of _ (by decide +kernel)) ggX11_valueOfWhole_X8_votesOf
theorem dX11_valueOfWhole_0 : decode cX11_valueOfWhole 0 = .ok (.iload_n 1, 1) := by decide +kernel
theorem dX11_valueOfWhole_1 : decode cX11_valueOfWhole 1 = .ok (.tableswitch 151 0 9 #[55, 63, 71, 82, 93, 104, 112, 120, 128, 143], 55) := by decide +kernel
theorem dX11_valueOfWhole_56 : decode cX11_valueOfWhole 56 = .ok (.aload_n 0, 1) := by decide +kernel
theorem dX11_valueOfWhole_57 : decode cX11_valueOfWhole 57 = .ok (.getfield 10, 3) := by decide +kernel
theorem dX11_valueOfWhole_60 : decode cX11_valueOfWhole 60 = .ok (.getfield 303, 3) := by decide +kernel
theorem dX11_valueOfWhole_63 : decode cX11_valueOfWhole 63 = .ok (.ireturn, 1) := by decide +kernel
theorem dX11_valueOfWhole_64 : decode cX11_valueOfWhole 64 = .ok (.aload_n 0, 1) := by decide +kernel
theorem dX11_valueOfWhole_65 : decode cX11_valueOfWhole 65 = .ok (.getfield 10, 3) := by decide +kernel
theorem dX11_valueOfWhole_68 : decode cX11_valueOfWhole 68 = .ok (.getfield 306, 3) := by decide +kernel
theorem dX11_valueOfWhole_71 : decode cX11_valueOfWhole 71 = .ok (.ireturn, 1) := by decide +kernel
theorem dX11_valueOfWhole_72 : decode cX11_valueOfWhole 72 = .ok (.aload_n 0, 1) := by decide +kernel
theorem dX11_valueOfWhole_73 : decode cX11_valueOfWhole 73 = .ok (.getfield 10, 3) := by decide +kernel
theorem dX11_valueOfWhole_76 : decode cX11_valueOfWhole 76 = .ok (.getfield 82, 3) := by decide +kernel
theorem dX11_valueOfWhole_79 : decode cX11_valueOfWhole 79 = .ok (.getfield 131, 3) := by decide +kernel
theorem dX11_valueOfWhole_82 : decode cX11_valueOfWhole 82 = .ok (.ireturn, 1) := by decide +kernel
theorem dX11_valueOfWhole_83 : decode cX11_valueOfWhole 83 = .ok (.aload_n 0, 1) := by decide +kernel
theorem dX11_valueOfWhole_84 : decode cX11_valueOfWhole 84 = .ok (.getfield 10, 3) := by decide +kernel
theorem dX11_valueOfWhole_87 : decode cX11_valueOfWhole 87 = .ok (.getfield 309, 3) := by decide +kernel
theorem dX11_valueOfWhole_90 : decode cX11_valueOfWhole 90 = .ok (.getfield 131, 3) := by decide +kernel
theorem dX11_valueOfWhole_93 : decode cX11_valueOfWhole 93 = .ok (.ireturn, 1) := by decide +kernel
theorem dX11_valueOfWhole_94 : decode cX11_valueOfWhole 94 = .ok (.aload_n 0, 1) := by decide +kernel
theorem dX11_valueOfWhole_95 : decode cX11_valueOfWhole 95 = .ok (.getfield 10, 3) := by decide +kernel
theorem dX11_valueOfWhole_98 : decode cX11_valueOfWhole 98 = .ok (.getfield 312, 3) := by decide +kernel
theorem dX11_valueOfWhole_101 : decode cX11_valueOfWhole 101 = .ok (.getfield 131, 3) := by decide +kernel
theorem dX11_valueOfWhole_104 : decode cX11_valueOfWhole 104 = .ok (.ireturn, 1) := by decide +kernel
theorem dX11_valueOfWhole_105 : decode cX11_valueOfWhole 105 = .ok (.aload_n 0, 1) := by decide +kernel
theorem dX11_valueOfWhole_106 : decode cX11_valueOfWhole 106 = .ok (.getfield 10, 3) := by decide +kernel
theorem dX11_valueOfWhole_109 : decode cX11_valueOfWhole 109 = .ok (.getfield 315, 3) := by decide +kernel
theorem dX11_valueOfWhole_112 : decode cX11_valueOfWhole 112 = .ok (.ireturn, 1) := by decide +kernel
theorem dX11_valueOfWhole_113 : decode cX11_valueOfWhole 113 = .ok (.aload_n 0, 1) := by decide +kernel
theorem dX11_valueOfWhole_114 : decode cX11_valueOfWhole 114 = .ok (.getfield 33, 3) := by decide +kernel
theorem dX11_valueOfWhole_117 : decode cX11_valueOfWhole 117 = .ok (.getfield 318, 3) := by decide +kernel
theorem dX11_valueOfWhole_120 : decode cX11_valueOfWhole 120 = .ok (.ireturn, 1) := by decide +kernel
theorem dX11_valueOfWhole_121 : decode cX11_valueOfWhole 121 = .ok (.aload_n 0, 1) := by decide +kernel
theorem dX11_valueOfWhole_122 : decode cX11_valueOfWhole 122 = .ok (.getfield 33, 3) := by decide +kernel
theorem dX11_valueOfWhole_125 : decode cX11_valueOfWhole 125 = .ok (.invokevirtual 321, 3) := by decide +kernel
theorem dX11_valueOfWhole_128 : decode cX11_valueOfWhole 128 = .ok (.ireturn, 1) := by decide +kernel
theorem dX11_valueOfWhole_129 : decode cX11_valueOfWhole 129 = .ok (.aload_n 0, 1) := by decide +kernel
theorem dX11_valueOfWhole_130 : decode cX11_valueOfWhole 130 = .ok (.getfield 33, 3) := by decide +kernel
theorem dX11_valueOfWhole_133 : decode cX11_valueOfWhole 133 = .ok (.aload_n 0, 1) := by decide +kernel
theorem dX11_valueOfWhole_134 : decode cX11_valueOfWhole 134 = .ok (.getfield 33, 3) := by decide +kernel
theorem dX11_valueOfWhole_137 : decode cX11_valueOfWhole 137 = .ok (.getfield 185, 3) := by decide +kernel
theorem dX11_valueOfWhole_140 : decode cX11_valueOfWhole 140 = .ok (.invokevirtual 178, 3) := by decide +kernel
theorem dX11_valueOfWhole_143 : decode cX11_valueOfWhole 143 = .ok (.ireturn, 1) := by decide +kernel
theorem dX11_valueOfWhole_144 : decode cX11_valueOfWhole 144 = .ok (.aload_n 0, 1) := by decide +kernel
theorem dX11_valueOfWhole_145 : decode cX11_valueOfWhole 145 = .ok (.getfield 33, 3) := by decide +kernel
theorem dX11_valueOfWhole_148 : decode cX11_valueOfWhole 148 = .ok (.getfield 188, 3) := by decide +kernel
theorem dX11_valueOfWhole_151 : decode cX11_valueOfWhole 151 = .ok (.ireturn, 1) := by decide +kernel
theorem dX11_valueOfWhole_152 : decode cX11_valueOfWhole 152 = .ok (.aload_n 0, 1) := by decide +kernel
theorem dX11_valueOfWhole_153 : decode cX11_valueOfWhole 153 = .ok (.getfield 10, 3) := by decide +kernel
theorem dX11_valueOfWhole_156 : decode cX11_valueOfWhole 156 = .ok (.getfield 140, 3) := by decide +kernel
theorem dX11_valueOfWhole_159 : decode cX11_valueOfWhole 159 = .ok (.ireturn, 1) := by decide +kernel
theorem dJ9_abs_0f7a4_0 : decode cJ9_abs_0f7a4 0 = .ok (.iload_n 0, 1) := by decide +kernel
theorem dJ9_abs_0f7a4_1 : decode cJ9_abs_0f7a4 1 = .ok (.ifCond .ge 8, 3) := by decide +kernel
theorem dJ9_abs_0f7a4_4 : decode cJ9_abs_0f7a4 4 = .ok (.iload_n 0, 1) := by decide +kernel
theorem dJ9_abs_0f7a4_5 : decode cJ9_abs_0f7a4 5 = .ok (.ineg, 1) := by decide +kernel
theorem dJ9_abs_0f7a4_6 : decode cJ9_abs_0f7a4 6 = .ok (.goto 4, 3) := by decide +kernel
theorem dJ9_abs_0f7a4_9 : decode cJ9_abs_0f7a4 9 = .ok (.iload_n 0, 1) := by decide +kernel
theorem dJ9_abs_0f7a4_10 : decode cJ9_abs_0f7a4 10 = .ok (.ireturn, 1) := by decide +kernel
theorem dJ9_max_7cf53_0 : decode cJ9_max_7cf53 0 = .ok (.iload_n 0, 1) := by decide +kernel
theorem dJ9_max_7cf53_1 : decode cJ9_max_7cf53 1 = .ok (.iload_n 1, 1) := by decide +kernel
theorem dJ9_max_7cf53_2 : decode cJ9_max_7cf53 2 = .ok (.if_icmp .lt 7, 3) := by decide +kernel
theorem dJ9_max_7cf53_5 : decode cJ9_max_7cf53 5 = .ok (.iload_n 0, 1) := by decide +kernel
theorem dJ9_max_7cf53_6 : decode cJ9_max_7cf53 6 = .ok (.goto 4, 3) := by decide +kernel
theorem dJ9_max_7cf53_9 : decode cJ9_max_7cf53 9 = .ok (.iload_n 1, 1) := by decide +kernel
theorem dJ9_max_7cf53_10 : decode cJ9_max_7cf53 10 = .ok (.ireturn, 1) := by decide +kernel
theorem dJ9_max_f86c9_0 : decode cJ9_max_f86c9 0 = .ok (.lload_n 0, 1) := by decide +kernel
theorem dJ9_max_f86c9_1 : decode cJ9_max_f86c9 1 = .ok (.lload_n 2, 1) := by decide +kernel
theorem dJ9_max_f86c9_2 : decode cJ9_max_f86c9 2 = .ok (.lcmp, 1) := by decide +kernel
theorem dJ9_max_f86c9_3 : decode cJ9_max_f86c9 3 = .ok (.ifCond .lt 7, 3) := by decide +kernel
theorem dJ9_max_f86c9_6 : decode cJ9_max_f86c9 6 = .ok (.lload_n 0, 1) := by decide +kernel
theorem dJ9_max_f86c9_7 : decode cJ9_max_f86c9 7 = .ok (.goto 4, 3) := by decide +kernel
theorem dJ9_max_f86c9_10 : decode cJ9_max_f86c9 10 = .ok (.lload_n 2, 1) := by decide +kernel
theorem dJ9_max_f86c9_11 : decode cJ9_max_f86c9 11 = .ok (.lreturn, 1) := by decide +kernel
theorem dJ9_min_7cf53_0 : decode cJ9_min_7cf53 0 = .ok (.iload_n 0, 1) := by decide +kernel
theorem dJ9_min_7cf53_1 : decode cJ9_min_7cf53 1 = .ok (.iload_n 1, 1) := by decide +kernel
theorem dJ9_min_7cf53_2 : decode cJ9_min_7cf53 2 = .ok (.if_icmp .gt 7, 3) := by decide +kernel
theorem dJ9_min_7cf53_5 : decode cJ9_min_7cf53 5 = .ok (.iload_n 0, 1) := by decide +kernel
theorem dJ9_min_7cf53_6 : decode cJ9_min_7cf53 6 = .ok (.goto 4, 3) := by decide +kernel
theorem dJ9_min_7cf53_9 : decode cJ9_min_7cf53 9 = .ok (.iload_n 1, 1) := by decide +kernel
theorem dJ9_min_7cf53_10 : decode cJ9_min_7cf53 10 = .ok (.ireturn, 1) := by decide +kernel
theorem dJ9_min_f86c9_0 : decode cJ9_min_f86c9 0 = .ok (.lload_n 0, 1) := by decide +kernel
theorem dJ9_min_f86c9_1 : decode cJ9_min_f86c9 1 = .ok (.lload_n 2, 1) := by decide +kernel
theorem dJ9_min_f86c9_2 : decode cJ9_min_f86c9 2 = .ok (.lcmp, 1) := by decide +kernel
theorem dJ9_min_f86c9_3 : decode cJ9_min_f86c9 3 = .ok (.ifCond .gt 7, 3) := by decide +kernel
theorem dJ9_min_f86c9_6 : decode cJ9_min_f86c9 6 = .ok (.lload_n 0, 1) := by decide +kernel
theorem dJ9_min_f86c9_7 : decode cJ9_min_f86c9 7 = .ok (.goto 4, 3) := by decide +kernel
theorem dJ9_min_f86c9_10 : decode cJ9_min_f86c9 10 = .ok (.lload_n 2, 1) := by decide +kernel
theorem dJ9_min_f86c9_11 : decode cJ9_min_f86c9 11 = .ok (.lreturn, 1) := by decide +kernel
theorem dL_cell_0 : decode cL_cell 0 = .ok (.iload_n 1, 1) := by decide +kernel
theorem dL_cell_1 : decode cL_cell 1 = .ok (.aload_n 0, 1) := by decide +kernel
theorem dL_cell_2 : decode cL_cell 2 = .ok (.arraylength, 1) := by decide +kernel
theorem dL_cell_3 : decode cL_cell 3 = .ok (.if_icmp .ge 9, 3) := by decide +kernel
theorem dL_cell_6 : decode cL_cell 6 = .ok (.aload_n 0, 1) := by decide +kernel
theorem dL_cell_7 : decode cL_cell 7 = .ok (.iload_n 1, 1) := by decide +kernel
theorem dL_cell_8 : decode cL_cell 8 = .ok (.iaload, 1) := by decide +kernel
theorem dL_cell_9 : decode cL_cell 9 = .ok (.goto 9, 3) := by decide +kernel
theorem dL_cell_12 : decode cL_cell 12 = .ok (.ldc 7, 2) := by decide +kernel
theorem dL_cell_14 : decode cL_cell 14 = .ok (.iload_n 1, 1) := by decide +kernel
theorem dL_cell_15 : decode cL_cell 15 = .ok (.iconst 3, 1) := by decide +kernel
theorem dL_cell_16 : decode cL_cell 16 = .ok (.iadd, 1) := by decide +kernel
theorem dL_cell_17 : decode cL_cell 17 = .ok (.imul, 1) := by decide +kernel
theorem dL_cell_18 : decode cL_cell 18 = .ok (.ireturn, 1) := by decide +kernel
theorem dL_low_0 : decode cL_low 0 = .ok (.iload_n 0, 1) := by decide +kernel
theorem dL_low_1 : decode cL_low 1 = .ok (.ldc 8, 2) := by decide +kernel
theorem dL_low_3 : decode cL_low 3 = .ok (.iand, 1) := by decide +kernel
theorem dL_low_4 : decode cL_low 4 = .ok (.iload_n 1, 1) := by decide +kernel
theorem dL_low_5 : decode cL_low 5 = .ok (.irem, 1) := by decide +kernel
theorem dL_low_6 : decode cL_low 6 = .ok (.ireturn, 1) := by decide +kernel
theorem dL_root_0 : decode cL_root 0 = .ok (.iconst 0, 1) := by decide +kernel
theorem dL_root_1 : decode cL_root 1 = .ok (.istore_n 1, 1) := by decide +kernel
theorem dL_root_2 : decode cL_root 2 = .ok (.sipush 16384, 3) := by decide +kernel
theorem dL_root_5 : decode cL_root 5 = .ok (.istore_n 2, 1) := by decide +kernel
theorem dL_root_6 : decode cL_root 6 = .ok (.iload_n 2, 1) := by decide +kernel
theorem dL_root_7 : decode cL_root 7 = .ok (.ifCond .le 29, 3) := by decide +kernel
theorem dL_root_10 : decode cL_root 10 = .ok (.iload_n 1, 1) := by decide +kernel
theorem dL_root_11 : decode cL_root 11 = .ok (.iload_n 1, 1) := by decide +kernel
theorem dL_root_12 : decode cL_root 12 = .ok (.iload_n 2, 1) := by decide +kernel
theorem dL_root_13 : decode cL_root 13 = .ok (.iadd, 1) := by decide +kernel
theorem dL_root_14 : decode cL_root 14 = .ok (.iload_n 1, 1) := by decide +kernel
theorem dL_root_15 : decode cL_root 15 = .ok (.iload_n 2, 1) := by decide +kernel
theorem dL_root_16 : decode cL_root 16 = .ok (.iadd, 1) := by decide +kernel
theorem dL_root_17 : decode cL_root 17 = .ok (.imul, 1) := by decide +kernel
theorem dL_root_18 : decode cL_root 18 = .ok (.iload_n 0, 1) := by decide +kernel
theorem dL_root_19 : decode cL_root 19 = .ok (.if_icmp .gt 7, 3) := by decide +kernel
theorem dL_root_22 : decode cL_root 22 = .ok (.iload_n 2, 1) := by decide +kernel
theorem dL_root_23 : decode cL_root 23 = .ok (.goto 4, 3) := by decide +kernel
theorem dL_root_26 : decode cL_root 26 = .ok (.iconst 0, 1) := by decide +kernel
theorem dL_root_27 : decode cL_root 27 = .ok (.iadd, 1) := by decide +kernel
theorem dL_root_28 : decode cL_root 28 = .ok (.istore_n 1, 1) := by decide +kernel
theorem dL_root_29 : decode cL_root 29 = .ok (.iload_n 2, 1) := by decide +kernel
theorem dL_root_30 : decode cL_root 30 = .ok (.iconst 2, 1) := by decide +kernel
theorem dL_root_31 : decode cL_root 31 = .ok (.idiv, 1) := by decide +kernel
theorem dL_root_32 : decode cL_root 32 = .ok (.istore_n 2, 1) := by decide +kernel
theorem dL_root_33 : decode cL_root 33 = .ok (.goto (-27), 3) := by decide +kernel
theorem dL_root_36 : decode cL_root 36 = .ok (.iload_n 1, 1) := by decide +kernel
theorem dL_root_37 : decode cL_root 37 = .ok (.ireturn, 1) := by decide +kernel
set_option maxRecDepth 20000 in
theorem ggL_takes_L_takesUp : GoodIn wsL_takes wsL_takesUp := goodIn_r _ [4] (by decide +kernel) (by decide +kernel)
set_option maxRecDepth 20000 in
theorem gL_takes_L_takesUp : GoodIn wsL_takes (va_wsS RL 9 yL_takesUp wsL_takesUp) := goodIn_app (goodIn_of _ (by decide +kernel)) ggL_takes_L_takesUp
theorem dL_takes_0 : decode cL_takes 0 = .ok (.iload_n 3, 1) := by decide +kernel
theorem dL_takes_1 : decode cL_takes 1 = .ok (.iload 5, 2) := by decide +kernel
theorem dL_takes_3 : decode cL_takes 3 = .ok (.if_icmp .le 17, 3) := by decide +kernel
theorem dL_takes_6 : decode cL_takes 6 = .ok (.iload_n 0, 1) := by decide +kernel
theorem dL_takes_7 : decode cL_takes 7 = .ok (.iload_n 1, 1) := by decide +kernel
theorem dL_takes_8 : decode cL_takes 8 = .ok (.iload_n 2, 1) := by decide +kernel
theorem dL_takes_9 : decode cL_takes 9 = .ok (.iload 5, 2) := by decide +kernel
theorem dL_takes_11 : decode cL_takes 11 = .ok (.iload 6, 2) := by decide +kernel
theorem dL_takes_13 : decode cL_takes 13 = .ok (.iload_n 3, 1) := by decide +kernel
theorem dL_takes_14 : decode cL_takes 14 = .ok (.iload 4, 2) := by decide +kernel
theorem dL_takes_16 : decode cL_takes 16 = .ok (.invokestatic 9, 3) := by decide +kernel
theorem dL_takes_19 : decode cL_takes 19 = .ok (.ireturn, 1) := by decide +kernel
theorem dL_takes_20 : decode cL_takes 20 = .ok (.iload_n 0, 1) := by decide +kernel
theorem dL_takes_21 : decode cL_takes 21 = .ok (.iload_n 1, 1) := by decide +kernel
theorem dL_takes_22 : decode cL_takes 22 = .ok (.iload_n 2, 1) := by decide +kernel
theorem dL_takes_23 : decode cL_takes 23 = .ok (.iload_n 3, 1) := by decide +kernel
theorem dL_takes_24 : decode cL_takes 24 = .ok (.iload 4, 2) := by decide +kernel
theorem dL_takes_26 : decode cL_takes 26 = .ok (.iload 5, 2) := by decide +kernel
theorem dL_takes_28 : decode cL_takes 28 = .ok (.iload 6, 2) := by decide +kernel
theorem dL_takes_30 : decode cL_takes 30 = .ok (.invokestatic 9, 3) := by decide +kernel
theorem dL_takes_33 : decode cL_takes 33 = .ok (.ireturn, 1) := by decide +kernel
theorem dL_takesUp_0 : decode cL_takesUp 0 = .ok (.iload 5, 2) := by decide +kernel
theorem dL_takesUp_2 : decode cL_takesUp 2 = .ok (.iload_n 3, 1) := by decide +kernel
theorem dL_takesUp_3 : decode cL_takesUp 3 = .ok (.isub, 1) := by decide +kernel
theorem dL_takesUp_4 : decode cL_takesUp 4 = .ok (.i2l, 1) := by decide +kernel
theorem dL_takesUp_5 : decode cL_takesUp 5 = .ok (.lstore 7, 2) := by decide +kernel
theorem dL_takesUp_7 : decode cL_takesUp 7 = .ok (.iload 5, 2) := by decide +kernel
theorem dL_takesUp_9 : decode cL_takesUp 9 = .ok (.iload_n 0, 1) := by decide +kernel
theorem dL_takesUp_10 : decode cL_takesUp 10 = .ok (.isub, 1) := by decide +kernel
theorem dL_takesUp_11 : decode cL_takesUp 11 = .ok (.i2l, 1) := by decide +kernel
theorem dL_takesUp_12 : decode cL_takesUp 12 = .ok (.iload 4, 2) := by decide +kernel
theorem dL_takesUp_14 : decode cL_takesUp 14 = .ok (.i2l, 1) := by decide +kernel
theorem dL_takesUp_15 : decode cL_takesUp 15 = .ok (.lmul, 1) := by decide +kernel
theorem dL_takesUp_16 : decode cL_takesUp 16 = .ok (.iload_n 0, 1) := by decide +kernel
theorem dL_takesUp_17 : decode cL_takesUp 17 = .ok (.iload_n 3, 1) := by decide +kernel
theorem dL_takesUp_18 : decode cL_takesUp 18 = .ok (.isub, 1) := by decide +kernel
theorem dL_takesUp_19 : decode cL_takesUp 19 = .ok (.i2l, 1) := by decide +kernel
theorem dL_takesUp_20 : decode cL_takesUp 20 = .ok (.iload 6, 2) := by decide +kernel
theorem dL_takesUp_22 : decode cL_takesUp 22 = .ok (.i2l, 1) := by decide +kernel
theorem dL_takesUp_23 : decode cL_takesUp 23 = .ok (.lmul, 1) := by decide +kernel
theorem dL_takesUp_24 : decode cL_takesUp 24 = .ok (.ladd, 1) := by decide +kernel
theorem dL_takesUp_25 : decode cL_takesUp 25 = .ok (.lstore 9, 2) := by decide +kernel
theorem dL_takesUp_27 : decode cL_takesUp 27 = .ok (.iload_n 3, 1) := by decide +kernel
theorem dL_takesUp_28 : decode cL_takesUp 28 = .ok (.iload_n 0, 1) := by decide +kernel
theorem dL_takesUp_29 : decode cL_takesUp 29 = .ok (.if_icmp .ge 35, 3) := by decide +kernel
theorem dL_takesUp_32 : decode cL_takesUp 32 = .ok (.iload_n 0, 1) := by decide +kernel
theorem dL_takesUp_33 : decode cL_takesUp 33 = .ok (.iload 5, 2) := by decide +kernel
theorem dL_takesUp_35 : decode cL_takesUp 35 = .ok (.if_icmp .ge 29, 3) := by decide +kernel
theorem dL_takesUp_38 : decode cL_takesUp 38 = .ok (.lload 9, 2) := by decide +kernel
theorem dL_takesUp_40 : decode cL_takesUp 40 = .ok (.iload_n 1, 1) := by decide +kernel
theorem dL_takesUp_41 : decode cL_takesUp 41 = .ok (.i2l, 1) := by decide +kernel
theorem dL_takesUp_42 : decode cL_takesUp 42 = .ok (.lload 7, 2) := by decide +kernel
theorem dL_takesUp_44 : decode cL_takesUp 44 = .ok (.lmul, 1) := by decide +kernel
theorem dL_takesUp_45 : decode cL_takesUp 45 = .ok (.lcmp, 1) := by decide +kernel
theorem dL_takesUp_46 : decode cL_takesUp 46 = .ok (.ifCond .lt 18, 3) := by decide +kernel
theorem dL_takesUp_49 : decode cL_takesUp 49 = .ok (.lload 9, 2) := by decide +kernel
theorem dL_takesUp_51 : decode cL_takesUp 51 = .ok (.iload_n 2, 1) := by decide +kernel
theorem dL_takesUp_52 : decode cL_takesUp 52 = .ok (.i2l, 1) := by decide +kernel
theorem dL_takesUp_53 : decode cL_takesUp 53 = .ok (.lload 7, 2) := by decide +kernel
theorem dL_takesUp_55 : decode cL_takesUp 55 = .ok (.lmul, 1) := by decide +kernel
theorem dL_takesUp_56 : decode cL_takesUp 56 = .ok (.lcmp, 1) := by decide +kernel
theorem dL_takesUp_57 : decode cL_takesUp 57 = .ok (.ifCond .gt 7, 3) := by decide +kernel
theorem dL_takesUp_60 : decode cL_takesUp 60 = .ok (.iconst 1, 1) := by decide +kernel
theorem dL_takesUp_61 : decode cL_takesUp 61 = .ok (.goto 4, 3) := by decide +kernel
theorem dL_takesUp_64 : decode cL_takesUp 64 = .ok (.iconst 0, 1) := by decide +kernel
theorem dL_takesUp_65 : decode cL_takesUp 65 = .ok (.ireturn, 1) := by decide +kernel
set_option maxRecDepth 20000 in
theorem ggL_lists_L_takes : GoodIn wsL_lists wsL_takes := goodIn_r _ [6, 7, 8, 5, 9] (by decide +kernel) (by decide +kernel)
set_option maxRecDepth 20000 in
theorem gL_lists_L_takes : GoodIn wsL_lists (va_wsS RL 15 yL_takes wsL_takes) := goodIn_app (goodIn_of _ (by decide +kernel)) ggL_lists_L_takes
set_option maxRecDepth 20000 in
theorem ggL_lists_L_root : GoodIn wsL_lists wsL_root := goodIn_r _ [12] (by decide +kernel) (by decide +kernel)
set_option maxRecDepth 20000 in
theorem gL_lists_L_root : GoodIn wsL_lists (va_wsS RL 18 yL_root wsL_root) := goodIn_app (goodIn_of _ (by decide +kernel)) ggL_lists_L_root
theorem dL_lists_0 : decode cL_lists 0 = .ok (.aload_n 1, 1) := by decide +kernel
theorem dL_lists_1 : decode cL_lists 1 = .ok (.bipush 10, 2) := by decide +kernel
theorem dL_lists_3 : decode cL_lists 3 = .ok (.iload 6, 2) := by decide +kernel
theorem dL_lists_5 : decode cL_lists 5 = .ok (.imul, 1) := by decide +kernel
theorem dL_lists_6 : decode cL_lists 6 = .ok (.iaload, 1) := by decide +kernel
theorem dL_lists_7 : decode cL_lists 7 = .ok (.istore 7, 2) := by decide +kernel
theorem dL_lists_9 : decode cL_lists 9 = .ok (.aload_n 1, 1) := by decide +kernel
theorem dL_lists_10 : decode cL_lists 10 = .ok (.bipush 10, 2) := by decide +kernel
theorem dL_lists_12 : decode cL_lists 12 = .ok (.iload 6, 2) := by decide +kernel
theorem dL_lists_14 : decode cL_lists 14 = .ok (.imul, 1) := by decide +kernel
theorem dL_lists_15 : decode cL_lists 15 = .ok (.iconst 1, 1) := by decide +kernel
theorem dL_lists_16 : decode cL_lists 16 = .ok (.iadd, 1) := by decide +kernel
theorem dL_lists_17 : decode cL_lists 17 = .ok (.iaload, 1) := by decide +kernel
theorem dL_lists_18 : decode cL_lists 18 = .ok (.istore 8, 2) := by decide +kernel
theorem dL_lists_20 : decode cL_lists 20 = .ok (.iconst 0, 1) := by decide +kernel
theorem dL_lists_21 : decode cL_lists 21 = .ok (.istore 9, 2) := by decide +kernel
theorem dL_lists_23 : decode cL_lists 23 = .ok (.iconst 0, 1) := by decide +kernel
theorem dL_lists_24 : decode cL_lists 24 = .ok (.istore 10, 2) := by decide +kernel
theorem dL_lists_26 : decode cL_lists 26 = .ok (.iconst 0, 1) := by decide +kernel
theorem dL_lists_27 : decode cL_lists 27 = .ok (.istore 11, 2) := by decide +kernel
theorem dL_lists_29 : decode cL_lists 29 = .ok (.iload 11, 2) := by decide +kernel
theorem dL_lists_31 : decode cL_lists 31 = .ok (.aload_n 0, 1) := by decide +kernel
theorem dL_lists_32 : decode cL_lists 32 = .ok (.iconst 4, 1) := by decide +kernel
theorem dL_lists_33 : decode cL_lists 33 = .ok (.iaload, 1) := by decide +kernel
theorem dL_lists_34 : decode cL_lists 34 = .ok (.if_icmp .ge 104, 3) := by decide +kernel
theorem dL_lists_37 : decode cL_lists 37 = .ok (.bipush 12, 2) := by decide +kernel
theorem dL_lists_39 : decode cL_lists 39 = .ok (.iconst 4, 1) := by decide +kernel
theorem dL_lists_40 : decode cL_lists 40 = .ok (.iload 11, 2) := by decide +kernel
theorem dL_lists_42 : decode cL_lists 42 = .ok (.imul, 1) := by decide +kernel
theorem dL_lists_43 : decode cL_lists 43 = .ok (.iadd, 1) := by decide +kernel
theorem dL_lists_44 : decode cL_lists 44 = .ok (.istore 12, 2) := by decide +kernel
theorem dL_lists_46 : decode cL_lists 46 = .ok (.iload 10, 2) := by decide +kernel
theorem dL_lists_48 : decode cL_lists 48 = .ok (.ifCond .ne 77, 3) := by decide +kernel
theorem dL_lists_51 : decode cL_lists 51 = .ok (.aload_n 2, 1) := by decide +kernel
theorem dL_lists_52 : decode cL_lists 52 = .ok (.iload 12, 2) := by decide +kernel
theorem dL_lists_54 : decode cL_lists 54 = .ok (.iaload, 1) := by decide +kernel
theorem dL_lists_55 : decode cL_lists 55 = .ok (.ifCond .ne 38, 3) := by decide +kernel
theorem dL_lists_58 : decode cL_lists 58 = .ok (.aload_n 2, 1) := by decide +kernel
theorem dL_lists_59 : decode cL_lists 59 = .ok (.iload 12, 2) := by decide +kernel
theorem dL_lists_61 : decode cL_lists 61 = .ok (.iconst 1, 1) := by decide +kernel
theorem dL_lists_62 : decode cL_lists 62 = .ok (.iadd, 1) := by decide +kernel
theorem dL_lists_63 : decode cL_lists 63 = .ok (.iaload, 1) := by decide +kernel
theorem dL_lists_64 : decode cL_lists 64 = .ok (.aload_n 2, 1) := by decide +kernel
theorem dL_lists_65 : decode cL_lists 65 = .ok (.iload 12, 2) := by decide +kernel
theorem dL_lists_67 : decode cL_lists 67 = .ok (.iconst 2, 1) := by decide +kernel
theorem dL_lists_68 : decode cL_lists 68 = .ok (.iadd, 1) := by decide +kernel
theorem dL_lists_69 : decode cL_lists 69 = .ok (.iaload, 1) := by decide +kernel
theorem dL_lists_70 : decode cL_lists 70 = .ok (.aload_n 2, 1) := by decide +kernel
theorem dL_lists_71 : decode cL_lists 71 = .ok (.iload 12, 2) := by decide +kernel
theorem dL_lists_73 : decode cL_lists 73 = .ok (.iconst 3, 1) := by decide +kernel
theorem dL_lists_74 : decode cL_lists 74 = .ok (.iadd, 1) := by decide +kernel
theorem dL_lists_75 : decode cL_lists 75 = .ok (.iaload, 1) := by decide +kernel
theorem dL_lists_76 : decode cL_lists 76 = .ok (.iload 4, 2) := by decide +kernel
theorem dL_lists_78 : decode cL_lists 78 = .ok (.iload 5, 2) := by decide +kernel
theorem dL_lists_80 : decode cL_lists 80 = .ok (.iload 7, 2) := by decide +kernel
theorem dL_lists_82 : decode cL_lists 82 = .ok (.iload 8, 2) := by decide +kernel
theorem dL_lists_84 : decode cL_lists 84 = .ok (.invokestatic 15, 3) := by decide +kernel
theorem dL_lists_87 : decode cL_lists 87 = .ok (.ifCond .eq 42, 3) := by decide +kernel
theorem dL_lists_90 : decode cL_lists 90 = .ok (.goto 35, 3) := by decide +kernel
theorem dL_lists_93 : decode cL_lists 93 = .ok (.aload_n 2, 1) := by decide +kernel
theorem dL_lists_94 : decode cL_lists 94 = .ok (.iload 12, 2) := by decide +kernel
theorem dL_lists_96 : decode cL_lists 96 = .ok (.iconst 1, 1) := by decide +kernel
theorem dL_lists_97 : decode cL_lists 97 = .ok (.iadd, 1) := by decide +kernel
theorem dL_lists_98 : decode cL_lists 98 = .ok (.iaload, 1) := by decide +kernel
theorem dL_lists_99 : decode cL_lists 99 = .ok (.aload_n 2, 1) := by decide +kernel
theorem dL_lists_100 : decode cL_lists 100 = .ok (.iload 12, 2) := by decide +kernel
theorem dL_lists_102 : decode cL_lists 102 = .ok (.iconst 2, 1) := by decide +kernel
theorem dL_lists_103 : decode cL_lists 103 = .ok (.iadd, 1) := by decide +kernel
theorem dL_lists_104 : decode cL_lists 104 = .ok (.iaload, 1) := by decide +kernel
theorem dL_lists_105 : decode cL_lists 105 = .ok (.aload_n 2, 1) := by decide +kernel
theorem dL_lists_106 : decode cL_lists 106 = .ok (.iload 12, 2) := by decide +kernel
theorem dL_lists_108 : decode cL_lists 108 = .ok (.iconst 3, 1) := by decide +kernel
theorem dL_lists_109 : decode cL_lists 109 = .ok (.iadd, 1) := by decide +kernel
theorem dL_lists_110 : decode cL_lists 110 = .ok (.iaload, 1) := by decide +kernel
theorem dL_lists_111 : decode cL_lists 111 = .ok (.iload 5, 2) := by decide +kernel
theorem dL_lists_113 : decode cL_lists 113 = .ok (.iload 4, 2) := by decide +kernel
theorem dL_lists_115 : decode cL_lists 115 = .ok (.iload 8, 2) := by decide +kernel
theorem dL_lists_117 : decode cL_lists 117 = .ok (.iload 7, 2) := by decide +kernel
theorem dL_lists_119 : decode cL_lists 119 = .ok (.invokestatic 15, 3) := by decide +kernel
theorem dL_lists_122 : decode cL_lists 122 = .ok (.ifCond .eq 7, 3) := by decide +kernel
theorem dL_lists_125 : decode cL_lists 125 = .ok (.iconst 1, 1) := by decide +kernel
theorem dL_lists_126 : decode cL_lists 126 = .ok (.goto 4, 3) := by decide +kernel
theorem dL_lists_129 : decode cL_lists 129 = .ok (.iconst 0, 1) := by decide +kernel
theorem dL_lists_130 : decode cL_lists 130 = .ok (.istore 10, 2) := by decide +kernel
theorem dL_lists_132 : decode cL_lists 132 = .ok (.iinc 11 1, 3) := by decide +kernel
theorem dL_lists_135 : decode cL_lists 135 = .ok (.goto (-106), 3) := by decide +kernel
theorem dL_lists_138 : decode cL_lists 138 = .ok (.iload 10, 2) := by decide +kernel
theorem dL_lists_140 : decode cL_lists 140 = .ok (.ifCond .eq 7, 3) := by decide +kernel
theorem dL_lists_143 : decode cL_lists 143 = .ok (.iconst 1, 1) := by decide +kernel
theorem dL_lists_144 : decode cL_lists 144 = .ok (.goto 4, 3) := by decide +kernel
theorem dL_lists_147 : decode cL_lists 147 = .ok (.iconst 0, 1) := by decide +kernel
theorem dL_lists_148 : decode cL_lists 148 = .ok (.istore 11, 2) := by decide +kernel
theorem dL_lists_150 : decode cL_lists 150 = .ok (.iload 11, 2) := by decide +kernel
theorem dL_lists_152 : decode cL_lists 152 = .ok (.iconst 1, 1) := by decide +kernel
theorem dL_lists_153 : decode cL_lists 153 = .ok (.aload_n 0, 1) := by decide +kernel
theorem dL_lists_154 : decode cL_lists 154 = .ok (.iconst 3, 1) := by decide +kernel
theorem dL_lists_155 : decode cL_lists 155 = .ok (.iaload, 1) := by decide +kernel
theorem dL_lists_156 : decode cL_lists 156 = .ok (.iadd, 1) := by decide +kernel
theorem dL_lists_157 : decode cL_lists 157 = .ok (.aload_n 0, 1) := by decide +kernel
theorem dL_lists_158 : decode cL_lists 158 = .ok (.bipush 8, 2) := by decide +kernel
theorem dL_lists_160 : decode cL_lists 160 = .ok (.iaload, 1) := by decide +kernel
theorem dL_lists_161 : decode cL_lists 161 = .ok (.iconst 2, 1) := by decide +kernel
theorem dL_lists_162 : decode cL_lists 162 = .ok (.if_icmp .ne 13, 3) := by decide +kernel
theorem dL_lists_165 : decode cL_lists 165 = .ok (.aload_n 0, 1) := by decide +kernel
theorem dL_lists_166 : decode cL_lists 166 = .ok (.iconst 3, 1) := by decide +kernel
theorem dL_lists_167 : decode cL_lists 167 = .ok (.iaload, 1) := by decide +kernel
theorem dL_lists_168 : decode cL_lists 168 = .ok (.aload_n 0, 1) := by decide +kernel
theorem dL_lists_169 : decode cL_lists 169 = .ok (.iconst 3, 1) := by decide +kernel
theorem dL_lists_170 : decode cL_lists 170 = .ok (.iaload, 1) := by decide +kernel
theorem dL_lists_171 : decode cL_lists 171 = .ok (.imul, 1) := by decide +kernel
theorem dL_lists_172 : decode cL_lists 172 = .ok (.goto 4, 3) := by decide +kernel
theorem dL_lists_175 : decode cL_lists 175 = .ok (.iconst 0, 1) := by decide +kernel
theorem dL_lists_176 : decode cL_lists 176 = .ok (.iadd, 1) := by decide +kernel
theorem dL_lists_177 : decode cL_lists 177 = .ok (.if_icmp .ge 407, 3) := by decide +kernel
theorem dL_lists_180 : decode cL_lists 180 = .ok (.iload 11, 2) := by decide +kernel
theorem dL_lists_182 : decode cL_lists 182 = .ok (.ifCond .ne 7, 3) := by decide +kernel
theorem dL_lists_185 : decode cL_lists 185 = .ok (.iconst (-1), 1) := by decide +kernel
theorem dL_lists_186 : decode cL_lists 186 = .ok (.goto 30, 3) := by decide +kernel
theorem dL_lists_189 : decode cL_lists 189 = .ok (.iload 11, 2) := by decide +kernel
theorem dL_lists_191 : decode cL_lists 191 = .ok (.aload_n 0, 1) := by decide +kernel
theorem dL_lists_192 : decode cL_lists 192 = .ok (.iconst 3, 1) := by decide +kernel
theorem dL_lists_193 : decode cL_lists 193 = .ok (.iaload, 1) := by decide +kernel
theorem dL_lists_194 : decode cL_lists 194 = .ok (.if_icmp .gt 10, 3) := by decide +kernel
theorem dL_lists_197 : decode cL_lists 197 = .ok (.iload 11, 2) := by decide +kernel
theorem dL_lists_199 : decode cL_lists 199 = .ok (.iconst 1, 1) := by decide +kernel
theorem dL_lists_200 : decode cL_lists 200 = .ok (.isub, 1) := by decide +kernel
theorem dL_lists_201 : decode cL_lists 201 = .ok (.goto 15, 3) := by decide +kernel
theorem dL_lists_204 : decode cL_lists 204 = .ok (.iload 11, 2) := by decide +kernel
theorem dL_lists_206 : decode cL_lists 206 = .ok (.iconst 1, 1) := by decide +kernel
theorem dL_lists_207 : decode cL_lists 207 = .ok (.isub, 1) := by decide +kernel
theorem dL_lists_208 : decode cL_lists 208 = .ok (.aload_n 0, 1) := by decide +kernel
theorem dL_lists_209 : decode cL_lists 209 = .ok (.iconst 3, 1) := by decide +kernel
theorem dL_lists_210 : decode cL_lists 210 = .ok (.iaload, 1) := by decide +kernel
theorem dL_lists_211 : decode cL_lists 211 = .ok (.isub, 1) := by decide +kernel
theorem dL_lists_212 : decode cL_lists 212 = .ok (.aload_n 0, 1) := by decide +kernel
theorem dL_lists_213 : decode cL_lists 213 = .ok (.iconst 3, 1) := by decide +kernel
theorem dL_lists_214 : decode cL_lists 214 = .ok (.iaload, 1) := by decide +kernel
theorem dL_lists_215 : decode cL_lists 215 = .ok (.idiv, 1) := by decide +kernel
theorem dL_lists_216 : decode cL_lists 216 = .ok (.istore 12, 2) := by decide +kernel
theorem dL_lists_218 : decode cL_lists 218 = .ok (.iload 11, 2) := by decide +kernel
theorem dL_lists_220 : decode cL_lists 220 = .ok (.aload_n 0, 1) := by decide +kernel
theorem dL_lists_221 : decode cL_lists 221 = .ok (.iconst 3, 1) := by decide +kernel
theorem dL_lists_222 : decode cL_lists 222 = .ok (.iaload, 1) := by decide +kernel
theorem dL_lists_223 : decode cL_lists 223 = .ok (.if_icmp .gt 7, 3) := by decide +kernel
theorem dL_lists_226 : decode cL_lists 226 = .ok (.iconst (-1), 1) := by decide +kernel
theorem dL_lists_227 : decode cL_lists 227 = .ok (.goto 15, 3) := by decide +kernel
theorem dL_lists_230 : decode cL_lists 230 = .ok (.iload 11, 2) := by decide +kernel
theorem dL_lists_232 : decode cL_lists 232 = .ok (.iconst 1, 1) := by decide +kernel
theorem dL_lists_233 : decode cL_lists 233 = .ok (.isub, 1) := by decide +kernel
theorem dL_lists_234 : decode cL_lists 234 = .ok (.aload_n 0, 1) := by decide +kernel
theorem dL_lists_235 : decode cL_lists 235 = .ok (.iconst 3, 1) := by decide +kernel
theorem dL_lists_236 : decode cL_lists 236 = .ok (.iaload, 1) := by decide +kernel
theorem dL_lists_237 : decode cL_lists 237 = .ok (.isub, 1) := by decide +kernel
theorem dL_lists_238 : decode cL_lists 238 = .ok (.aload_n 0, 1) := by decide +kernel
theorem dL_lists_239 : decode cL_lists 239 = .ok (.iconst 3, 1) := by decide +kernel
theorem dL_lists_240 : decode cL_lists 240 = .ok (.iaload, 1) := by decide +kernel
theorem dL_lists_241 : decode cL_lists 241 = .ok (.irem, 1) := by decide +kernel
theorem dL_lists_242 : decode cL_lists 242 = .ok (.istore 13, 2) := by decide +kernel
theorem dL_lists_244 : decode cL_lists 244 = .ok (.iload 12, 2) := by decide +kernel
theorem dL_lists_246 : decode cL_lists 246 = .ok (.ifCond .lt 10, 3) := by decide +kernel
theorem dL_lists_249 : decode cL_lists 249 = .ok (.iload 12, 2) := by decide +kernel
theorem dL_lists_251 : decode cL_lists 251 = .ok (.iload 13, 2) := by decide +kernel
theorem dL_lists_253 : decode cL_lists 253 = .ok (.if_icmp .eq 325, 3) := by decide +kernel
theorem dL_lists_256 : decode cL_lists 256 = .ok (.iload 12, 2) := by decide +kernel
theorem dL_lists_258 : decode cL_lists 258 = .ok (.ifCond .lt 13, 3) := by decide +kernel
theorem dL_lists_261 : decode cL_lists 261 = .ok (.aload_n 2, 1) := by decide +kernel
theorem dL_lists_262 : decode cL_lists 262 = .ok (.iconst 3, 1) := by decide +kernel
theorem dL_lists_263 : decode cL_lists 263 = .ok (.iload 12, 2) := by decide +kernel
theorem dL_lists_265 : decode cL_lists 265 = .ok (.imul, 1) := by decide +kernel
theorem dL_lists_266 : decode cL_lists 266 = .ok (.iaload, 1) := by decide +kernel
theorem dL_lists_267 : decode cL_lists 267 = .ok (.iconst 1, 1) := by decide +kernel
theorem dL_lists_268 : decode cL_lists 268 = .ok (.if_icmp .ne 8, 3) := by decide +kernel
theorem dL_lists_271 : decode cL_lists 271 = .ok (.iload 4, 2) := by decide +kernel
theorem dL_lists_273 : decode cL_lists 273 = .ok (.goto 16, 3) := by decide +kernel
theorem dL_lists_276 : decode cL_lists 276 = .ok (.iconst 2, 1) := by decide +kernel
theorem dL_lists_277 : decode cL_lists 277 = .ok (.aload_n 2, 1) := by decide +kernel
theorem dL_lists_278 : decode cL_lists 278 = .ok (.iconst 3, 1) := by decide +kernel
theorem dL_lists_279 : decode cL_lists 279 = .ok (.iload 12, 2) := by decide +kernel
theorem dL_lists_281 : decode cL_lists 281 = .ok (.imul, 1) := by decide +kernel
theorem dL_lists_282 : decode cL_lists 282 = .ok (.iconst 1, 1) := by decide +kernel
theorem dL_lists_283 : decode cL_lists 283 = .ok (.iadd, 1) := by decide +kernel
theorem dL_lists_284 : decode cL_lists 284 = .ok (.iaload, 1) := by decide +kernel
theorem dL_lists_285 : decode cL_lists 285 = .ok (.imul, 1) := by decide +kernel
theorem dL_lists_286 : decode cL_lists 286 = .ok (.iload 4, 2) := by decide +kernel
theorem dL_lists_288 : decode cL_lists 288 = .ok (.isub, 1) := by decide +kernel
theorem dL_lists_289 : decode cL_lists 289 = .ok (.istore 14, 2) := by decide +kernel
theorem dL_lists_291 : decode cL_lists 291 = .ok (.iload 12, 2) := by decide +kernel
theorem dL_lists_293 : decode cL_lists 293 = .ok (.ifCond .lt 12, 3) := by decide +kernel
theorem dL_lists_296 : decode cL_lists 296 = .ok (.aload_n 2, 1) := by decide +kernel
theorem dL_lists_297 : decode cL_lists 297 = .ok (.iconst 3, 1) := by decide +kernel
theorem dL_lists_298 : decode cL_lists 298 = .ok (.iload 12, 2) := by decide +kernel
theorem dL_lists_300 : decode cL_lists 300 = .ok (.imul, 1) := by decide +kernel
theorem dL_lists_301 : decode cL_lists 301 = .ok (.iaload, 1) := by decide +kernel
theorem dL_lists_302 : decode cL_lists 302 = .ok (.ifCond .ne 8, 3) := by decide +kernel
theorem dL_lists_305 : decode cL_lists 305 = .ok (.iload 5, 2) := by decide +kernel
theorem dL_lists_307 : decode cL_lists 307 = .ok (.goto 16, 3) := by decide +kernel
theorem dL_lists_310 : decode cL_lists 310 = .ok (.iconst 2, 1) := by decide +kernel
theorem dL_lists_311 : decode cL_lists 311 = .ok (.aload_n 2, 1) := by decide +kernel
theorem dL_lists_312 : decode cL_lists 312 = .ok (.iconst 3, 1) := by decide +kernel
theorem dL_lists_313 : decode cL_lists 313 = .ok (.iload 12, 2) := by decide +kernel
theorem dL_lists_315 : decode cL_lists 315 = .ok (.imul, 1) := by decide +kernel
theorem dL_lists_316 : decode cL_lists 316 = .ok (.iconst 1, 1) := by decide +kernel
theorem dL_lists_317 : decode cL_lists 317 = .ok (.iadd, 1) := by decide +kernel
theorem dL_lists_318 : decode cL_lists 318 = .ok (.iaload, 1) := by decide +kernel
theorem dL_lists_319 : decode cL_lists 319 = .ok (.imul, 1) := by decide +kernel
theorem dL_lists_320 : decode cL_lists 320 = .ok (.iload 5, 2) := by decide +kernel
theorem dL_lists_322 : decode cL_lists 322 = .ok (.isub, 1) := by decide +kernel
theorem dL_lists_323 : decode cL_lists 323 = .ok (.istore 15, 2) := by decide +kernel
theorem dL_lists_325 : decode cL_lists 325 = .ok (.iload 13, 2) := by decide +kernel
theorem dL_lists_327 : decode cL_lists 327 = .ok (.ifCond .lt 13, 3) := by decide +kernel
theorem dL_lists_330 : decode cL_lists 330 = .ok (.aload_n 2, 1) := by decide +kernel
theorem dL_lists_331 : decode cL_lists 331 = .ok (.iconst 3, 1) := by decide +kernel
theorem dL_lists_332 : decode cL_lists 332 = .ok (.iload 13, 2) := by decide +kernel
theorem dL_lists_334 : decode cL_lists 334 = .ok (.imul, 1) := by decide +kernel
theorem dL_lists_335 : decode cL_lists 335 = .ok (.iaload, 1) := by decide +kernel
theorem dL_lists_336 : decode cL_lists 336 = .ok (.iconst 1, 1) := by decide +kernel
theorem dL_lists_337 : decode cL_lists 337 = .ok (.if_icmp .ne 8, 3) := by decide +kernel
theorem dL_lists_340 : decode cL_lists 340 = .ok (.iload 14, 2) := by decide +kernel
theorem dL_lists_342 : decode cL_lists 342 = .ok (.goto 16, 3) := by decide +kernel
theorem dL_lists_345 : decode cL_lists 345 = .ok (.iconst 2, 1) := by decide +kernel
theorem dL_lists_346 : decode cL_lists 346 = .ok (.aload_n 2, 1) := by decide +kernel
theorem dL_lists_347 : decode cL_lists 347 = .ok (.iconst 3, 1) := by decide +kernel
theorem dL_lists_348 : decode cL_lists 348 = .ok (.iload 13, 2) := by decide +kernel
theorem dL_lists_350 : decode cL_lists 350 = .ok (.imul, 1) := by decide +kernel
theorem dL_lists_351 : decode cL_lists 351 = .ok (.iconst 1, 1) := by decide +kernel
theorem dL_lists_352 : decode cL_lists 352 = .ok (.iadd, 1) := by decide +kernel
theorem dL_lists_353 : decode cL_lists 353 = .ok (.iaload, 1) := by decide +kernel
theorem dL_lists_354 : decode cL_lists 354 = .ok (.imul, 1) := by decide +kernel
theorem dL_lists_355 : decode cL_lists 355 = .ok (.iload 14, 2) := by decide +kernel
theorem dL_lists_357 : decode cL_lists 357 = .ok (.isub, 1) := by decide +kernel
theorem dL_lists_358 : decode cL_lists 358 = .ok (.istore 16, 2) := by decide +kernel
theorem dL_lists_360 : decode cL_lists 360 = .ok (.iload 13, 2) := by decide +kernel
theorem dL_lists_362 : decode cL_lists 362 = .ok (.ifCond .lt 12, 3) := by decide +kernel
theorem dL_lists_365 : decode cL_lists 365 = .ok (.aload_n 2, 1) := by decide +kernel
theorem dL_lists_366 : decode cL_lists 366 = .ok (.iconst 3, 1) := by decide +kernel
theorem dL_lists_367 : decode cL_lists 367 = .ok (.iload 13, 2) := by decide +kernel
theorem dL_lists_369 : decode cL_lists 369 = .ok (.imul, 1) := by decide +kernel
theorem dL_lists_370 : decode cL_lists 370 = .ok (.iaload, 1) := by decide +kernel
theorem dL_lists_371 : decode cL_lists 371 = .ok (.ifCond .ne 8, 3) := by decide +kernel
theorem dL_lists_374 : decode cL_lists 374 = .ok (.iload 15, 2) := by decide +kernel
theorem dL_lists_376 : decode cL_lists 376 = .ok (.goto 16, 3) := by decide +kernel
theorem dL_lists_379 : decode cL_lists 379 = .ok (.iconst 2, 1) := by decide +kernel
theorem dL_lists_380 : decode cL_lists 380 = .ok (.aload_n 2, 1) := by decide +kernel
theorem dL_lists_381 : decode cL_lists 381 = .ok (.iconst 3, 1) := by decide +kernel
theorem dL_lists_382 : decode cL_lists 382 = .ok (.iload 13, 2) := by decide +kernel
theorem dL_lists_384 : decode cL_lists 384 = .ok (.imul, 1) := by decide +kernel
theorem dL_lists_385 : decode cL_lists 385 = .ok (.iconst 1, 1) := by decide +kernel
theorem dL_lists_386 : decode cL_lists 386 = .ok (.iadd, 1) := by decide +kernel
theorem dL_lists_387 : decode cL_lists 387 = .ok (.iaload, 1) := by decide +kernel
theorem dL_lists_388 : decode cL_lists 388 = .ok (.imul, 1) := by decide +kernel
theorem dL_lists_389 : decode cL_lists 389 = .ok (.iload 15, 2) := by decide +kernel
theorem dL_lists_391 : decode cL_lists 391 = .ok (.isub, 1) := by decide +kernel
theorem dL_lists_392 : decode cL_lists 392 = .ok (.istore 17, 2) := by decide +kernel
theorem dL_lists_394 : decode cL_lists 394 = .ok (.iload 16, 2) := by decide +kernel
theorem dL_lists_396 : decode cL_lists 396 = .ok (.iload 7, 2) := by decide +kernel
theorem dL_lists_398 : decode cL_lists 398 = .ok (.isub, 1) := by decide +kernel
theorem dL_lists_399 : decode cL_lists 399 = .ok (.iload 16, 2) := by decide +kernel
theorem dL_lists_401 : decode cL_lists 401 = .ok (.iload 7, 2) := by decide +kernel
theorem dL_lists_403 : decode cL_lists 403 = .ok (.isub, 1) := by decide +kernel
theorem dL_lists_404 : decode cL_lists 404 = .ok (.imul, 1) := by decide +kernel
theorem dL_lists_405 : decode cL_lists 405 = .ok (.iload 17, 2) := by decide +kernel
theorem dL_lists_407 : decode cL_lists 407 = .ok (.iload 8, 2) := by decide +kernel
theorem dL_lists_409 : decode cL_lists 409 = .ok (.isub, 1) := by decide +kernel
theorem dL_lists_410 : decode cL_lists 410 = .ok (.iload 17, 2) := by decide +kernel
theorem dL_lists_412 : decode cL_lists 412 = .ok (.iload 8, 2) := by decide +kernel
theorem dL_lists_414 : decode cL_lists 414 = .ok (.isub, 1) := by decide +kernel
theorem dL_lists_415 : decode cL_lists 415 = .ok (.imul, 1) := by decide +kernel
theorem dL_lists_416 : decode cL_lists 416 = .ok (.iadd, 1) := by decide +kernel
theorem dL_lists_417 : decode cL_lists 417 = .ok (.invokestatic 18, 3) := by decide +kernel
theorem dL_lists_420 : decode cL_lists 420 = .ok (.istore 18, 2) := by decide +kernel
theorem dL_lists_422 : decode cL_lists 422 = .ok (.ldc 22, 2) := by decide +kernel
theorem dL_lists_424 : decode cL_lists 424 = .ok (.iload 18, 2) := by decide +kernel
theorem dL_lists_426 : decode cL_lists 426 = .ok (.bipush 100, 2) := by decide +kernel
theorem dL_lists_428 : decode cL_lists 428 = .ok (.iadd, 1) := by decide +kernel
theorem dL_lists_429 : decode cL_lists 429 = .ok (.idiv, 1) := by decide +kernel
theorem dL_lists_430 : decode cL_lists 430 = .ok (.istore 19, 2) := by decide +kernel
theorem dL_lists_432 : decode cL_lists 432 = .ok (.iload 12, 2) := by decide +kernel
theorem dL_lists_434 : decode cL_lists 434 = .ok (.ifCond .ge 8, 3) := by decide +kernel
theorem dL_lists_437 : decode cL_lists 437 = .ok (.iload 19, 2) := by decide +kernel
theorem dL_lists_439 : decode cL_lists 439 = .ok (.goto 20, 3) := by decide +kernel
theorem dL_lists_442 : decode cL_lists 442 = .ok (.iload 19, 2) := by decide +kernel
theorem dL_lists_444 : decode cL_lists 444 = .ok (.bipush 100, 2) := by decide +kernel
theorem dL_lists_446 : decode cL_lists 446 = .ok (.aload_n 2, 1) := by decide +kernel
theorem dL_lists_447 : decode cL_lists 447 = .ok (.iconst 3, 1) := by decide +kernel
theorem dL_lists_448 : decode cL_lists 448 = .ok (.iload 12, 2) := by decide +kernel
theorem dL_lists_450 : decode cL_lists 450 = .ok (.imul, 1) := by decide +kernel
theorem dL_lists_451 : decode cL_lists 451 = .ok (.iconst 2, 1) := by decide +kernel
theorem dL_lists_452 : decode cL_lists 452 = .ok (.iadd, 1) := by decide +kernel
theorem dL_lists_453 : decode cL_lists 453 = .ok (.iaload, 1) := by decide +kernel
theorem dL_lists_454 : decode cL_lists 454 = .ok (.isub, 1) := by decide +kernel
theorem dL_lists_455 : decode cL_lists 455 = .ok (.imul, 1) := by decide +kernel
theorem dL_lists_456 : decode cL_lists 456 = .ok (.bipush 100, 2) := by decide +kernel
theorem dL_lists_458 : decode cL_lists 458 = .ok (.idiv, 1) := by decide +kernel
theorem dL_lists_459 : decode cL_lists 459 = .ok (.istore 19, 2) := by decide +kernel
theorem dL_lists_461 : decode cL_lists 461 = .ok (.iload 13, 2) := by decide +kernel
theorem dL_lists_463 : decode cL_lists 463 = .ok (.ifCond .ge 8, 3) := by decide +kernel
theorem dL_lists_466 : decode cL_lists 466 = .ok (.iload 19, 2) := by decide +kernel
theorem dL_lists_468 : decode cL_lists 468 = .ok (.goto 20, 3) := by decide +kernel
theorem dL_lists_471 : decode cL_lists 471 = .ok (.iload 19, 2) := by decide +kernel
theorem dL_lists_473 : decode cL_lists 473 = .ok (.bipush 100, 2) := by decide +kernel
theorem dL_lists_475 : decode cL_lists 475 = .ok (.aload_n 2, 1) := by decide +kernel
theorem dL_lists_476 : decode cL_lists 476 = .ok (.iconst 3, 1) := by decide +kernel
theorem dL_lists_477 : decode cL_lists 477 = .ok (.iload 13, 2) := by decide +kernel
theorem dL_lists_479 : decode cL_lists 479 = .ok (.imul, 1) := by decide +kernel
theorem dL_lists_480 : decode cL_lists 480 = .ok (.iconst 2, 1) := by decide +kernel
theorem dL_lists_481 : decode cL_lists 481 = .ok (.iadd, 1) := by decide +kernel
theorem dL_lists_482 : decode cL_lists 482 = .ok (.iaload, 1) := by decide +kernel
theorem dL_lists_483 : decode cL_lists 483 = .ok (.isub, 1) := by decide +kernel
theorem dL_lists_484 : decode cL_lists 484 = .ok (.imul, 1) := by decide +kernel
theorem dL_lists_485 : decode cL_lists 485 = .ok (.bipush 100, 2) := by decide +kernel
theorem dL_lists_487 : decode cL_lists 487 = .ok (.idiv, 1) := by decide +kernel
theorem dL_lists_488 : decode cL_lists 488 = .ok (.istore 19, 2) := by decide +kernel
theorem dL_lists_490 : decode cL_lists 490 = .ok (.aload_n 3, 1) := by decide +kernel
theorem dL_lists_491 : decode cL_lists 491 = .ok (.iconst 5, 1) := by decide +kernel
theorem dL_lists_492 : decode cL_lists 492 = .ok (.iload 9, 2) := by decide +kernel
theorem dL_lists_494 : decode cL_lists 494 = .ok (.imul, 1) := by decide +kernel
theorem dL_lists_495 : decode cL_lists 495 = .ok (.iload 12, 2) := by decide +kernel
theorem dL_lists_497 : decode cL_lists 497 = .ok (.ifCond .ge 7, 3) := by decide +kernel
theorem dL_lists_500 : decode cL_lists 500 = .ok (.iconst 0, 1) := by decide +kernel
theorem dL_lists_501 : decode cL_lists 501 = .ok (.goto 13, 3) := by decide +kernel
theorem dL_lists_504 : decode cL_lists 504 = .ok (.iload 13, 2) := by decide +kernel
theorem dL_lists_506 : decode cL_lists 506 = .ok (.ifCond .ge 7, 3) := by decide +kernel
theorem dL_lists_509 : decode cL_lists 509 = .ok (.iconst 1, 1) := by decide +kernel
theorem dL_lists_510 : decode cL_lists 510 = .ok (.goto 4, 3) := by decide +kernel
theorem dL_lists_513 : decode cL_lists 513 = .ok (.iconst 2, 1) := by decide +kernel
theorem dL_lists_514 : decode cL_lists 514 = .ok (.iastore, 1) := by decide +kernel
theorem dL_lists_515 : decode cL_lists 515 = .ok (.aload_n 3, 1) := by decide +kernel
theorem dL_lists_516 : decode cL_lists 516 = .ok (.iconst 5, 1) := by decide +kernel
theorem dL_lists_517 : decode cL_lists 517 = .ok (.iload 9, 2) := by decide +kernel
theorem dL_lists_519 : decode cL_lists 519 = .ok (.imul, 1) := by decide +kernel
theorem dL_lists_520 : decode cL_lists 520 = .ok (.iconst 1, 1) := by decide +kernel
theorem dL_lists_521 : decode cL_lists 521 = .ok (.iadd, 1) := by decide +kernel
theorem dL_lists_522 : decode cL_lists 522 = .ok (.iload 18, 2) := by decide +kernel
theorem dL_lists_524 : decode cL_lists 524 = .ok (.iastore, 1) := by decide +kernel
theorem dL_lists_525 : decode cL_lists 525 = .ok (.aload_n 3, 1) := by decide +kernel
theorem dL_lists_526 : decode cL_lists 526 = .ok (.iconst 5, 1) := by decide +kernel
theorem dL_lists_527 : decode cL_lists 527 = .ok (.iload 9, 2) := by decide +kernel
theorem dL_lists_529 : decode cL_lists 529 = .ok (.imul, 1) := by decide +kernel
theorem dL_lists_530 : decode cL_lists 530 = .ok (.iconst 2, 1) := by decide +kernel
theorem dL_lists_531 : decode cL_lists 531 = .ok (.iadd, 1) := by decide +kernel
theorem dL_lists_532 : decode cL_lists 532 = .ok (.iload 19, 2) := by decide +kernel
theorem dL_lists_534 : decode cL_lists 534 = .ok (.iastore, 1) := by decide +kernel
theorem dL_lists_535 : decode cL_lists 535 = .ok (.aload_n 3, 1) := by decide +kernel
theorem dL_lists_536 : decode cL_lists 536 = .ok (.iconst 5, 1) := by decide +kernel
theorem dL_lists_537 : decode cL_lists 537 = .ok (.iload 9, 2) := by decide +kernel
theorem dL_lists_539 : decode cL_lists 539 = .ok (.imul, 1) := by decide +kernel
theorem dL_lists_540 : decode cL_lists 540 = .ok (.iconst 3, 1) := by decide +kernel
theorem dL_lists_541 : decode cL_lists 541 = .ok (.iadd, 1) := by decide +kernel
theorem dL_lists_542 : decode cL_lists 542 = .ok (.iload 12, 2) := by decide +kernel
theorem dL_lists_544 : decode cL_lists 544 = .ok (.ifCond .ge 8, 3) := by decide +kernel
theorem dL_lists_547 : decode cL_lists 547 = .ok (.ldc 23, 2) := by decide +kernel
theorem dL_lists_549 : decode cL_lists 549 = .ok (.goto 5, 3) := by decide +kernel
theorem dL_lists_552 : decode cL_lists 552 = .ok (.iload 12, 2) := by decide +kernel
theorem dL_lists_554 : decode cL_lists 554 = .ok (.iastore, 1) := by decide +kernel
theorem dL_lists_555 : decode cL_lists 555 = .ok (.aload_n 3, 1) := by decide +kernel
theorem dL_lists_556 : decode cL_lists 556 = .ok (.iconst 5, 1) := by decide +kernel
theorem dL_lists_557 : decode cL_lists 557 = .ok (.iload 9, 2) := by decide +kernel
theorem dL_lists_559 : decode cL_lists 559 = .ok (.imul, 1) := by decide +kernel
theorem dL_lists_560 : decode cL_lists 560 = .ok (.iconst 4, 1) := by decide +kernel
theorem dL_lists_561 : decode cL_lists 561 = .ok (.iadd, 1) := by decide +kernel
theorem dL_lists_562 : decode cL_lists 562 = .ok (.iload 13, 2) := by decide +kernel
theorem dL_lists_564 : decode cL_lists 564 = .ok (.ifCond .ge 8, 3) := by decide +kernel
theorem dL_lists_567 : decode cL_lists 567 = .ok (.ldc 23, 2) := by decide +kernel
theorem dL_lists_569 : decode cL_lists 569 = .ok (.goto 5, 3) := by decide +kernel
theorem dL_lists_572 : decode cL_lists 572 = .ok (.iload 13, 2) := by decide +kernel
theorem dL_lists_574 : decode cL_lists 574 = .ok (.iastore, 1) := by decide +kernel
theorem dL_lists_575 : decode cL_lists 575 = .ok (.iinc 9 1, 3) := by decide +kernel
theorem dL_lists_578 : decode cL_lists 578 = .ok (.iinc 11 1, 3) := by decide +kernel
theorem dL_lists_581 : decode cL_lists 581 = .ok (.goto (-431), 3) := by decide +kernel
theorem dL_lists_584 : decode cL_lists 584 = .ok (.iload 9, 2) := by decide +kernel
theorem dL_lists_586 : decode cL_lists 586 = .ok (.ireturn, 1) := by decide +kernel
theorem dL_draw_0 : decode cL_draw 0 = .ok (.aload_n 0, 1) := by decide +kernel
theorem dL_draw_1 : decode cL_draw 1 = .ok (.bipush 6, 2) := by decide +kernel
theorem dL_draw_3 : decode cL_draw 3 = .ok (.ldc2_w 24, 3) := by decide +kernel
theorem dL_draw_6 : decode cL_draw 6 = .ok (.aload_n 0, 1) := by decide +kernel
theorem dL_draw_7 : decode cL_draw 7 = .ok (.bipush 6, 2) := by decide +kernel
theorem dL_draw_9 : decode cL_draw 9 = .ok (.iaload, 1) := by decide +kernel
theorem dL_draw_10 : decode cL_draw 10 = .ok (.i2l, 1) := by decide +kernel
theorem dL_draw_11 : decode cL_draw 11 = .ok (.lmul, 1) := by decide +kernel
theorem dL_draw_12 : decode cL_draw 12 = .ok (.ldc2_w 26, 3) := by decide +kernel
theorem dL_draw_15 : decode cL_draw 15 = .ok (.ladd, 1) := by decide +kernel
theorem dL_draw_16 : decode cL_draw 16 = .ok (.ldc2_w 28, 3) := by decide +kernel
theorem dL_draw_19 : decode cL_draw 19 = .ok (.lrem, 1) := by decide +kernel
theorem dL_draw_20 : decode cL_draw 20 = .ok (.l2i, 1) := by decide +kernel
theorem dL_draw_21 : decode cL_draw 21 = .ok (.iastore, 1) := by decide +kernel
theorem dL_draw_22 : decode cL_draw 22 = .ok (.aload_n 0, 1) := by decide +kernel
theorem dL_draw_23 : decode cL_draw 23 = .ok (.bipush 6, 2) := by decide +kernel
theorem dL_draw_25 : decode cL_draw 25 = .ok (.iaload, 1) := by decide +kernel
theorem dL_draw_26 : decode cL_draw 26 = .ok (.ldc 30, 2) := by decide +kernel
theorem dL_draw_28 : decode cL_draw 28 = .ok (.idiv, 1) := by decide +kernel
theorem dL_draw_29 : decode cL_draw 29 = .ok (.iload_n 1, 1) := by decide +kernel
theorem dL_draw_30 : decode cL_draw 30 = .ok (.irem, 1) := by decide +kernel
theorem dL_draw_31 : decode cL_draw 31 = .ok (.ireturn, 1) := by decide +kernel
set_option maxRecDepth 20000 in
theorem ggL_hears_L_lists : GoodIn wsL_hears wsL_lists := goodIn_r _ [6, 7, 2, 8, 9, 5, 10, 11, 12, 13, 14, 15, 16] (by decide +kernel) (by decide +kernel)
set_option maxRecDepth 20000 in
theorem gL_hears_L_lists : GoodIn wsL_hears (va_wsS RL 31 yL_lists wsL_lists) := goodIn_app (goodIn_of _ (by decide +kernel)) ggL_hears_L_lists
set_option maxRecDepth 20000 in
theorem ggL_hears_L_draw : GoodIn wsL_hears wsL_draw := goodIn_r _ [19, 20, 21, 22, 23] (by decide +kernel) (by decide +kernel)
set_option maxRecDepth 20000 in
theorem gL_hears_L_draw : GoodIn wsL_hears (va_wsS RL 35 yL_draw wsL_draw) := goodIn_app (goodIn_of _ (by decide +kernel)) ggL_hears_L_draw
theorem dL_hears_0 : decode cL_hears 0 = .ok (.bipush 60, 2) := by decide +kernel
theorem dL_hears_2 : decode cL_hears 2 = .ok (.newarray .int, 2) := by decide +kernel
theorem dL_hears_4 : decode cL_hears 4 = .ok (.astore 6, 2) := by decide +kernel
theorem dL_hears_6 : decode cL_hears 6 = .ok (.iconst 0, 1) := by decide +kernel
theorem dL_hears_7 : decode cL_hears 7 = .ok (.istore 7, 2) := by decide +kernel
theorem dL_hears_9 : decode cL_hears 9 = .ok (.iconst 0, 1) := by decide +kernel
theorem dL_hears_10 : decode cL_hears 10 = .ok (.istore 8, 2) := by decide +kernel
theorem dL_hears_12 : decode cL_hears 12 = .ok (.iload 8, 2) := by decide +kernel
theorem dL_hears_14 : decode cL_hears 14 = .ok (.aload_n 0, 1) := by decide +kernel
theorem dL_hears_15 : decode cL_hears 15 = .ok (.iconst 2, 1) := by decide +kernel
theorem dL_hears_16 : decode cL_hears 16 = .ok (.iaload, 1) := by decide +kernel
theorem dL_hears_17 : decode cL_hears 17 = .ok (.if_icmp .ge 367, 3) := by decide +kernel
theorem dL_hears_20 : decode cL_hears 20 = .ok (.aload_n 0, 1) := by decide +kernel
theorem dL_hears_21 : decode cL_hears 21 = .ok (.aload_n 1, 1) := by decide +kernel
theorem dL_hears_22 : decode cL_hears 22 = .ok (.aload_n 2, 1) := by decide +kernel
theorem dL_hears_23 : decode cL_hears 23 = .ok (.aload 6, 2) := by decide +kernel
theorem dL_hears_25 : decode cL_hears 25 = .ok (.iload_n 3, 1) := by decide +kernel
theorem dL_hears_26 : decode cL_hears 26 = .ok (.iload 4, 2) := by decide +kernel
theorem dL_hears_28 : decode cL_hears 28 = .ok (.iload 8, 2) := by decide +kernel
theorem dL_hears_30 : decode cL_hears 30 = .ok (.invokestatic 31, 3) := by decide +kernel
theorem dL_hears_33 : decode cL_hears 33 = .ok (.istore 9, 2) := by decide +kernel
theorem dL_hears_35 : decode cL_hears 35 = .ok (.iconst (-1), 1) := by decide +kernel
theorem dL_hears_36 : decode cL_hears 36 = .ok (.istore 10, 2) := by decide +kernel
theorem dL_hears_38 : decode cL_hears 38 = .ok (.iconst 0, 1) := by decide +kernel
theorem dL_hears_39 : decode cL_hears 39 = .ok (.istore 11, 2) := by decide +kernel
theorem dL_hears_41 : decode cL_hears 41 = .ok (.iconst 0, 1) := by decide +kernel
theorem dL_hears_42 : decode cL_hears 42 = .ok (.istore 12, 2) := by decide +kernel
theorem dL_hears_44 : decode cL_hears 44 = .ok (.iload 12, 2) := by decide +kernel
theorem dL_hears_46 : decode cL_hears 46 = .ok (.iload 9, 2) := by decide +kernel
theorem dL_hears_48 : decode cL_hears 48 = .ok (.if_icmp .ge 171, 3) := by decide +kernel
theorem dL_hears_51 : decode cL_hears 51 = .ok (.iconst 0, 1) := by decide +kernel
theorem dL_hears_52 : decode cL_hears 52 = .ok (.istore 13, 2) := by decide +kernel
theorem dL_hears_54 : decode cL_hears 54 = .ok (.aload_n 0, 1) := by decide +kernel
theorem dL_hears_55 : decode cL_hears 55 = .ok (.bipush 100, 2) := by decide +kernel
theorem dL_hears_57 : decode cL_hears 57 = .ok (.invokestatic 35, 3) := by decide +kernel
theorem dL_hears_60 : decode cL_hears 60 = .ok (.aload_n 0, 1) := by decide +kernel
theorem dL_hears_61 : decode cL_hears 61 = .ok (.bipush 9, 2) := by decide +kernel
theorem dL_hears_63 : decode cL_hears 63 = .ok (.iaload, 1) := by decide +kernel
theorem dL_hears_64 : decode cL_hears 64 = .ok (.if_icmp .lt 7, 3) := by decide +kernel
theorem dL_hears_67 : decode cL_hears 67 = .ok (.iconst 1, 1) := by decide +kernel
theorem dL_hears_68 : decode cL_hears 68 = .ok (.goto 4, 3) := by decide +kernel
theorem dL_hears_71 : decode cL_hears 71 = .ok (.iconst 0, 1) := by decide +kernel
theorem dL_hears_72 : decode cL_hears 72 = .ok (.istore 14, 2) := by decide +kernel
theorem dL_hears_74 : decode cL_hears 74 = .ok (.iload 14, 2) := by decide +kernel
theorem dL_hears_76 : decode cL_hears 76 = .ok (.ifCond .eq 29, 3) := by decide +kernel
theorem dL_hears_79 : decode cL_hears 79 = .ok (.aload_n 0, 1) := by decide +kernel
theorem dL_hears_80 : decode cL_hears 80 = .ok (.bipush 10, 2) := by decide +kernel
theorem dL_hears_82 : decode cL_hears 82 = .ok (.iaload, 1) := by decide +kernel
theorem dL_hears_83 : decode cL_hears 83 = .ok (.ifCond .le 22, 3) := by decide +kernel
theorem dL_hears_86 : decode cL_hears 86 = .ok (.aload_n 0, 1) := by decide +kernel
theorem dL_hears_87 : decode cL_hears 87 = .ok (.iconst 2, 1) := by decide +kernel
theorem dL_hears_88 : decode cL_hears 88 = .ok (.aload_n 0, 1) := by decide +kernel
theorem dL_hears_89 : decode cL_hears 89 = .ok (.bipush 10, 2) := by decide +kernel
theorem dL_hears_91 : decode cL_hears 91 = .ok (.iaload, 1) := by decide +kernel
theorem dL_hears_92 : decode cL_hears 92 = .ok (.imul, 1) := by decide +kernel
theorem dL_hears_93 : decode cL_hears 93 = .ok (.iconst 1, 1) := by decide +kernel
theorem dL_hears_94 : decode cL_hears 94 = .ok (.iadd, 1) := by decide +kernel
theorem dL_hears_95 : decode cL_hears 95 = .ok (.invokestatic 35, 3) := by decide +kernel
theorem dL_hears_98 : decode cL_hears 98 = .ok (.aload_n 0, 1) := by decide +kernel
theorem dL_hears_99 : decode cL_hears 99 = .ok (.bipush 10, 2) := by decide +kernel
theorem dL_hears_101 : decode cL_hears 101 = .ok (.iaload, 1) := by decide +kernel
theorem dL_hears_102 : decode cL_hears 102 = .ok (.isub, 1) := by decide +kernel
theorem dL_hears_103 : decode cL_hears 103 = .ok (.istore 13, 2) := by decide +kernel
theorem dL_hears_105 : decode cL_hears 105 = .ok (.iload 5, 2) := by decide +kernel
theorem dL_hears_107 : decode cL_hears 107 = .ok (.aload 6, 2) := by decide +kernel
theorem dL_hears_109 : decode cL_hears 109 = .ok (.iconst 5, 1) := by decide +kernel
theorem dL_hears_110 : decode cL_hears 110 = .ok (.iload 12, 2) := by decide +kernel
theorem dL_hears_112 : decode cL_hears 112 = .ok (.imul, 1) := by decide +kernel
theorem dL_hears_113 : decode cL_hears 113 = .ok (.iconst 1, 1) := by decide +kernel
theorem dL_hears_114 : decode cL_hears 114 = .ok (.iadd, 1) := by decide +kernel
theorem dL_hears_115 : decode cL_hears 115 = .ok (.iaload, 1) := by decide +kernel
theorem dL_hears_116 : decode cL_hears 116 = .ok (.sipush 1000, 3) := by decide +kernel
theorem dL_hears_119 : decode cL_hears 119 = .ok (.imul, 1) := by decide +kernel
theorem dL_hears_120 : decode cL_hears 120 = .ok (.aload_n 0, 1) := by decide +kernel
theorem dL_hears_121 : decode cL_hears 121 = .ok (.bipush 7, 2) := by decide +kernel
theorem dL_hears_123 : decode cL_hears 123 = .ok (.iaload, 1) := by decide +kernel
theorem dL_hears_124 : decode cL_hears 124 = .ok (.idiv, 1) := by decide +kernel
theorem dL_hears_125 : decode cL_hears 125 = .ok (.iadd, 1) := by decide +kernel
theorem dL_hears_126 : decode cL_hears 126 = .ok (.aload_n 1, 1) := by decide +kernel
theorem dL_hears_127 : decode cL_hears 127 = .ok (.bipush 10, 2) := by decide +kernel
theorem dL_hears_129 : decode cL_hears 129 = .ok (.iload 8, 2) := by decide +kernel
theorem dL_hears_131 : decode cL_hears 131 = .ok (.imul, 1) := by decide +kernel
theorem dL_hears_132 : decode cL_hears 132 = .ok (.iconst 2, 1) := by decide +kernel
theorem dL_hears_133 : decode cL_hears 133 = .ok (.iadd, 1) := by decide +kernel
theorem dL_hears_134 : decode cL_hears 134 = .ok (.iaload, 1) := by decide +kernel
theorem dL_hears_135 : decode cL_hears 135 = .ok (.iadd, 1) := by decide +kernel
theorem dL_hears_136 : decode cL_hears 136 = .ok (.iload 13, 2) := by decide +kernel
theorem dL_hears_138 : decode cL_hears 138 = .ok (.iadd, 1) := by decide +kernel
theorem dL_hears_139 : decode cL_hears 139 = .ok (.istore 15, 2) := by decide +kernel
theorem dL_hears_141 : decode cL_hears 141 = .ok (.iload 14, 2) := by decide +kernel
theorem dL_hears_143 : decode cL_hears 143 = .ok (.ifCond .eq 70, 3) := by decide +kernel
theorem dL_hears_146 : decode cL_hears 146 = .ok (.aload 6, 2) := by decide +kernel
theorem dL_hears_148 : decode cL_hears 148 = .ok (.iconst 5, 1) := by decide +kernel
theorem dL_hears_149 : decode cL_hears 149 = .ok (.iload 12, 2) := by decide +kernel
theorem dL_hears_151 : decode cL_hears 151 = .ok (.imul, 1) := by decide +kernel
theorem dL_hears_152 : decode cL_hears 152 = .ok (.iconst 2, 1) := by decide +kernel
theorem dL_hears_153 : decode cL_hears 153 = .ok (.iadd, 1) := by decide +kernel
theorem dL_hears_154 : decode cL_hears 154 = .ok (.iaload, 1) := by decide +kernel
theorem dL_hears_155 : decode cL_hears 155 = .ok (.aload_n 0, 1) := by decide +kernel
theorem dL_hears_156 : decode cL_hears 156 = .ok (.bipush 11, 2) := by decide +kernel
theorem dL_hears_158 : decode cL_hears 158 = .ok (.iaload, 1) := by decide +kernel
theorem dL_hears_159 : decode cL_hears 159 = .ok (.if_icmp .lt 54, 3) := by decide +kernel
theorem dL_hears_162 : decode cL_hears 162 = .ok (.iload 10, 2) := by decide +kernel
theorem dL_hears_164 : decode cL_hears 164 = .ok (.ifCond .lt 41, 3) := by decide +kernel
theorem dL_hears_167 : decode cL_hears 167 = .ok (.aload_n 0, 1) := by decide +kernel
theorem dL_hears_168 : decode cL_hears 168 = .ok (.bipush 12, 2) := by decide +kernel
theorem dL_hears_170 : decode cL_hears 170 = .ok (.iaload, 1) := by decide +kernel
theorem dL_hears_171 : decode cL_hears 171 = .ok (.ifCond .ne 13, 3) := by decide +kernel
theorem dL_hears_174 : decode cL_hears 174 = .ok (.iload 15, 2) := by decide +kernel
theorem dL_hears_176 : decode cL_hears 176 = .ok (.iload 11, 2) := by decide +kernel
theorem dL_hears_178 : decode cL_hears 178 = .ok (.if_icmp .ge 35, 3) := by decide +kernel
theorem dL_hears_181 : decode cL_hears 181 = .ok (.goto 24, 3) := by decide +kernel
theorem dL_hears_184 : decode cL_hears 184 = .ok (.aload 6, 2) := by decide +kernel
theorem dL_hears_186 : decode cL_hears 186 = .ok (.iconst 5, 1) := by decide +kernel
theorem dL_hears_187 : decode cL_hears 187 = .ok (.iload 12, 2) := by decide +kernel
theorem dL_hears_189 : decode cL_hears 189 = .ok (.imul, 1) := by decide +kernel
theorem dL_hears_190 : decode cL_hears 190 = .ok (.iconst 2, 1) := by decide +kernel
theorem dL_hears_191 : decode cL_hears 191 = .ok (.iadd, 1) := by decide +kernel
theorem dL_hears_192 : decode cL_hears 192 = .ok (.iaload, 1) := by decide +kernel
theorem dL_hears_193 : decode cL_hears 193 = .ok (.aload 6, 2) := by decide +kernel
theorem dL_hears_195 : decode cL_hears 195 = .ok (.iconst 5, 1) := by decide +kernel
theorem dL_hears_196 : decode cL_hears 196 = .ok (.iload 10, 2) := by decide +kernel
theorem dL_hears_198 : decode cL_hears 198 = .ok (.imul, 1) := by decide +kernel
theorem dL_hears_199 : decode cL_hears 199 = .ok (.iconst 2, 1) := by decide +kernel
theorem dL_hears_200 : decode cL_hears 200 = .ok (.iadd, 1) := by decide +kernel
theorem dL_hears_201 : decode cL_hears 201 = .ok (.iaload, 1) := by decide +kernel
theorem dL_hears_202 : decode cL_hears 202 = .ok (.if_icmp .le 11, 3) := by decide +kernel
theorem dL_hears_205 : decode cL_hears 205 = .ok (.iload 12, 2) := by decide +kernel
theorem dL_hears_207 : decode cL_hears 207 = .ok (.istore 10, 2) := by decide +kernel
theorem dL_hears_209 : decode cL_hears 209 = .ok (.iload 15, 2) := by decide +kernel
theorem dL_hears_211 : decode cL_hears 211 = .ok (.istore 11, 2) := by decide +kernel
theorem dL_hears_213 : decode cL_hears 213 = .ok (.iinc 12 1, 3) := by decide +kernel
theorem dL_hears_216 : decode cL_hears 216 = .ok (.goto (-172), 3) := by decide +kernel
theorem dL_hears_219 : decode cL_hears 219 = .ok (.aload_n 1, 1) := by decide +kernel
theorem dL_hears_220 : decode cL_hears 220 = .ok (.bipush 10, 2) := by decide +kernel
theorem dL_hears_222 : decode cL_hears 222 = .ok (.iload 8, 2) := by decide +kernel
theorem dL_hears_224 : decode cL_hears 224 = .ok (.imul, 1) := by decide +kernel
theorem dL_hears_225 : decode cL_hears 225 = .ok (.iconst 4, 1) := by decide +kernel
theorem dL_hears_226 : decode cL_hears 226 = .ok (.iadd, 1) := by decide +kernel
theorem dL_hears_227 : decode cL_hears 227 = .ok (.iload 10, 2) := by decide +kernel
theorem dL_hears_229 : decode cL_hears 229 = .ok (.ifCond .ge 7, 3) := by decide +kernel
theorem dL_hears_232 : decode cL_hears 232 = .ok (.iconst 0, 1) := by decide +kernel
theorem dL_hears_233 : decode cL_hears 233 = .ok (.goto 4, 3) := by decide +kernel
theorem dL_hears_236 : decode cL_hears 236 = .ok (.iconst 1, 1) := by decide +kernel
theorem dL_hears_237 : decode cL_hears 237 = .ok (.iastore, 1) := by decide +kernel
theorem dL_hears_238 : decode cL_hears 238 = .ok (.aload_n 1, 1) := by decide +kernel
theorem dL_hears_239 : decode cL_hears 239 = .ok (.bipush 10, 2) := by decide +kernel
theorem dL_hears_241 : decode cL_hears 241 = .ok (.iload 8, 2) := by decide +kernel
theorem dL_hears_243 : decode cL_hears 243 = .ok (.imul, 1) := by decide +kernel
theorem dL_hears_244 : decode cL_hears 244 = .ok (.iconst 5, 1) := by decide +kernel
theorem dL_hears_245 : decode cL_hears 245 = .ok (.iadd, 1) := by decide +kernel
theorem dL_hears_246 : decode cL_hears 246 = .ok (.iload 11, 2) := by decide +kernel
theorem dL_hears_248 : decode cL_hears 248 = .ok (.iastore, 1) := by decide +kernel
theorem dL_hears_249 : decode cL_hears 249 = .ok (.aload_n 1, 1) := by decide +kernel
theorem dL_hears_250 : decode cL_hears 250 = .ok (.bipush 10, 2) := by decide +kernel
theorem dL_hears_252 : decode cL_hears 252 = .ok (.iload 8, 2) := by decide +kernel
theorem dL_hears_254 : decode cL_hears 254 = .ok (.imul, 1) := by decide +kernel
theorem dL_hears_255 : decode cL_hears 255 = .ok (.bipush 6, 2) := by decide +kernel
theorem dL_hears_257 : decode cL_hears 257 = .ok (.iadd, 1) := by decide +kernel
theorem dL_hears_258 : decode cL_hears 258 = .ok (.iload 10, 2) := by decide +kernel
theorem dL_hears_260 : decode cL_hears 260 = .ok (.ifCond .ge 8, 3) := by decide +kernel
theorem dL_hears_263 : decode cL_hears 263 = .ok (.ldc 23, 2) := by decide +kernel
theorem dL_hears_265 : decode cL_hears 265 = .ok (.goto 10, 3) := by decide +kernel
theorem dL_hears_268 : decode cL_hears 268 = .ok (.aload 6, 2) := by decide +kernel
theorem dL_hears_270 : decode cL_hears 270 = .ok (.iconst 5, 1) := by decide +kernel
theorem dL_hears_271 : decode cL_hears 271 = .ok (.iload 10, 2) := by decide +kernel
theorem dL_hears_273 : decode cL_hears 273 = .ok (.imul, 1) := by decide +kernel
theorem dL_hears_274 : decode cL_hears 274 = .ok (.iaload, 1) := by decide +kernel
theorem dL_hears_275 : decode cL_hears 275 = .ok (.iastore, 1) := by decide +kernel
theorem dL_hears_276 : decode cL_hears 276 = .ok (.aload_n 1, 1) := by decide +kernel
theorem dL_hears_277 : decode cL_hears 277 = .ok (.bipush 10, 2) := by decide +kernel
theorem dL_hears_279 : decode cL_hears 279 = .ok (.iload 8, 2) := by decide +kernel
theorem dL_hears_281 : decode cL_hears 281 = .ok (.imul, 1) := by decide +kernel
theorem dL_hears_282 : decode cL_hears 282 = .ok (.bipush 7, 2) := by decide +kernel
theorem dL_hears_284 : decode cL_hears 284 = .ok (.iadd, 1) := by decide +kernel
theorem dL_hears_285 : decode cL_hears 285 = .ok (.iload 10, 2) := by decide +kernel
theorem dL_hears_287 : decode cL_hears 287 = .ok (.ifCond .ge 8, 3) := by decide +kernel
theorem dL_hears_290 : decode cL_hears 290 = .ok (.ldc 23, 2) := by decide +kernel
theorem dL_hears_292 : decode cL_hears 292 = .ok (.goto 12, 3) := by decide +kernel
theorem dL_hears_295 : decode cL_hears 295 = .ok (.aload 6, 2) := by decide +kernel
theorem dL_hears_297 : decode cL_hears 297 = .ok (.iconst 5, 1) := by decide +kernel
theorem dL_hears_298 : decode cL_hears 298 = .ok (.iload 10, 2) := by decide +kernel
theorem dL_hears_300 : decode cL_hears 300 = .ok (.imul, 1) := by decide +kernel
theorem dL_hears_301 : decode cL_hears 301 = .ok (.iconst 2, 1) := by decide +kernel
theorem dL_hears_302 : decode cL_hears 302 = .ok (.iadd, 1) := by decide +kernel
theorem dL_hears_303 : decode cL_hears 303 = .ok (.iaload, 1) := by decide +kernel
theorem dL_hears_304 : decode cL_hears 304 = .ok (.iastore, 1) := by decide +kernel
theorem dL_hears_305 : decode cL_hears 305 = .ok (.aload_n 1, 1) := by decide +kernel
theorem dL_hears_306 : decode cL_hears 306 = .ok (.bipush 10, 2) := by decide +kernel
theorem dL_hears_308 : decode cL_hears 308 = .ok (.iload 8, 2) := by decide +kernel
theorem dL_hears_310 : decode cL_hears 310 = .ok (.imul, 1) := by decide +kernel
theorem dL_hears_311 : decode cL_hears 311 = .ok (.bipush 8, 2) := by decide +kernel
theorem dL_hears_313 : decode cL_hears 313 = .ok (.iadd, 1) := by decide +kernel
theorem dL_hears_314 : decode cL_hears 314 = .ok (.iload 10, 2) := by decide +kernel
theorem dL_hears_316 : decode cL_hears 316 = .ok (.ifCond .ge 8, 3) := by decide +kernel
theorem dL_hears_319 : decode cL_hears 319 = .ok (.ldc 23, 2) := by decide +kernel
theorem dL_hears_321 : decode cL_hears 321 = .ok (.goto 12, 3) := by decide +kernel
theorem dL_hears_324 : decode cL_hears 324 = .ok (.aload 6, 2) := by decide +kernel
theorem dL_hears_326 : decode cL_hears 326 = .ok (.iconst 5, 1) := by decide +kernel
theorem dL_hears_327 : decode cL_hears 327 = .ok (.iload 10, 2) := by decide +kernel
theorem dL_hears_329 : decode cL_hears 329 = .ok (.imul, 1) := by decide +kernel
theorem dL_hears_330 : decode cL_hears 330 = .ok (.iconst 3, 1) := by decide +kernel
theorem dL_hears_331 : decode cL_hears 331 = .ok (.iadd, 1) := by decide +kernel
theorem dL_hears_332 : decode cL_hears 332 = .ok (.iaload, 1) := by decide +kernel
theorem dL_hears_333 : decode cL_hears 333 = .ok (.iastore, 1) := by decide +kernel
theorem dL_hears_334 : decode cL_hears 334 = .ok (.aload_n 1, 1) := by decide +kernel
theorem dL_hears_335 : decode cL_hears 335 = .ok (.bipush 10, 2) := by decide +kernel
theorem dL_hears_337 : decode cL_hears 337 = .ok (.iload 8, 2) := by decide +kernel
theorem dL_hears_339 : decode cL_hears 339 = .ok (.imul, 1) := by decide +kernel
theorem dL_hears_340 : decode cL_hears 340 = .ok (.bipush 9, 2) := by decide +kernel
theorem dL_hears_342 : decode cL_hears 342 = .ok (.iadd, 1) := by decide +kernel
theorem dL_hears_343 : decode cL_hears 343 = .ok (.iload 10, 2) := by decide +kernel
theorem dL_hears_345 : decode cL_hears 345 = .ok (.ifCond .ge 8, 3) := by decide +kernel
theorem dL_hears_348 : decode cL_hears 348 = .ok (.ldc 23, 2) := by decide +kernel
theorem dL_hears_350 : decode cL_hears 350 = .ok (.goto 12, 3) := by decide +kernel
theorem dL_hears_353 : decode cL_hears 353 = .ok (.aload 6, 2) := by decide +kernel
theorem dL_hears_355 : decode cL_hears 355 = .ok (.iconst 5, 1) := by decide +kernel
theorem dL_hears_356 : decode cL_hears 356 = .ok (.iload 10, 2) := by decide +kernel
theorem dL_hears_358 : decode cL_hears 358 = .ok (.imul, 1) := by decide +kernel
theorem dL_hears_359 : decode cL_hears 359 = .ok (.iconst 4, 1) := by decide +kernel
theorem dL_hears_360 : decode cL_hears 360 = .ok (.iadd, 1) := by decide +kernel
theorem dL_hears_361 : decode cL_hears 361 = .ok (.iaload, 1) := by decide +kernel
theorem dL_hears_362 : decode cL_hears 362 = .ok (.iastore, 1) := by decide +kernel
theorem dL_hears_363 : decode cL_hears 363 = .ok (.iload 7, 2) := by decide +kernel
theorem dL_hears_365 : decode cL_hears 365 = .ok (.iload 10, 2) := by decide +kernel
theorem dL_hears_367 : decode cL_hears 367 = .ok (.ifCond .ge 7, 3) := by decide +kernel
theorem dL_hears_370 : decode cL_hears 370 = .ok (.iconst 0, 1) := by decide +kernel
theorem dL_hears_371 : decode cL_hears 371 = .ok (.goto 4, 3) := by decide +kernel
theorem dL_hears_374 : decode cL_hears 374 = .ok (.iconst 1, 1) := by decide +kernel
theorem dL_hears_375 : decode cL_hears 375 = .ok (.iadd, 1) := by decide +kernel
theorem dL_hears_376 : decode cL_hears 376 = .ok (.istore 7, 2) := by decide +kernel
theorem dL_hears_378 : decode cL_hears 378 = .ok (.iinc 8 1, 3) := by decide +kernel
theorem dL_hears_381 : decode cL_hears 381 = .ok (.goto (-369), 3) := by decide +kernel
theorem dL_hears_384 : decode cL_hears 384 = .ok (.aload_n 0, 1) := by decide +kernel
theorem dL_hears_385 : decode cL_hears 385 = .ok (.iconst 5, 1) := by decide +kernel
theorem dL_hears_386 : decode cL_hears 386 = .ok (.dup2, 1) := by decide +kernel
theorem dL_hears_387 : decode cL_hears 387 = .ok (.iaload, 1) := by decide +kernel
theorem dL_hears_388 : decode cL_hears 388 = .ok (.iconst 1, 1) := by decide +kernel
theorem dL_hears_389 : decode cL_hears 389 = .ok (.iadd, 1) := by decide +kernel
theorem dL_hears_390 : decode cL_hears 390 = .ok (.iastore, 1) := by decide +kernel
theorem dL_hears_391 : decode cL_hears 391 = .ok (.iload 7, 2) := by decide +kernel
theorem dL_hears_393 : decode cL_hears 393 = .ok (.ireturn, 1) := by decide +kernel
theorem dL_closes_0 : decode cL_closes 0 = .ok (.iload_n 1, 1) := by decide +kernel
theorem dL_closes_1 : decode cL_closes 1 = .ok (.istore 4, 2) := by decide +kernel
theorem dL_closes_3 : decode cL_closes 3 = .ok (.iload 4, 2) := by decide +kernel
theorem dL_closes_5 : decode cL_closes 5 = .ok (.iload_n 2, 1) := by decide +kernel
theorem dL_closes_6 : decode cL_closes 6 = .ok (.iadd, 1) := by decide +kernel
theorem dL_closes_7 : decode cL_closes 7 = .ok (.iload_n 3, 1) := by decide +kernel
theorem dL_closes_8 : decode cL_closes 8 = .ok (.if_icmp .ge 19, 3) := by decide +kernel
theorem dL_closes_11 : decode cL_closes 11 = .ok (.aload_n 0, 1) := by decide +kernel
theorem dL_closes_12 : decode cL_closes 12 = .ok (.iload 4, 2) := by decide +kernel
theorem dL_closes_14 : decode cL_closes 14 = .ok (.aload_n 0, 1) := by decide +kernel
theorem dL_closes_15 : decode cL_closes 15 = .ok (.iload 4, 2) := by decide +kernel
theorem dL_closes_17 : decode cL_closes 17 = .ok (.iload_n 2, 1) := by decide +kernel
theorem dL_closes_18 : decode cL_closes 18 = .ok (.iadd, 1) := by decide +kernel
theorem dL_closes_19 : decode cL_closes 19 = .ok (.iaload, 1) := by decide +kernel
theorem dL_closes_20 : decode cL_closes 20 = .ok (.iastore, 1) := by decide +kernel
theorem dL_closes_21 : decode cL_closes 21 = .ok (.iinc 4 1, 3) := by decide +kernel
theorem dL_closes_24 : decode cL_closes 24 = .ok (.goto (-21), 3) := by decide +kernel
theorem dL_closes_27 : decode cL_closes 27 = .ok (.return_, 1) := by decide +kernel
theorem dL_least_0 : decode cL_least 0 = .ok (.iload_n 0, 1) := by decide +kernel
theorem dL_least_1 : decode cL_least 1 = .ok (.ifCond .ne 8, 3) := by decide +kernel
theorem dL_least_4 : decode cL_least 4 = .ok (.bipush 100, 2) := by decide +kernel
theorem dL_least_6 : decode cL_least 6 = .ok (.goto 13, 3) := by decide +kernel
theorem dL_least_9 : decode cL_least 9 = .ok (.iload_n 0, 1) := by decide +kernel
theorem dL_least_10 : decode cL_least 10 = .ok (.iconst 1, 1) := by decide +kernel
theorem dL_least_11 : decode cL_least 11 = .ok (.if_icmp .ne 7, 3) := by decide +kernel
theorem dL_least_14 : decode cL_least 14 = .ok (.iconst 1, 1) := by decide +kernel
theorem dL_least_15 : decode cL_least 15 = .ok (.goto 4, 3) := by decide +kernel
theorem dL_least_18 : decode cL_least 18 = .ok (.iconst 0, 1) := by decide +kernel
theorem dL_least_19 : decode cL_least 19 = .ok (.ireturn, 1) := by decide +kernel
theorem dL_most_0 : decode cL_most 0 = .ok (.iload_n 0, 1) := by decide +kernel
theorem dL_most_1 : decode cL_most 1 = .ok (.ifCond .eq 8, 3) := by decide +kernel
theorem dL_most_4 : decode cL_most 4 = .ok (.iload_n 0, 1) := by decide +kernel
theorem dL_most_5 : decode cL_most 5 = .ok (.iconst 4, 1) := by decide +kernel
theorem dL_most_6 : decode cL_most 6 = .ok (.if_icmp .ne 9, 3) := by decide +kernel
theorem dL_most_9 : decode cL_most 9 = .ok (.sipush 1000, 3) := by decide +kernel
theorem dL_most_12 : decode cL_most 12 = .ok (.goto 44, 3) := by decide +kernel
theorem dL_most_15 : decode cL_most 15 = .ok (.iload_n 0, 1) := by decide +kernel
theorem dL_most_16 : decode cL_most 16 = .ok (.iconst 1, 1) := by decide +kernel
theorem dL_most_17 : decode cL_most 17 = .ok (.if_icmp .ne 7, 3) := by decide +kernel
theorem dL_most_20 : decode cL_most 20 = .ok (.iconst 2, 1) := by decide +kernel
theorem dL_most_21 : decode cL_most 21 = .ok (.goto 35, 3) := by decide +kernel
theorem dL_most_24 : decode cL_most 24 = .ok (.iload_n 0, 1) := by decide +kernel
theorem dL_most_25 : decode cL_most 25 = .ok (.iconst 2, 1) := by decide +kernel
theorem dL_most_26 : decode cL_most 26 = .ok (.if_icmp .ne 8, 3) := by decide +kernel
theorem dL_most_29 : decode cL_most 29 = .ok (.bipush 100, 2) := by decide +kernel
theorem dL_most_31 : decode cL_most 31 = .ok (.goto 25, 3) := by decide +kernel
theorem dL_most_34 : decode cL_most 34 = .ok (.iload_n 0, 1) := by decide +kernel
theorem dL_most_35 : decode cL_most 35 = .ok (.iconst 3, 1) := by decide +kernel
theorem dL_most_36 : decode cL_most 36 = .ok (.if_icmp .ne 8, 3) := by decide +kernel
theorem dL_most_39 : decode cL_most 39 = .ok (.bipush 50, 2) := by decide +kernel
theorem dL_most_41 : decode cL_most 41 = .ok (.goto 15, 3) := by decide +kernel
theorem dL_most_44 : decode cL_most 44 = .ok (.iload_n 0, 1) := by decide +kernel
theorem dL_most_45 : decode cL_most 45 = .ok (.iconst 5, 1) := by decide +kernel
theorem dL_most_46 : decode cL_most 46 = .ok (.if_icmp .ne 7, 3) := by decide +kernel
theorem dL_most_49 : decode cL_most 49 = .ok (.iconst 1, 1) := by decide +kernel
theorem dL_most_50 : decode cL_most 50 = .ok (.goto 6, 3) := by decide +kernel
theorem dL_most_53 : decode cL_most 53 = .ok (.sipush 500, 3) := by decide +kernel
theorem dL_most_56 : decode cL_most 56 = .ok (.ireturn, 1) := by decide +kernel
theorem dL_acts_0 : decode cL_acts 0 = .ok (.iload 4, 2) := by decide +kernel
theorem dL_acts_2 : decode cL_acts 2 = .ok (.iconst 5, 1) := by decide +kernel
theorem dL_acts_3 : decode cL_acts 3 = .ok (.ishr, 1) := by decide +kernel
theorem dL_acts_4 : decode cL_acts 4 = .ok (.ldc 39, 2) := by decide +kernel
theorem dL_acts_6 : decode cL_acts 6 = .ok (.invokestatic 40, 3) := by decide +kernel
theorem dL_acts_9 : decode cL_acts 9 = .ok (.istore 5, 2) := by decide +kernel
theorem dL_acts_11 : decode cL_acts 11 = .ok (.iload 4, 2) := by decide +kernel
theorem dL_acts_13 : decode cL_acts 13 = .ok (.bipush 20, 2) := by decide +kernel
theorem dL_acts_15 : decode cL_acts 15 = .ok (.invokestatic 40, 3) := by decide +kernel
theorem dL_acts_18 : decode cL_acts 18 = .ok (.tableswitch 1006 0 12 #[66, 160, 160, 160, 306, 455, 604, 769, 769, 769, 880, 915, 915], 66) := by decide +kernel
theorem dL_acts_84 : decode cL_acts 84 = .ok (.iload 5, 2) := by decide +kernel
theorem dL_acts_86 : decode cL_acts 86 = .ok (.iconst 4, 1) := by decide +kernel
theorem dL_acts_87 : decode cL_acts 87 = .ok (.irem, 1) := by decide +kernel
theorem dL_acts_88 : decode cL_acts 88 = .ok (.ifCond .le 20, 3) := by decide +kernel
theorem dL_acts_91 : decode cL_acts 91 = .ok (.aload_n 0, 1) := by decide +kernel
theorem dL_acts_92 : decode cL_acts 92 = .ok (.iconst 1, 1) := by decide +kernel
theorem dL_acts_93 : decode cL_acts 93 = .ok (.iconst 5, 1) := by decide +kernel
theorem dL_acts_94 : decode cL_acts 94 = .ok (.invokestatic 44, 3) := by decide +kernel
theorem dL_acts_97 : decode cL_acts 97 = .ok (.ldc 48, 2) := by decide +kernel
theorem dL_acts_99 : decode cL_acts 99 = .ok (.if_icmp .ne 7, 3) := by decide +kernel
theorem dL_acts_102 : decode cL_acts 102 = .ok (.iconst 1, 1) := by decide +kernel
theorem dL_acts_103 : decode cL_acts 103 = .ok (.goto 4, 3) := by decide +kernel
theorem dL_acts_106 : decode cL_acts 106 = .ok (.iconst 0, 1) := by decide +kernel
theorem dL_acts_107 : decode cL_acts 107 = .ok (.ireturn, 1) := by decide +kernel
theorem dL_acts_108 : decode cL_acts 108 = .ok (.aload_n 1, 1) := by decide +kernel
theorem dL_acts_109 : decode cL_acts 109 = .ok (.iconst 5, 1) := by decide +kernel
theorem dL_acts_110 : decode cL_acts 110 = .ok (.iaload, 1) := by decide +kernel
theorem dL_acts_111 : decode cL_acts 111 = .ok (.istore 6, 2) := by decide +kernel
theorem dL_acts_113 : decode cL_acts 113 = .ok (.aload_n 1, 1) := by decide +kernel
theorem dL_acts_114 : decode cL_acts 114 = .ok (.iconst 0, 1) := by decide +kernel
theorem dL_acts_115 : decode cL_acts 115 = .ok (.iconst 2, 1) := by decide +kernel
theorem dL_acts_116 : decode cL_acts 116 = .ok (.iload 5, 2) := by decide +kernel
theorem dL_acts_118 : decode cL_acts 118 = .ok (.iconst 4, 1) := by decide +kernel
theorem dL_acts_119 : decode cL_acts 119 = .ok (.idiv, 1) := by decide +kernel
theorem dL_acts_120 : decode cL_acts 120 = .ok (.iconst 5, 1) := by decide +kernel
theorem dL_acts_121 : decode cL_acts 121 = .ok (.irem, 1) := by decide +kernel
theorem dL_acts_122 : decode cL_acts 122 = .ok (.iadd, 1) := by decide +kernel
theorem dL_acts_123 : decode cL_acts 123 = .ok (.iastore, 1) := by decide +kernel
theorem dL_acts_124 : decode cL_acts 124 = .ok (.aload_n 1, 1) := by decide +kernel
theorem dL_acts_125 : decode cL_acts 125 = .ok (.iconst 1, 1) := by decide +kernel
theorem dL_acts_126 : decode cL_acts 126 = .ok (.iconst 2, 1) := by decide +kernel
theorem dL_acts_127 : decode cL_acts 127 = .ok (.iload 5, 2) := by decide +kernel
theorem dL_acts_129 : decode cL_acts 129 = .ok (.bipush 20, 2) := by decide +kernel
theorem dL_acts_131 : decode cL_acts 131 = .ok (.idiv, 1) := by decide +kernel
theorem dL_acts_132 : decode cL_acts 132 = .ok (.iconst 5, 1) := by decide +kernel
theorem dL_acts_133 : decode cL_acts 133 = .ok (.irem, 1) := by decide +kernel
theorem dL_acts_134 : decode cL_acts 134 = .ok (.iadd, 1) := by decide +kernel
theorem dL_acts_135 : decode cL_acts 135 = .ok (.iastore, 1) := by decide +kernel
theorem dL_acts_136 : decode cL_acts 136 = .ok (.iconst 2, 1) := by decide +kernel
theorem dL_acts_137 : decode cL_acts 137 = .ok (.istore 7, 2) := by decide +kernel
theorem dL_acts_139 : decode cL_acts 139 = .ok (.iload 7, 2) := by decide +kernel
theorem dL_acts_141 : decode cL_acts 141 = .ok (.bipush 6, 2) := by decide +kernel
theorem dL_acts_143 : decode cL_acts 143 = .ok (.if_icmp .ge 14, 3) := by decide +kernel
theorem dL_acts_146 : decode cL_acts 146 = .ok (.aload_n 1, 1) := by decide +kernel
theorem dL_acts_147 : decode cL_acts 147 = .ok (.iload 7, 2) := by decide +kernel
theorem dL_acts_149 : decode cL_acts 149 = .ok (.iconst 0, 1) := by decide +kernel
theorem dL_acts_150 : decode cL_acts 150 = .ok (.iastore, 1) := by decide +kernel
theorem dL_acts_151 : decode cL_acts 151 = .ok (.iinc 7 1, 3) := by decide +kernel
theorem dL_acts_154 : decode cL_acts 154 = .ok (.goto (-15), 3) := by decide +kernel
theorem dL_acts_157 : decode cL_acts 157 = .ok (.aload_n 0, 1) := by decide +kernel
theorem dL_acts_158 : decode cL_acts 158 = .ok (.aload_n 1, 1) := by decide +kernel
theorem dL_acts_159 : decode cL_acts 159 = .ok (.iconst 0, 1) := by decide +kernel
theorem dL_acts_160 : decode cL_acts 160 = .ok (.iaload, 1) := by decide +kernel
theorem dL_acts_161 : decode cL_acts 161 = .ok (.aload_n 1, 1) := by decide +kernel
theorem dL_acts_162 : decode cL_acts 162 = .ok (.iconst 1, 1) := by decide +kernel
theorem dL_acts_163 : decode cL_acts 163 = .ok (.iaload, 1) := by decide +kernel
theorem dL_acts_164 : decode cL_acts 164 = .ok (.invokestatic 44, 3) := by decide +kernel
theorem dL_acts_167 : decode cL_acts 167 = .ok (.iload 6, 2) := by decide +kernel
theorem dL_acts_169 : decode cL_acts 169 = .ok (.if_icmp .ne 7, 3) := by decide +kernel
theorem dL_acts_172 : decode cL_acts 172 = .ok (.iconst 1, 1) := by decide +kernel
theorem dL_acts_173 : decode cL_acts 173 = .ok (.goto 4, 3) := by decide +kernel
theorem dL_acts_176 : decode cL_acts 176 = .ok (.iconst 0, 1) := by decide +kernel
theorem dL_acts_177 : decode cL_acts 177 = .ok (.ireturn, 1) := by decide +kernel
theorem dL_acts_178 : decode cL_acts 178 = .ok (.iload 5, 2) := by decide +kernel
theorem dL_acts_180 : decode cL_acts 180 = .ok (.sipush 1500, 3) := by decide +kernel
theorem dL_acts_183 : decode cL_acts 183 = .ok (.irem, 1) := by decide +kernel
theorem dL_acts_184 : decode cL_acts 184 = .ok (.sipush 200, 3) := by decide +kernel
theorem dL_acts_187 : decode cL_acts 187 = .ok (.isub, 1) := by decide +kernel
theorem dL_acts_188 : decode cL_acts 188 = .ok (.istore 7, 2) := by decide +kernel
theorem dL_acts_190 : decode cL_acts 190 = .ok (.iload 5, 2) := by decide +kernel
theorem dL_acts_192 : decode cL_acts 192 = .ok (.sipush 1500, 3) := by decide +kernel
theorem dL_acts_195 : decode cL_acts 195 = .ok (.idiv, 1) := by decide +kernel
theorem dL_acts_196 : decode cL_acts 196 = .ok (.sipush 1500, 3) := by decide +kernel
theorem dL_acts_199 : decode cL_acts 199 = .ok (.irem, 1) := by decide +kernel
theorem dL_acts_200 : decode cL_acts 200 = .ok (.sipush 200, 3) := by decide +kernel
theorem dL_acts_203 : decode cL_acts 203 = .ok (.isub, 1) := by decide +kernel
theorem dL_acts_204 : decode cL_acts 204 = .ok (.istore 8, 2) := by decide +kernel
theorem dL_acts_206 : decode cL_acts 206 = .ok (.aload_n 1, 1) := by decide +kernel
theorem dL_acts_207 : decode cL_acts 207 = .ok (.iconst 2, 1) := by decide +kernel
theorem dL_acts_208 : decode cL_acts 208 = .ok (.iaload, 1) := by decide +kernel
theorem dL_acts_209 : decode cL_acts 209 = .ok (.iconst 4, 1) := by decide +kernel
theorem dL_acts_210 : decode cL_acts 210 = .ok (.if_icmp .ne 23, 3) := by decide +kernel
theorem dL_acts_213 : decode cL_acts 213 = .ok (.aload_n 0, 1) := by decide +kernel
theorem dL_acts_214 : decode cL_acts 214 = .ok (.sipush 2501, 3) := by decide +kernel
theorem dL_acts_217 : decode cL_acts 217 = .ok (.iload 8, 2) := by decide +kernel
theorem dL_acts_219 : decode cL_acts 219 = .ok (.invokestatic 49, 3) := by decide +kernel
theorem dL_acts_222 : decode cL_acts 222 = .ok (.ldc 48, 2) := by decide +kernel
theorem dL_acts_224 : decode cL_acts 224 = .ok (.if_icmp .ne 7, 3) := by decide +kernel
theorem dL_acts_227 : decode cL_acts 227 = .ok (.iconst 1, 1) := by decide +kernel
theorem dL_acts_228 : decode cL_acts 228 = .ok (.goto 4, 3) := by decide +kernel
theorem dL_acts_231 : decode cL_acts 231 = .ok (.iconst 0, 1) := by decide +kernel
theorem dL_acts_232 : decode cL_acts 232 = .ok (.ireturn, 1) := by decide +kernel
theorem dL_acts_233 : decode cL_acts 233 = .ok (.iconst 0, 1) := by decide +kernel
theorem dL_acts_234 : decode cL_acts 234 = .ok (.istore 9, 2) := by decide +kernel
theorem dL_acts_236 : decode cL_acts 236 = .ok (.iload 9, 2) := by decide +kernel
theorem dL_acts_238 : decode cL_acts 238 = .ok (.bipush 10, 2) := by decide +kernel
theorem dL_acts_240 : decode cL_acts 240 = .ok (.if_icmp .ge 33, 3) := by decide +kernel
theorem dL_acts_243 : decode cL_acts 243 = .ok (.aload_n 2, 1) := by decide +kernel
theorem dL_acts_244 : decode cL_acts 244 = .ok (.bipush 10, 2) := by decide +kernel
theorem dL_acts_246 : decode cL_acts 246 = .ok (.aload_n 1, 1) := by decide +kernel
theorem dL_acts_247 : decode cL_acts 247 = .ok (.iconst 2, 1) := by decide +kernel
theorem dL_acts_248 : decode cL_acts 248 = .ok (.iaload, 1) := by decide +kernel
theorem dL_acts_249 : decode cL_acts 249 = .ok (.imul, 1) := by decide +kernel
theorem dL_acts_250 : decode cL_acts 250 = .ok (.iload 9, 2) := by decide +kernel
theorem dL_acts_252 : decode cL_acts 252 = .ok (.iadd, 1) := by decide +kernel
theorem dL_acts_253 : decode cL_acts 253 = .ok (.iload 9, 2) := by decide +kernel
theorem dL_acts_255 : decode cL_acts 255 = .ok (.bipush 6, 2) := by decide +kernel
theorem dL_acts_257 : decode cL_acts 257 = .ok (.if_icmp .ge 7, 3) := by decide +kernel
theorem dL_acts_260 : decode cL_acts 260 = .ok (.iconst 0, 1) := by decide +kernel
theorem dL_acts_261 : decode cL_acts 261 = .ok (.goto 5, 3) := by decide +kernel
theorem dL_acts_264 : decode cL_acts 264 = .ok (.ldc 23, 2) := by decide +kernel
theorem dL_acts_266 : decode cL_acts 266 = .ok (.iastore, 1) := by decide +kernel
theorem dL_acts_267 : decode cL_acts 267 = .ok (.iinc 9 1, 3) := by decide +kernel
theorem dL_acts_270 : decode cL_acts 270 = .ok (.goto (-34), 3) := by decide +kernel
theorem dL_acts_273 : decode cL_acts 273 = .ok (.aload_n 2, 1) := by decide +kernel
theorem dL_acts_274 : decode cL_acts 274 = .ok (.bipush 10, 2) := by decide +kernel
theorem dL_acts_276 : decode cL_acts 276 = .ok (.aload_n 1, 1) := by decide +kernel
theorem dL_acts_277 : decode cL_acts 277 = .ok (.iconst 2, 1) := by decide +kernel
theorem dL_acts_278 : decode cL_acts 278 = .ok (.iaload, 1) := by decide +kernel
theorem dL_acts_279 : decode cL_acts 279 = .ok (.imul, 1) := by decide +kernel
theorem dL_acts_280 : decode cL_acts 280 = .ok (.iload 7, 2) := by decide +kernel
theorem dL_acts_282 : decode cL_acts 282 = .ok (.iastore, 1) := by decide +kernel
theorem dL_acts_283 : decode cL_acts 283 = .ok (.aload_n 2, 1) := by decide +kernel
theorem dL_acts_284 : decode cL_acts 284 = .ok (.bipush 10, 2) := by decide +kernel
theorem dL_acts_286 : decode cL_acts 286 = .ok (.aload_n 1, 1) := by decide +kernel
theorem dL_acts_287 : decode cL_acts 287 = .ok (.iconst 2, 1) := by decide +kernel
theorem dL_acts_288 : decode cL_acts 288 = .ok (.iaload, 1) := by decide +kernel
theorem dL_acts_289 : decode cL_acts 289 = .ok (.imul, 1) := by decide +kernel
theorem dL_acts_290 : decode cL_acts 290 = .ok (.iconst 1, 1) := by decide +kernel
theorem dL_acts_291 : decode cL_acts 291 = .ok (.iadd, 1) := by decide +kernel
theorem dL_acts_292 : decode cL_acts 292 = .ok (.iload 8, 2) := by decide +kernel
theorem dL_acts_294 : decode cL_acts 294 = .ok (.iastore, 1) := by decide +kernel
theorem dL_acts_295 : decode cL_acts 295 = .ok (.aload_n 1, 1) := by decide +kernel
theorem dL_acts_296 : decode cL_acts 296 = .ok (.iconst 2, 1) := by decide +kernel
theorem dL_acts_297 : decode cL_acts 297 = .ok (.dup2, 1) := by decide +kernel
theorem dL_acts_298 : decode cL_acts 298 = .ok (.iaload, 1) := by decide +kernel
theorem dL_acts_299 : decode cL_acts 299 = .ok (.iconst 1, 1) := by decide +kernel
theorem dL_acts_300 : decode cL_acts 300 = .ok (.iadd, 1) := by decide +kernel
theorem dL_acts_301 : decode cL_acts 301 = .ok (.iastore, 1) := by decide +kernel
theorem dL_acts_302 : decode cL_acts 302 = .ok (.aload_n 0, 1) := by decide +kernel
theorem dL_acts_303 : decode cL_acts 303 = .ok (.iload 7, 2) := by decide +kernel
theorem dL_acts_305 : decode cL_acts 305 = .ok (.iload 8, 2) := by decide +kernel
theorem dL_acts_307 : decode cL_acts 307 = .ok (.invokestatic 49, 3) := by decide +kernel
theorem dL_acts_310 : decode cL_acts 310 = .ok (.aload_n 1, 1) := by decide +kernel
theorem dL_acts_311 : decode cL_acts 311 = .ok (.iconst 2, 1) := by decide +kernel
theorem dL_acts_312 : decode cL_acts 312 = .ok (.iaload, 1) := by decide +kernel
theorem dL_acts_313 : decode cL_acts 313 = .ok (.iconst 1, 1) := by decide +kernel
theorem dL_acts_314 : decode cL_acts 314 = .ok (.isub, 1) := by decide +kernel
theorem dL_acts_315 : decode cL_acts 315 = .ok (.if_icmp .ne 7, 3) := by decide +kernel
theorem dL_acts_318 : decode cL_acts 318 = .ok (.iconst 1, 1) := by decide +kernel
theorem dL_acts_319 : decode cL_acts 319 = .ok (.goto 4, 3) := by decide +kernel
theorem dL_acts_322 : decode cL_acts 322 = .ok (.iconst 0, 1) := by decide +kernel
theorem dL_acts_323 : decode cL_acts 323 = .ok (.ireturn, 1) := by decide +kernel
theorem dL_acts_324 : decode cL_acts 324 = .ok (.aload_n 1, 1) := by decide +kernel
theorem dL_acts_325 : decode cL_acts 325 = .ok (.iconst 3, 1) := by decide +kernel
theorem dL_acts_326 : decode cL_acts 326 = .ok (.iaload, 1) := by decide +kernel
theorem dL_acts_327 : decode cL_acts 327 = .ok (.iconst 3, 1) := by decide +kernel
theorem dL_acts_328 : decode cL_acts 328 = .ok (.if_icmp .ne 21, 3) := by decide +kernel
theorem dL_acts_331 : decode cL_acts 331 = .ok (.aload_n 0, 1) := by decide +kernel
theorem dL_acts_332 : decode cL_acts 332 = .ok (.iconst 2, 1) := by decide +kernel
theorem dL_acts_333 : decode cL_acts 333 = .ok (.iconst 0, 1) := by decide +kernel
theorem dL_acts_334 : decode cL_acts 334 = .ok (.iconst 0, 1) := by decide +kernel
theorem dL_acts_335 : decode cL_acts 335 = .ok (.invokestatic 52, 3) := by decide +kernel
theorem dL_acts_338 : decode cL_acts 338 = .ok (.ldc 48, 2) := by decide +kernel
theorem dL_acts_340 : decode cL_acts 340 = .ok (.if_icmp .ne 7, 3) := by decide +kernel
theorem dL_acts_343 : decode cL_acts 343 = .ok (.iconst 1, 1) := by decide +kernel
theorem dL_acts_344 : decode cL_acts 344 = .ok (.goto 4, 3) := by decide +kernel
theorem dL_acts_347 : decode cL_acts 347 = .ok (.iconst 0, 1) := by decide +kernel
theorem dL_acts_348 : decode cL_acts 348 = .ok (.ireturn, 1) := by decide +kernel
theorem dL_acts_349 : decode cL_acts 349 = .ok (.iconst 3, 1) := by decide +kernel
theorem dL_acts_350 : decode cL_acts 350 = .ok (.aload_n 1, 1) := by decide +kernel
theorem dL_acts_351 : decode cL_acts 351 = .ok (.iconst 3, 1) := by decide +kernel
theorem dL_acts_352 : decode cL_acts 352 = .ok (.iaload, 1) := by decide +kernel
theorem dL_acts_353 : decode cL_acts 353 = .ok (.imul, 1) := by decide +kernel
theorem dL_acts_354 : decode cL_acts 354 = .ok (.istore 9, 2) := by decide +kernel
theorem dL_acts_356 : decode cL_acts 356 = .ok (.aload_n 3, 1) := by decide +kernel
theorem dL_acts_357 : decode cL_acts 357 = .ok (.iload 9, 2) := by decide +kernel
theorem dL_acts_359 : decode cL_acts 359 = .ok (.iload 5, 2) := by decide +kernel
theorem dL_acts_361 : decode cL_acts 361 = .ok (.iconst 2, 1) := by decide +kernel
theorem dL_acts_362 : decode cL_acts 362 = .ok (.irem, 1) := by decide +kernel
theorem dL_acts_363 : decode cL_acts 363 = .ok (.iastore, 1) := by decide +kernel
theorem dL_acts_364 : decode cL_acts 364 = .ok (.aload_n 3, 1) := by decide +kernel
theorem dL_acts_365 : decode cL_acts 365 = .ok (.iload 9, 2) := by decide +kernel
theorem dL_acts_367 : decode cL_acts 367 = .ok (.iconst 1, 1) := by decide +kernel
theorem dL_acts_368 : decode cL_acts 368 = .ok (.iadd, 1) := by decide +kernel
theorem dL_acts_369 : decode cL_acts 369 = .ok (.iload 5, 2) := by decide +kernel
theorem dL_acts_371 : decode cL_acts 371 = .ok (.iconst 2, 1) := by decide +kernel
theorem dL_acts_372 : decode cL_acts 372 = .ok (.idiv, 1) := by decide +kernel
theorem dL_acts_373 : decode cL_acts 373 = .ok (.iload 5, 2) := by decide +kernel
theorem dL_acts_375 : decode cL_acts 375 = .ok (.iconst 3, 1) := by decide +kernel
theorem dL_acts_376 : decode cL_acts 376 = .ok (.irem, 1) := by decide +kernel
theorem dL_acts_377 : decode cL_acts 377 = .ok (.ifCond .ne 9, 3) := by decide +kernel
theorem dL_acts_380 : decode cL_acts 380 = .ok (.sipush 4001, 3) := by decide +kernel
theorem dL_acts_383 : decode cL_acts 383 = .ok (.goto 6, 3) := by decide +kernel
theorem dL_acts_386 : decode cL_acts 386 = .ok (.sipush 1300, 3) := by decide +kernel
theorem dL_acts_389 : decode cL_acts 389 = .ok (.irem, 1) := by decide +kernel
theorem dL_acts_390 : decode cL_acts 390 = .ok (.iload 5, 2) := by decide +kernel
theorem dL_acts_392 : decode cL_acts 392 = .ok (.iconst 3, 1) := by decide +kernel
theorem dL_acts_393 : decode cL_acts 393 = .ok (.irem, 1) := by decide +kernel
theorem dL_acts_394 : decode cL_acts 394 = .ok (.ifCond .ne 9, 3) := by decide +kernel
theorem dL_acts_397 : decode cL_acts 397 = .ok (.sipush 1000, 3) := by decide +kernel
theorem dL_acts_400 : decode cL_acts 400 = .ok (.goto 5, 3) := by decide +kernel
theorem dL_acts_403 : decode cL_acts 403 = .ok (.bipush 100, 2) := by decide +kernel
theorem dL_acts_405 : decode cL_acts 405 = .ok (.isub, 1) := by decide +kernel
theorem dL_acts_406 : decode cL_acts 406 = .ok (.iastore, 1) := by decide +kernel
theorem dL_acts_407 : decode cL_acts 407 = .ok (.aload_n 3, 1) := by decide +kernel
theorem dL_acts_408 : decode cL_acts 408 = .ok (.iload 9, 2) := by decide +kernel
theorem dL_acts_410 : decode cL_acts 410 = .ok (.iconst 2, 1) := by decide +kernel
theorem dL_acts_411 : decode cL_acts 411 = .ok (.iadd, 1) := by decide +kernel
theorem dL_acts_412 : decode cL_acts 412 = .ok (.iload 5, 2) := by decide +kernel
theorem dL_acts_414 : decode cL_acts 414 = .ok (.iconst 5, 1) := by decide +kernel
theorem dL_acts_415 : decode cL_acts 415 = .ok (.idiv, 1) := by decide +kernel
theorem dL_acts_416 : decode cL_acts 416 = .ok (.iload 5, 2) := by decide +kernel
theorem dL_acts_418 : decode cL_acts 418 = .ok (.iconst 5, 1) := by decide +kernel
theorem dL_acts_419 : decode cL_acts 419 = .ok (.irem, 1) := by decide +kernel
theorem dL_acts_420 : decode cL_acts 420 = .ok (.ifCond .ne 8, 3) := by decide +kernel
theorem dL_acts_423 : decode cL_acts 423 = .ok (.bipush 101, 2) := by decide +kernel
theorem dL_acts_425 : decode cL_acts 425 = .ok (.goto 5, 3) := by decide +kernel
theorem dL_acts_428 : decode cL_acts 428 = .ok (.bipush 40, 2) := by decide +kernel
theorem dL_acts_430 : decode cL_acts 430 = .ok (.irem, 1) := by decide +kernel
theorem dL_acts_431 : decode cL_acts 431 = .ok (.iastore, 1) := by decide +kernel
theorem dL_acts_432 : decode cL_acts 432 = .ok (.aload_n 1, 1) := by decide +kernel
theorem dL_acts_433 : decode cL_acts 433 = .ok (.iconst 3, 1) := by decide +kernel
theorem dL_acts_434 : decode cL_acts 434 = .ok (.dup2, 1) := by decide +kernel
theorem dL_acts_435 : decode cL_acts 435 = .ok (.iaload, 1) := by decide +kernel
theorem dL_acts_436 : decode cL_acts 436 = .ok (.iconst 1, 1) := by decide +kernel
theorem dL_acts_437 : decode cL_acts 437 = .ok (.iadd, 1) := by decide +kernel
theorem dL_acts_438 : decode cL_acts 438 = .ok (.iastore, 1) := by decide +kernel
theorem dL_acts_439 : decode cL_acts 439 = .ok (.aload_n 0, 1) := by decide +kernel
theorem dL_acts_440 : decode cL_acts 440 = .ok (.aload_n 3, 1) := by decide +kernel
theorem dL_acts_441 : decode cL_acts 441 = .ok (.iload 9, 2) := by decide +kernel
theorem dL_acts_443 : decode cL_acts 443 = .ok (.iaload, 1) := by decide +kernel
theorem dL_acts_444 : decode cL_acts 444 = .ok (.aload_n 3, 1) := by decide +kernel
theorem dL_acts_445 : decode cL_acts 445 = .ok (.iload 9, 2) := by decide +kernel
theorem dL_acts_447 : decode cL_acts 447 = .ok (.iconst 1, 1) := by decide +kernel
theorem dL_acts_448 : decode cL_acts 448 = .ok (.iadd, 1) := by decide +kernel
theorem dL_acts_449 : decode cL_acts 449 = .ok (.iaload, 1) := by decide +kernel
theorem dL_acts_450 : decode cL_acts 450 = .ok (.aload_n 3, 1) := by decide +kernel
theorem dL_acts_451 : decode cL_acts 451 = .ok (.iload 9, 2) := by decide +kernel
theorem dL_acts_453 : decode cL_acts 453 = .ok (.iconst 2, 1) := by decide +kernel
theorem dL_acts_454 : decode cL_acts 454 = .ok (.iadd, 1) := by decide +kernel
theorem dL_acts_455 : decode cL_acts 455 = .ok (.iaload, 1) := by decide +kernel
theorem dL_acts_456 : decode cL_acts 456 = .ok (.invokestatic 52, 3) := by decide +kernel
theorem dL_acts_459 : decode cL_acts 459 = .ok (.aload_n 1, 1) := by decide +kernel
theorem dL_acts_460 : decode cL_acts 460 = .ok (.iconst 3, 1) := by decide +kernel
theorem dL_acts_461 : decode cL_acts 461 = .ok (.iaload, 1) := by decide +kernel
theorem dL_acts_462 : decode cL_acts 462 = .ok (.iconst 1, 1) := by decide +kernel
theorem dL_acts_463 : decode cL_acts 463 = .ok (.isub, 1) := by decide +kernel
theorem dL_acts_464 : decode cL_acts 464 = .ok (.if_icmp .ne 7, 3) := by decide +kernel
theorem dL_acts_467 : decode cL_acts 467 = .ok (.iconst 1, 1) := by decide +kernel
theorem dL_acts_468 : decode cL_acts 468 = .ok (.goto 4, 3) := by decide +kernel
theorem dL_acts_471 : decode cL_acts 471 = .ok (.iconst 0, 1) := by decide +kernel
theorem dL_acts_472 : decode cL_acts 472 = .ok (.ireturn, 1) := by decide +kernel
theorem dL_acts_473 : decode cL_acts 473 = .ok (.aload_n 1, 1) := by decide +kernel
theorem dL_acts_474 : decode cL_acts 474 = .ok (.iconst 4, 1) := by decide +kernel
theorem dL_acts_475 : decode cL_acts 475 = .ok (.iaload, 1) := by decide +kernel
theorem dL_acts_476 : decode cL_acts 476 = .ok (.iconst 3, 1) := by decide +kernel
theorem dL_acts_477 : decode cL_acts 477 = .ok (.if_icmp .ne 22, 3) := by decide +kernel
theorem dL_acts_480 : decode cL_acts 480 = .ok (.aload_n 0, 1) := by decide +kernel
theorem dL_acts_481 : decode cL_acts 481 = .ok (.iconst 0, 1) := by decide +kernel
theorem dL_acts_482 : decode cL_acts 482 = .ok (.iconst 0, 1) := by decide +kernel
theorem dL_acts_483 : decode cL_acts 483 = .ok (.iconst 5, 1) := by decide +kernel
theorem dL_acts_484 : decode cL_acts 484 = .ok (.iconst 5, 1) := by decide +kernel
theorem dL_acts_485 : decode cL_acts 485 = .ok (.invokestatic 56, 3) := by decide +kernel
theorem dL_acts_488 : decode cL_acts 488 = .ok (.ldc 48, 2) := by decide +kernel
theorem dL_acts_490 : decode cL_acts 490 = .ok (.if_icmp .ne 7, 3) := by decide +kernel
theorem dL_acts_493 : decode cL_acts 493 = .ok (.iconst 1, 1) := by decide +kernel
theorem dL_acts_494 : decode cL_acts 494 = .ok (.goto 4, 3) := by decide +kernel
theorem dL_acts_497 : decode cL_acts 497 = .ok (.iconst 0, 1) := by decide +kernel
