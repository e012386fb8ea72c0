set_option maxRecDepth 20000 in
theorem ggL_begin_X11_begin : GoodIn wsL_begin wsX11_begin := goodIn_ca (goodIn_ca (goodIn_ca (goodIn_r _ [6, 7, 8, 9, 10, 11, 12, 13, 5, 14, 15, 16, 17, 18, 19, 20, 21, 22, 23, 24, 25, 26, 27, 28, 29, 30, 31, 32, 33, 34, 35, 36, 37, 38, 39, 40, 41, 42, 43, 44, 45, 46, 47, 48, 49, 50, 51, 52, 53, 54, 55, 56, 57, 58, 59, 60, 61, 62, 63, 64, 65, 66, 67, 68, 69, 70, 71, 72, 73, 74, 75, 76, 77, 78, 79, 80, 81, 82, 83, 84, 85, 86, 87, 88, 89, 90, 91, 92, 93, 94, 95, 96, 97, 98, 99, 100, 101, 102, 103, 104, 105, 106, 107, 108] (by decide +kernel) (by decide +kernel)) (goodIn_sub (fun _ h => List.mem_cons_of_mem _ (List.mem_append_left _ (List.mem_append_left _ (List.mem_append_right _ h)))) (by decide +kernel))) (goodIn_sub (fun _ h => List.mem_cons_of_mem _ (List.mem_append_left _ (List.mem_append_right _ h))) (by decide +kernel))) (goodIn_sub (fun _ h => List.mem_cons_of_mem _ (List.mem_append_right _ h)) (by decide +kernel))
set_option maxRecDepth 20000 in
theorem gL_begin_X11_begin : GoodIn wsL_begin (wsV RL 7 RX11 yX11_begin wsX11_begin) := goodIn_app (goodIn_of _ (by decide +kernel)) ggL_begin_X11_begin
theorem dL_begin_0 : decode cL_begin 0 = .ok (.aload_n 3, 1) := by decide +kernel
theorem dL_begin_1 : decode cL_begin 1 = .ok (.iconst 0, 1) := by decide +kernel
theorem dL_begin_2 : decode cL_begin 2 = .ok (.aload_n 0, 1) := by decide +kernel
theorem dL_begin_3 : decode cL_begin 3 = .ok (.iload_n 1, 1) := by decide +kernel
theorem dL_begin_4 : decode cL_begin 4 = .ok (.iload_n 2, 1) := by decide +kernel
theorem dL_begin_5 : decode cL_begin 5 = .ok (.invokevirtual 7, 3) := by decide +kernel
theorem dL_begin_8 : decode cL_begin 8 = .ok (.i2l, 1) := by decide +kernel
theorem dL_begin_9 : decode cL_begin 9 = .ok (.lastore, 1) := by decide +kernel
theorem dL_begin_10 : decode cL_begin 10 = .ok (.goto 7, 3) := by decide +kernel
theorem dL_begin_13 : decode cL_begin 13 = .ok (.astore 4, 2) := by decide +kernel
theorem dL_begin_15 : decode cL_begin 15 = .ok (.iconst 1, 1) := by decide +kernel
theorem dL_begin_16 : decode cL_begin 16 = .ok (.ireturn, 1) := by decide +kernel
theorem dL_begin_17 : decode cL_begin 17 = .ok (.iconst 0, 1) := by decide +kernel
theorem dL_begin_18 : decode cL_begin 18 = .ok (.ireturn, 1) := by decide +kernel
set_option maxRecDepth 20000 in
theorem ggL_addMicrophone_X11_addMicrophone : GoodIn wsL_addMicrophone wsX11_addMicrophone := goodIn_ca (goodIn_ca (goodIn_ca (goodIn_r _ [7, 8, 9, 10, 11, 12, 13, 14, 15, 6, 16, 17, 18, 19, 20, 21, 22, 23, 24, 25, 26, 27, 28, 29, 30, 31, 32, 33, 34, 35, 36, 37, 38, 39, 40, 41, 42, 43, 44, 45, 46, 47, 48, 49, 50, 51, 52, 53, 54, 55, 56, 57, 58, 59, 60, 61, 62, 63, 64, 65, 66, 67, 68, 69, 70, 71, 72, 73, 74, 75, 76, 77, 78, 79, 80, 81, 82, 83, 84, 85, 86, 87, 88, 89, 90, 91, 92, 93, 94, 95, 96, 97, 98, 99, 100, 101, 102, 103, 104, 105, 106, 107, 108, 109, 110, 111, 112, 113, 114, 115, 116, 117, 118, 119, 120, 121, 122, 123, 124, 125] (by decide +kernel) (by decide +kernel)) (goodIn_sub (fun _ h => List.mem_cons_of_mem _ (List.mem_append_left _ (List.mem_append_left _ (List.mem_append_right _ h)))) (by decide +kernel))) (goodIn_sub (fun _ h => List.mem_cons_of_mem _ (List.mem_append_left _ (List.mem_append_right _ h))) (by decide +kernel))) (goodIn_sub (fun _ h => List.mem_cons_of_mem _ (List.mem_append_right _ h)) (by decide +kernel))
set_option maxRecDepth 20000 in
theorem gL_addMicrophone_X11_addMicrophone : GoodIn wsL_addMicrophone (wsV RL 15 RX11 yX11_addMicrophone wsX11_addMicrophone) := goodIn_app (goodIn_of _ (by decide +kernel)) ggL_addMicrophone_X11_addMicrophone
theorem dL_addMicrophone_0 : decode cL_addMicrophone 0 = .ok (.aload_n 3, 1) := by decide +kernel
theorem dL_addMicrophone_1 : decode cL_addMicrophone 1 = .ok (.iconst 0, 1) := by decide +kernel
theorem dL_addMicrophone_2 : decode cL_addMicrophone 2 = .ok (.aload_n 0, 1) := by decide +kernel
theorem dL_addMicrophone_3 : decode cL_addMicrophone 3 = .ok (.iload_n 1, 1) := by decide +kernel
theorem dL_addMicrophone_4 : decode cL_addMicrophone 4 = .ok (.iload_n 2, 1) := by decide +kernel
theorem dL_addMicrophone_5 : decode cL_addMicrophone 5 = .ok (.invokevirtual 15, 3) := by decide +kernel
theorem dL_addMicrophone_8 : decode cL_addMicrophone 8 = .ok (.i2l, 1) := by decide +kernel
theorem dL_addMicrophone_9 : decode cL_addMicrophone 9 = .ok (.lastore, 1) := by decide +kernel
theorem dL_addMicrophone_10 : decode cL_addMicrophone 10 = .ok (.goto 11, 3) := by decide +kernel
theorem dL_addMicrophone_13 : decode cL_addMicrophone 13 = .ok (.astore 4, 2) := by decide +kernel
theorem dL_addMicrophone_15 : decode cL_addMicrophone 15 = .ok (.iconst 1, 1) := by decide +kernel
theorem dL_addMicrophone_16 : decode cL_addMicrophone 16 = .ok (.ireturn, 1) := by decide +kernel
theorem dL_addMicrophone_17 : decode cL_addMicrophone 17 = .ok (.astore 4, 2) := by decide +kernel
theorem dL_addMicrophone_19 : decode cL_addMicrophone 19 = .ok (.iconst 2, 1) := by decide +kernel
theorem dL_addMicrophone_20 : decode cL_addMicrophone 20 = .ok (.ireturn, 1) := by decide +kernel
theorem dL_addMicrophone_21 : decode cL_addMicrophone 21 = .ok (.iconst 0, 1) := by decide +kernel
theorem dL_addMicrophone_22 : decode cL_addMicrophone 22 = .ok (.ireturn, 1) := by decide +kernel
set_option maxRecDepth 20000 in
theorem ggL_setClock_X11_setClock : GoodIn wsL_setClock wsX11_setClock := goodIn_ca (goodIn_ca (goodIn_ca (goodIn_r _ [7, 8, 9, 10, 11, 12, 13, 14, 15, 16, 17, 6, 18, 19, 20, 21, 22, 23, 24, 25, 26, 27, 28, 29, 30, 31, 32, 33, 34, 35, 36, 37, 38, 39, 40, 41, 42, 43, 44, 45, 46, 47, 48, 49, 50, 51, 52, 53, 54, 55, 56, 57, 58, 59, 60, 61, 62, 63, 64, 65, 66, 67, 68, 69, 70, 71, 72, 73, 74, 75, 76, 77, 78, 79, 80, 81, 82, 83, 84, 85, 86, 87, 88, 89, 90, 91, 92, 93, 94, 95, 96, 97, 98, 99, 100, 101, 102, 103, 104, 105, 106, 107, 108, 109, 110, 111, 112, 113, 114, 115, 116, 117, 118, 119, 120, 121, 122] (by decide +kernel) (by decide +kernel)) (goodIn_sub (fun _ h => List.mem_cons_of_mem _ (List.mem_append_left _ (List.mem_append_left _ (List.mem_append_right _ h)))) (by decide +kernel))) (goodIn_sub (fun _ h => List.mem_cons_of_mem _ (List.mem_append_left _ (List.mem_append_right _ h))) (by decide +kernel))) (goodIn_sub (fun _ h => List.mem_cons_of_mem _ (List.mem_append_right _ h)) (by decide +kernel))
set_option maxRecDepth 20000 in
theorem gL_setClock_X11_setClock : GoodIn wsL_setClock (wsV RL 20 RX11 yX11_setClock wsX11_setClock) := goodIn_app (goodIn_of _ (by decide +kernel)) ggL_setClock_X11_setClock
theorem dL_setClock_0 : decode cL_setClock 0 = .ok (.aload_n 3, 1) := by decide +kernel
theorem dL_setClock_1 : decode cL_setClock 1 = .ok (.iconst 0, 1) := by decide +kernel
theorem dL_setClock_2 : decode cL_setClock 2 = .ok (.aload_n 0, 1) := by decide +kernel
theorem dL_setClock_3 : decode cL_setClock 3 = .ok (.iload_n 1, 1) := by decide +kernel
theorem dL_setClock_4 : decode cL_setClock 4 = .ok (.iload_n 2, 1) := by decide +kernel
theorem dL_setClock_5 : decode cL_setClock 5 = .ok (.invokevirtual 20, 3) := by decide +kernel
theorem dL_setClock_8 : decode cL_setClock 8 = .ok (.i2l, 1) := by decide +kernel
theorem dL_setClock_9 : decode cL_setClock 9 = .ok (.lastore, 1) := by decide +kernel
theorem dL_setClock_10 : decode cL_setClock 10 = .ok (.goto 11, 3) := by decide +kernel
theorem dL_setClock_13 : decode cL_setClock 13 = .ok (.astore 4, 2) := by decide +kernel
theorem dL_setClock_15 : decode cL_setClock 15 = .ok (.iconst 1, 1) := by decide +kernel
theorem dL_setClock_16 : decode cL_setClock 16 = .ok (.ireturn, 1) := by decide +kernel
theorem dL_setClock_17 : decode cL_setClock 17 = .ok (.astore 4, 2) := by decide +kernel
theorem dL_setClock_19 : decode cL_setClock 19 = .ok (.iconst 2, 1) := by decide +kernel
theorem dL_setClock_20 : decode cL_setClock 20 = .ok (.ireturn, 1) := by decide +kernel
theorem dL_setClock_21 : decode cL_setClock 21 = .ok (.iconst 0, 1) := by decide +kernel
theorem dL_setClock_22 : decode cL_setClock 22 = .ok (.ireturn, 1) := by decide +kernel
set_option maxRecDepth 20000 in
theorem ggL_addWall_X11_addWall : GoodIn wsL_addWall wsX11_addWall := goodIn_ca (goodIn_ca (goodIn_ca (goodIn_r _ [7, 8, 9, 10, 11, 12, 13, 14, 15, 6, 16, 17, 18, 19, 20, 21, 22, 23, 24, 25, 26, 27, 28, 29, 30, 31, 32, 33, 34, 35, 36, 37, 38, 39, 40, 41, 42, 43, 44, 45, 46, 47, 48, 49, 50, 51, 52, 53, 54, 55, 56, 57, 58, 59, 60, 61, 62, 63, 64, 65, 66, 67, 68, 69, 70, 71, 72, 73, 74, 75, 76, 77, 78, 79, 80, 81, 82, 83, 84, 85, 86, 87, 88, 89, 90, 91, 92, 93, 94, 95, 96, 97, 98, 99, 100, 101, 102, 103, 104, 105, 106, 107, 108, 109, 110, 111, 112, 113, 114, 115, 116, 117, 118, 119, 120, 121, 122, 123, 124, 125] (by decide +kernel) (by decide +kernel)) (goodIn_sub (fun _ h => List.mem_cons_of_mem _ (List.mem_append_left _ (List.mem_append_left _ (List.mem_append_right _ h)))) (by decide +kernel))) (goodIn_sub (fun _ h => List.mem_cons_of_mem _ (List.mem_append_left _ (List.mem_append_right _ h))) (by decide +kernel))) (goodIn_sub (fun _ h => List.mem_cons_of_mem _ (List.mem_append_right _ h)) (by decide +kernel))
set_option maxRecDepth 20000 in
theorem gL_addWall_X11_addWall : GoodIn wsL_addWall (wsV RL 25 RX11 yX11_addWall wsX11_addWall) := goodIn_app (goodIn_of _ (by decide +kernel)) ggL_addWall_X11_addWall
theorem dL_addWall_0 : decode cL_addWall 0 = .ok (.aload 4, 2) := by decide +kernel
theorem dL_addWall_2 : decode cL_addWall 2 = .ok (.iconst 0, 1) := by decide +kernel
theorem dL_addWall_3 : decode cL_addWall 3 = .ok (.aload_n 0, 1) := by decide +kernel
theorem dL_addWall_4 : decode cL_addWall 4 = .ok (.iload_n 1, 1) := by decide +kernel
theorem dL_addWall_5 : decode cL_addWall 5 = .ok (.iload_n 2, 1) := by decide +kernel
theorem dL_addWall_6 : decode cL_addWall 6 = .ok (.iload_n 3, 1) := by decide +kernel
theorem dL_addWall_7 : decode cL_addWall 7 = .ok (.invokevirtual 25, 3) := by decide +kernel
theorem dL_addWall_10 : decode cL_addWall 10 = .ok (.i2l, 1) := by decide +kernel
theorem dL_addWall_11 : decode cL_addWall 11 = .ok (.lastore, 1) := by decide +kernel
theorem dL_addWall_12 : decode cL_addWall 12 = .ok (.goto 11, 3) := by decide +kernel
theorem dL_addWall_15 : decode cL_addWall 15 = .ok (.astore 5, 2) := by decide +kernel
theorem dL_addWall_17 : decode cL_addWall 17 = .ok (.iconst 1, 1) := by decide +kernel
theorem dL_addWall_18 : decode cL_addWall 18 = .ok (.ireturn, 1) := by decide +kernel
theorem dL_addWall_19 : decode cL_addWall 19 = .ok (.astore 5, 2) := by decide +kernel
theorem dL_addWall_21 : decode cL_addWall 21 = .ok (.iconst 2, 1) := by decide +kernel
theorem dL_addWall_22 : decode cL_addWall 22 = .ok (.ireturn, 1) := by decide +kernel
theorem dL_addWall_23 : decode cL_addWall 23 = .ok (.iconst 0, 1) := by decide +kernel
theorem dL_addWall_24 : decode cL_addWall 24 = .ok (.ireturn, 1) := by decide +kernel
set_option maxRecDepth 20000 in
theorem ggL_addScreen_X11_addScreen : GoodIn wsL_addScreen wsX11_addScreen := goodIn_ca (goodIn_ca (goodIn_ca (goodIn_r _ [7, 8, 9, 10, 11, 12, 13, 14, 15, 6, 16, 17, 18, 19, 20, 21, 22, 23, 24, 25, 26, 27, 28, 29, 30, 31, 32, 33, 34, 35, 36, 37, 38, 39, 40, 41, 42, 43, 44, 45, 46, 47, 48, 49, 50, 51, 52, 53, 54, 55, 56, 57, 58, 59, 60, 61, 62, 63, 64, 65, 66, 67, 68, 69, 70, 71, 72, 73, 74, 75, 76, 77, 78, 79, 80, 81, 82, 83, 84, 85, 86, 87, 88, 89, 90, 91, 92, 93, 94, 95, 96, 97, 98, 99, 100, 101, 102, 103, 104, 105, 106, 107, 108, 109, 110, 111, 112, 113, 114, 115, 116, 117, 118, 119, 120, 121, 122, 123, 124, 125] (by decide +kernel) (by decide +kernel)) (goodIn_sub (fun _ h => List.mem_cons_of_mem _ (List.mem_append_left _ (List.mem_append_left _ (List.mem_append_right _ h)))) (by decide +kernel))) (goodIn_sub (fun _ h => List.mem_cons_of_mem _ (List.mem_append_left _ (List.mem_append_right _ h))) (by decide +kernel))) (goodIn_sub (fun _ h => List.mem_cons_of_mem _ (List.mem_append_right _ h)) (by decide +kernel))
set_option maxRecDepth 20000 in
theorem gL_addScreen_X11_addScreen : GoodIn wsL_addScreen (wsV RL 29 RX11 yX11_addScreen wsX11_addScreen) := goodIn_app (goodIn_of _ (by decide +kernel)) ggL_addScreen_X11_addScreen
theorem dL_addScreen_0 : decode cL_addScreen 0 = .ok (.aload 5, 2) := by decide +kernel
theorem dL_addScreen_2 : decode cL_addScreen 2 = .ok (.iconst 0, 1) := by decide +kernel
theorem dL_addScreen_3 : decode cL_addScreen 3 = .ok (.aload_n 0, 1) := by decide +kernel
theorem dL_addScreen_4 : decode cL_addScreen 4 = .ok (.iload_n 1, 1) := by decide +kernel
theorem dL_addScreen_5 : decode cL_addScreen 5 = .ok (.iload_n 2, 1) := by decide +kernel
theorem dL_addScreen_6 : decode cL_addScreen 6 = .ok (.iload_n 3, 1) := by decide +kernel
theorem dL_addScreen_7 : decode cL_addScreen 7 = .ok (.iload 4, 2) := by decide +kernel
theorem dL_addScreen_9 : decode cL_addScreen 9 = .ok (.invokevirtual 29, 3) := by decide +kernel
theorem dL_addScreen_12 : decode cL_addScreen 12 = .ok (.i2l, 1) := by decide +kernel
theorem dL_addScreen_13 : decode cL_addScreen 13 = .ok (.lastore, 1) := by decide +kernel
theorem dL_addScreen_14 : decode cL_addScreen 14 = .ok (.goto 11, 3) := by decide +kernel
theorem dL_addScreen_17 : decode cL_addScreen 17 = .ok (.astore 6, 2) := by decide +kernel
theorem dL_addScreen_19 : decode cL_addScreen 19 = .ok (.iconst 1, 1) := by decide +kernel
theorem dL_addScreen_20 : decode cL_addScreen 20 = .ok (.ireturn, 1) := by decide +kernel
theorem dL_addScreen_21 : decode cL_addScreen 21 = .ok (.astore 6, 2) := by decide +kernel
theorem dL_addScreen_23 : decode cL_addScreen 23 = .ok (.iconst 2, 1) := by decide +kernel
theorem dL_addScreen_24 : decode cL_addScreen 24 = .ok (.ireturn, 1) := by decide +kernel
theorem dL_addScreen_25 : decode cL_addScreen 25 = .ok (.iconst 0, 1) := by decide +kernel
theorem dL_addScreen_26 : decode cL_addScreen 26 = .ok (.ireturn, 1) := by decide +kernel
set_option maxRecDepth 20000 in
theorem ggL_remove_X11_remove : GoodIn wsL_remove wsX11_remove := goodIn_ca (goodIn_ca (goodIn_ca (goodIn_r _ [7, 8, 9, 10, 11, 6, 12, 13, 14, 15, 16, 17, 18, 19, 20, 21, 22, 23, 24, 25, 26, 27, 28, 29, 30, 31, 32, 33, 34, 35, 36, 37, 38, 39, 40, 41, 42, 43, 44, 45, 46, 47, 48, 49, 50, 51, 52, 53, 54, 55, 56, 57, 58, 59, 60, 61, 62, 63, 64, 65, 66, 67, 68, 69, 70, 71, 72, 73, 74, 75, 76, 77, 78, 79, 80, 81, 82, 83, 84, 85, 86, 87, 88, 89, 90, 91, 92, 93, 94, 95, 96, 97, 98, 99, 100, 101, 102, 103, 104, 105, 106, 107, 108, 109, 110, 111, 112, 113, 114, 115, 116, 117, 118, 119, 120, 121, 122] (by decide +kernel) (by decide +kernel)) (goodIn_sub (fun _ h => List.mem_cons_of_mem _ (List.mem_append_left _ (List.mem_append_left _ (List.mem_append_right _ h)))) (by decide +kernel))) (goodIn_sub (fun _ h => List.mem_cons_of_mem _ (List.mem_append_left _ (List.mem_append_right _ h))) (by decide +kernel))) (goodIn_sub (fun _ h => List.mem_cons_of_mem _ (List.mem_append_right _ h)) (by decide +kernel))
set_option maxRecDepth 20000 in
theorem gL_remove_X11_remove : GoodIn wsL_remove (wsV RL 33 RX11 yX11_remove wsX11_remove) := goodIn_app (goodIn_of _ (by decide +kernel)) ggL_remove_X11_remove
theorem dL_remove_0 : decode cL_remove 0 = .ok (.aload_n 3, 1) := by decide +kernel
theorem dL_remove_1 : decode cL_remove 1 = .ok (.iconst 0, 1) := by decide +kernel
theorem dL_remove_2 : decode cL_remove 2 = .ok (.aload_n 0, 1) := by decide +kernel
theorem dL_remove_3 : decode cL_remove 3 = .ok (.iload_n 1, 1) := by decide +kernel
theorem dL_remove_4 : decode cL_remove 4 = .ok (.iload_n 2, 1) := by decide +kernel
theorem dL_remove_5 : decode cL_remove 5 = .ok (.invokevirtual 33, 3) := by decide +kernel
theorem dL_remove_8 : decode cL_remove 8 = .ok (.i2l, 1) := by decide +kernel
theorem dL_remove_9 : decode cL_remove 9 = .ok (.lastore, 1) := by decide +kernel
theorem dL_remove_10 : decode cL_remove 10 = .ok (.goto 11, 3) := by decide +kernel
theorem dL_remove_13 : decode cL_remove 13 = .ok (.astore 4, 2) := by decide +kernel
theorem dL_remove_15 : decode cL_remove 15 = .ok (.iconst 1, 1) := by decide +kernel
theorem dL_remove_16 : decode cL_remove 16 = .ok (.ireturn, 1) := by decide +kernel
theorem dL_remove_17 : decode cL_remove 17 = .ok (.astore 4, 2) := by decide +kernel
theorem dL_remove_19 : decode cL_remove 19 = .ok (.iconst 2, 1) := by decide +kernel
theorem dL_remove_20 : decode cL_remove 20 = .ok (.ireturn, 1) := by decide +kernel
theorem dL_remove_21 : decode cL_remove 21 = .ok (.iconst 0, 1) := by decide +kernel
theorem dL_remove_22 : decode cL_remove 22 = .ok (.ireturn, 1) := by decide +kernel
set_option maxRecDepth 20000 in
theorem ggL_set_X11_set : GoodIn wsL_set wsX11_set := goodIn_ca (goodIn_ca (goodIn_ca (goodIn_r _ [6, 7, 8, 9, 10, 11, 12, 13, 5, 14, 15, 16, 17, 18, 19, 20, 21, 22, 23, 24, 25, 26, 27, 28, 29, 30, 31, 32, 33, 34, 35, 36, 37, 38, 39, 40, 41, 42, 43, 44, 45, 46, 47, 48, 49, 50, 51, 52, 53, 54, 55, 56, 57, 58, 59, 60, 61, 62, 63, 64, 65, 66, 67, 68, 69, 70, 71, 72, 73, 74, 75, 76, 77, 78, 79, 80, 81, 82, 83, 84, 85, 86, 87, 88, 89, 90, 91, 92, 93, 94, 95, 96, 97, 98, 99, 100, 101, 102, 103, 104, 105, 106, 107, 108, 109, 110, 111, 112, 113, 114, 115, 116, 117, 118, 119, 120, 121] (by decide +kernel) (by decide +kernel)) (goodIn_sub (fun _ h => List.mem_cons_of_mem _ (List.mem_append_left _ (List.mem_append_left _ (List.mem_append_right _ h)))) (by decide +kernel))) (goodIn_sub (fun _ h => List.mem_cons_of_mem _ (List.mem_append_left _ (List.mem_append_right _ h))) (by decide +kernel))) (goodIn_sub (fun _ h => List.mem_cons_of_mem _ (List.mem_append_right _ h)) (by decide +kernel))
set_option maxRecDepth 20000 in
theorem gL_set_X11_set : GoodIn wsL_set (wsV RL 36 RX11 yX11_set wsX11_set) := goodIn_app (goodIn_of _ (by decide +kernel)) ggL_set_X11_set
theorem dL_set_0 : decode cL_set 0 = .ok (.aload_n 3, 1) := by decide +kernel
theorem dL_set_1 : decode cL_set 1 = .ok (.iconst 0, 1) := by decide +kernel
theorem dL_set_2 : decode cL_set 2 = .ok (.aload_n 0, 1) := by decide +kernel
theorem dL_set_3 : decode cL_set 3 = .ok (.iload_n 1, 1) := by decide +kernel
theorem dL_set_4 : decode cL_set 4 = .ok (.iload_n 2, 1) := by decide +kernel
theorem dL_set_5 : decode cL_set 5 = .ok (.invokevirtual 36, 3) := by decide +kernel
theorem dL_set_8 : decode cL_set 8 = .ok (.i2l, 1) := by decide +kernel
theorem dL_set_9 : decode cL_set 9 = .ok (.lastore, 1) := by decide +kernel
theorem dL_set_10 : decode cL_set 10 = .ok (.goto 7, 3) := by decide +kernel
theorem dL_set_13 : decode cL_set 13 = .ok (.astore 4, 2) := by decide +kernel
theorem dL_set_15 : decode cL_set 15 = .ok (.iconst 1, 1) := by decide +kernel
theorem dL_set_16 : decode cL_set 16 = .ok (.ireturn, 1) := by decide +kernel
theorem dL_set_17 : decode cL_set 17 = .ok (.iconst 0, 1) := by decide +kernel
theorem dL_set_18 : decode cL_set 18 = .ok (.ireturn, 1) := by decide +kernel
set_option maxRecDepth 20000 in
theorem ggL_setS_X11_setS : GoodIn wsL_setS wsX11_setS := goodIn_ca (goodIn_ca (goodIn_ca (goodIn_r _ [6, 7, 8, 9, 10, 5, 11, 12, 13, 14, 15, 16, 17, 18, 19, 20, 21, 22, 23, 24, 25, 26, 27, 28, 29, 30, 31, 32, 33, 34, 35, 36, 37, 38, 39, 40, 41, 42, 43, 44, 45, 46, 47, 48, 49, 50, 51, 52, 53, 54, 55, 56, 57, 58, 59, 60, 61, 62, 63, 64, 65, 66, 67, 68, 69, 70, 71, 72, 73, 74, 75, 76, 77, 78, 79, 80, 81, 82, 83, 84, 85, 86, 87, 88, 89, 90, 91, 92, 93, 94, 95, 96, 97, 98, 99, 100, 101] (by decide +kernel) (by decide +kernel)) (goodIn_sub (fun _ h => List.mem_cons_of_mem _ (List.mem_append_left _ (List.mem_append_left _ (List.mem_append_right _ h)))) (by decide +kernel))) (goodIn_sub (fun _ h => List.mem_cons_of_mem _ (List.mem_append_left _ (List.mem_append_right _ h))) (by decide +kernel))) (goodIn_sub (fun _ h => List.mem_cons_of_mem _ (List.mem_append_right _ h)) (by decide +kernel))
set_option maxRecDepth 20000 in
theorem gL_setS_X11_setS : GoodIn wsL_setS (wsV RL 39 RX11 yX11_setS wsX11_setS) := goodIn_app (goodIn_of _ (by decide +kernel)) ggL_setS_X11_setS
theorem dL_setS_0 : decode cL_setS 0 = .ok (.aload_n 2, 1) := by decide +kernel
theorem dL_setS_1 : decode cL_setS 1 = .ok (.iconst 0, 1) := by decide +kernel
theorem dL_setS_2 : decode cL_setS 2 = .ok (.aload_n 0, 1) := by decide +kernel
theorem dL_setS_3 : decode cL_setS 3 = .ok (.iload_n 1, 1) := by decide +kernel
theorem dL_setS_4 : decode cL_setS 4 = .ok (.invokevirtual 39, 3) := by decide +kernel
theorem dL_setS_7 : decode cL_setS 7 = .ok (.i2l, 1) := by decide +kernel
theorem dL_setS_8 : decode cL_setS 8 = .ok (.lastore, 1) := by decide +kernel
theorem dL_setS_9 : decode cL_setS 9 = .ok (.goto 6, 3) := by decide +kernel
theorem dL_setS_12 : decode cL_setS 12 = .ok (.astore_n 3, 1) := by decide +kernel
theorem dL_setS_13 : decode cL_setS 13 = .ok (.iconst 1, 1) := by decide +kernel
theorem dL_setS_14 : decode cL_setS 14 = .ok (.ireturn, 1) := by decide +kernel
theorem dL_setS_15 : decode cL_setS 15 = .ok (.iconst 0, 1) := by decide +kernel
theorem dL_setS_16 : decode cL_setS 16 = .ok (.ireturn, 1) := by decide +kernel
set_option maxRecDepth 20000 in
theorem ggL_click_X11_click : GoodIn wsL_click wsX11_click := goodIn_ca (goodIn_ca (goodIn_ca (goodIn_r _ [7, 8, 9, 10, 11, 12, 13, 14, 15, 16, 17, 18, 6, 19, 20, 21, 22, 23, 24, 25, 26, 27, 28, 29, 30, 31, 32, 33, 34, 35, 36, 37, 38, 39, 40, 41, 42, 43, 44, 45, 46, 47, 48, 49, 50, 51, 52, 53, 54, 55, 56, 57, 58, 59, 60, 61, 62, 63, 64, 65, 66, 67, 68, 69, 70, 71, 72, 73, 74, 75, 76, 77, 78, 79, 80, 81, 82, 83, 84, 85, 86, 87, 88, 89, 90, 91, 92, 93, 94, 95, 96, 97, 98, 99, 100, 101, 102, 103, 104, 105, 106, 107, 108, 109, 110, 111, 112, 113, 114, 115, 116, 117, 118, 119, 120, 121, 122, 123, 124, 125, 126, 127, 128, 129, 130, 131, 132, 133, 134, 135, 136, 137, 138, 139, 140, 141, 142, 143, 144, 145, 146, 147, 148, 149, 150, 151, 152, 153, 154, 155, 156, 157, 158, 159, 160, 161, 162, 163, 164, 165, 166, 167, 168, 169, 170, 171, 172, 173, 174, 175, 176, 177, 178, 179, 180, 181, 182, 183, 184, 185, 186, 187, 188, 189, 190, 191, 192, 193, 194, 195, 196, 197, 198, 199, 200, 201, 202, 203, 204, 205, 206, 207, 208, 209, 210, 211, 212, 213, 214, 215, 216, 217, 218, 219, 220, 221, 222, 223, 224, 225, 226, 227, 228, 229, 230, 231, 232, 233, 234, 235, 236, 237, 238, 239, 240, 241, 242, 243, 244, 245] (by decide +kernel) (by decide +kernel)) (goodIn_sub (fun _ h => List.mem_cons_of_mem _ (List.mem_append_left _ (List.mem_append_left _ (List.mem_append_right _ h)))) (by decide +kernel))) (goodIn_sub (fun _ h => List.mem_cons_of_mem _ (List.mem_append_left _ (List.mem_append_right _ h))) (by decide +kernel))) (goodIn_sub (fun _ h => List.mem_cons_of_mem _ (List.mem_append_right _ h)) (by decide +kernel))
set_option maxRecDepth 20000 in
theorem gL_click_X11_click : GoodIn wsL_click (wsV RL 43 RX11 yX11_click wsX11_click) := goodIn_app (goodIn_of _ (by decide +kernel)) ggL_click_X11_click
theorem dL_click_0 : decode cL_click 0 = .ok (.aload 4, 2) := by decide +kernel
theorem dL_click_2 : decode cL_click 2 = .ok (.iconst 0, 1) := by decide +kernel
theorem dL_click_3 : decode cL_click 3 = .ok (.aload_n 0, 1) := by decide +kernel
theorem dL_click_4 : decode cL_click 4 = .ok (.iload_n 1, 1) := by decide +kernel
theorem dL_click_5 : decode cL_click 5 = .ok (.iload_n 2, 1) := by decide +kernel
theorem dL_click_6 : decode cL_click 6 = .ok (.iload_n 3, 1) := by decide +kernel
theorem dL_click_7 : decode cL_click 7 = .ok (.invokevirtual 43, 3) := by decide +kernel
theorem dL_click_10 : decode cL_click 10 = .ok (.i2l, 1) := by decide +kernel
theorem dL_click_11 : decode cL_click 11 = .ok (.lastore, 1) := by decide +kernel
theorem dL_click_12 : decode cL_click 12 = .ok (.goto 11, 3) := by decide +kernel
theorem dL_click_15 : decode cL_click 15 = .ok (.astore 5, 2) := by decide +kernel
theorem dL_click_17 : decode cL_click 17 = .ok (.iconst 1, 1) := by decide +kernel
theorem dL_click_18 : decode cL_click 18 = .ok (.ireturn, 1) := by decide +kernel
theorem dL_click_19 : decode cL_click 19 = .ok (.astore 5, 2) := by decide +kernel
theorem dL_click_21 : decode cL_click 21 = .ok (.iconst 2, 1) := by decide +kernel
theorem dL_click_22 : decode cL_click 22 = .ok (.ireturn, 1) := by decide +kernel
theorem dL_click_23 : decode cL_click 23 = .ok (.iconst 0, 1) := by decide +kernel
theorem dL_click_24 : decode cL_click 24 = .ok (.ireturn, 1) := by decide +kernel
set_option maxRecDepth 20000 in
theorem ggL_calibrate_X11_calibrate : GoodIn wsL_calibrate wsX11_calibrate := goodIn_ca (goodIn_ca (goodIn_ca (goodIn_r _ [7, 8, 9, 10, 11, 12, 13, 14, 15, 16, 17, 18, 6, 19, 20, 21, 22, 23, 24, 25, 26, 27, 28, 29, 30, 31, 32, 33, 34, 35, 36, 37, 38, 39, 40, 41, 42, 43, 44, 45, 46, 47, 48, 49, 50, 51, 52, 53, 54, 55, 56, 57, 58, 59, 60, 61, 62, 63, 64, 65, 66, 67, 68, 69, 70, 71, 72, 73, 74, 75, 76, 77, 78, 79, 80, 81, 82, 83, 84, 85, 86, 87, 88, 89, 90, 91, 92, 93, 94, 95, 96, 97, 98, 99, 100, 101, 102, 103, 104, 105, 106, 107, 108, 109, 110, 111, 112, 113, 114, 115, 116, 117, 118, 119, 120, 121, 122, 123, 124, 125, 126, 127, 128, 129, 130, 131, 132, 133, 134, 135, 136, 137, 138, 139, 140, 141, 142, 143, 144, 145, 146, 147, 148, 149, 150, 151, 152, 153, 154, 155, 156, 157, 158, 159, 160, 161, 162, 163, 164, 165, 166, 167, 168, 169, 170, 171, 172, 173, 174, 175, 176, 177, 178, 179, 180, 181, 182, 183, 184, 185, 186, 187, 188, 189, 190, 191, 192, 193, 194, 195, 196, 197, 198, 199, 200, 201, 202, 203, 204, 205, 206, 207, 208, 209, 210, 211, 212, 213, 214, 215, 216, 217, 218, 219, 220, 221, 222, 223, 224, 225, 226, 227, 228, 229, 230, 231, 232, 233, 234, 235, 236, 237, 238, 239, 240, 241, 242, 243, 244, 245, 246, 247] (by decide +kernel) (by decide +kernel)) (goodIn_sub (fun _ h => List.mem_cons_of_mem _ (List.mem_append_left _ (List.mem_append_left _ (List.mem_append_right _ h)))) (by decide +kernel))) (goodIn_sub (fun _ h => List.mem_cons_of_mem _ (List.mem_append_left _ (List.mem_append_right _ h))) (by decide +kernel))) (goodIn_sub (fun _ h => List.mem_cons_of_mem _ (List.mem_append_right _ h)) (by decide +kernel))
set_option maxRecDepth 20000 in
theorem gL_calibrate_X11_calibrate : GoodIn wsL_calibrate (wsV RL 46 RX11 yX11_calibrate wsX11_calibrate) := goodIn_app (goodIn_of _ (by decide +kernel)) ggL_calibrate_X11_calibrate
theorem dL_calibrate_0 : decode cL_calibrate 0 = .ok (.aload 4, 2) := by decide +kernel
theorem dL_calibrate_2 : decode cL_calibrate 2 = .ok (.iconst 0, 1) := by decide +kernel
theorem dL_calibrate_3 : decode cL_calibrate 3 = .ok (.aload_n 0, 1) := by decide +kernel
theorem dL_calibrate_4 : decode cL_calibrate 4 = .ok (.iload_n 1, 1) := by decide +kernel
theorem dL_calibrate_5 : decode cL_calibrate 5 = .ok (.iload_n 2, 1) := by decide +kernel
theorem dL_calibrate_6 : decode cL_calibrate 6 = .ok (.iload_n 3, 1) := by decide +kernel
theorem dL_calibrate_7 : decode cL_calibrate 7 = .ok (.invokevirtual 46, 3) := by decide +kernel
theorem dL_calibrate_10 : decode cL_calibrate 10 = .ok (.i2l, 1) := by decide +kernel
theorem dL_calibrate_11 : decode cL_calibrate 11 = .ok (.lastore, 1) := by decide +kernel
theorem dL_calibrate_12 : decode cL_calibrate 12 = .ok (.goto 11, 3) := by decide +kernel
theorem dL_calibrate_15 : decode cL_calibrate 15 = .ok (.astore 5, 2) := by decide +kernel
theorem dL_calibrate_17 : decode cL_calibrate 17 = .ok (.iconst 1, 1) := by decide +kernel
theorem dL_calibrate_18 : decode cL_calibrate 18 = .ok (.ireturn, 1) := by decide +kernel
theorem dL_calibrate_19 : decode cL_calibrate 19 = .ok (.astore 5, 2) := by decide +kernel
theorem dL_calibrate_21 : decode cL_calibrate 21 = .ok (.iconst 2, 1) := by decide +kernel
theorem dL_calibrate_22 : decode cL_calibrate 22 = .ok (.ireturn, 1) := by decide +kernel
theorem dL_calibrate_23 : decode cL_calibrate 23 = .ok (.iconst 0, 1) := by decide +kernel
theorem dL_calibrate_24 : decode cL_calibrate 24 = .ok (.ireturn, 1) := by decide +kernel
set_option maxRecDepth 20000 in
theorem ggL_note_X11_note : GoodIn wsL_note wsX11_note := goodIn_ca (goodIn_ca (goodIn_ca (goodIn_r _ [6, 7, 8, 9, 10, 11, 12, 13, 14, 15, 16, 5, 17, 18, 19, 20, 21, 22, 23, 24, 25, 26, 27, 28, 29, 30, 31, 32, 33, 34, 35, 36, 37, 38, 39, 40, 41, 42, 43, 44, 45, 46, 47, 48, 49, 50, 51, 52, 53] (by decide +kernel) (by decide +kernel)) (goodIn_sub (fun _ h => List.mem_cons_of_mem _ (List.mem_append_left _ (List.mem_append_left _ (List.mem_append_right _ h)))) (by decide +kernel))) (goodIn_sub (fun _ h => List.mem_cons_of_mem _ (List.mem_append_left _ (List.mem_append_right _ h))) (by decide +kernel))) (goodIn_sub (fun _ h => List.mem_cons_of_mem _ (List.mem_append_right _ h)) (by decide +kernel))
set_option maxRecDepth 20000 in
theorem gL_note_X11_note : GoodIn wsL_note (wsV RL 49 RX11 yX11_note wsX11_note) := goodIn_app (goodIn_of _ (by decide +kernel)) ggL_note_X11_note
theorem dL_note_0 : decode cL_note 0 = .ok (.aload_n 2, 1) := by decide +kernel
theorem dL_note_1 : decode cL_note 1 = .ok (.iconst 0, 1) := by decide +kernel
theorem dL_note_2 : decode cL_note 2 = .ok (.aload_n 0, 1) := by decide +kernel
theorem dL_note_3 : decode cL_note 3 = .ok (.iload_n 1, 1) := by decide +kernel
theorem dL_note_4 : decode cL_note 4 = .ok (.invokevirtual 49, 3) := by decide +kernel
theorem dL_note_7 : decode cL_note 7 = .ok (.i2l, 1) := by decide +kernel
theorem dL_note_8 : decode cL_note 8 = .ok (.lastore, 1) := by decide +kernel
theorem dL_note_9 : decode cL_note 9 = .ok (.goto 6, 3) := by decide +kernel
theorem dL_note_12 : decode cL_note 12 = .ok (.astore_n 3, 1) := by decide +kernel
theorem dL_note_13 : decode cL_note 13 = .ok (.iconst 1, 1) := by decide +kernel
theorem dL_note_14 : decode cL_note 14 = .ok (.ireturn, 1) := by decide +kernel
theorem dL_note_15 : decode cL_note 15 = .ok (.iconst 0, 1) := by decide +kernel
theorem dL_note_16 : decode cL_note 16 = .ok (.ireturn, 1) := by decide +kernel
set_option maxRecDepth 20000 in
theorem ggL_heard_X11_heard : GoodIn wsL_heard wsX11_heard := goodIn_ca (goodIn_ca (goodIn_ca (goodIn_r _ [7, 8, 9, 10, 11, 12, 13, 14, 15, 16, 17, 6, 18, 19, 20, 21, 22, 23, 24, 25, 26, 27, 28, 29, 30, 31, 32, 33, 34, 35, 36, 37, 38, 39, 40, 41, 42, 43, 44, 45, 46, 47, 48, 49, 50, 51, 52, 53, 54, 55, 56, 57, 58, 59, 60] (by decide +kernel) (by decide +kernel)) (goodIn_sub (fun _ h => List.mem_cons_of_mem _ (List.mem_append_left _ (List.mem_append_left _ (List.mem_append_right _ h)))) (by decide +kernel))) (goodIn_sub (fun _ h => List.mem_cons_of_mem _ (List.mem_append_left _ (List.mem_append_right _ h))) (by decide +kernel))) (goodIn_sub (fun _ h => List.mem_cons_of_mem _ (List.mem_append_right _ h)) (by decide +kernel))
set_option maxRecDepth 20000 in
theorem gL_heard_X11_heard : GoodIn wsL_heard (wsV RL 52 RX11 yX11_heard wsX11_heard) := goodIn_app (goodIn_of _ (by decide +kernel)) ggL_heard_X11_heard
theorem dL_heard_0 : decode cL_heard 0 = .ok (.aload_n 3, 1) := by decide +kernel
theorem dL_heard_1 : decode cL_heard 1 = .ok (.iconst 0, 1) := by decide +kernel
theorem dL_heard_2 : decode cL_heard 2 = .ok (.aload_n 0, 1) := by decide +kernel
theorem dL_heard_3 : decode cL_heard 3 = .ok (.iload_n 1, 1) := by decide +kernel
theorem dL_heard_4 : decode cL_heard 4 = .ok (.iload_n 2, 1) := by decide +kernel
theorem dL_heard_5 : decode cL_heard 5 = .ok (.invokevirtual 52, 3) := by decide +kernel
theorem dL_heard_8 : decode cL_heard 8 = .ok (.i2l, 1) := by decide +kernel
theorem dL_heard_9 : decode cL_heard 9 = .ok (.lastore, 1) := by decide +kernel
theorem dL_heard_10 : decode cL_heard 10 = .ok (.goto 11, 3) := by decide +kernel
theorem dL_heard_13 : decode cL_heard 13 = .ok (.astore 4, 2) := by decide +kernel
theorem dL_heard_15 : decode cL_heard 15 = .ok (.iconst 1, 1) := by decide +kernel
theorem dL_heard_16 : decode cL_heard 16 = .ok (.ireturn, 1) := by decide +kernel
theorem dL_heard_17 : decode cL_heard 17 = .ok (.astore 4, 2) := by decide +kernel
theorem dL_heard_19 : decode cL_heard 19 = .ok (.iconst 2, 1) := by decide +kernel
theorem dL_heard_20 : decode cL_heard 20 = .ok (.ireturn, 1) := by decide +kernel
theorem dL_heard_21 : decode cL_heard 21 = .ok (.iconst 0, 1) := by decide +kernel
theorem dL_heard_22 : decode cL_heard 22 = .ok (.ireturn, 1) := by decide +kernel
set_option maxRecDepth 20000 in
theorem ggL_arrivals_X11_arrivals : GoodIn wsL_arrivals wsX11_arrivals := goodIn_ca (goodIn_ca (goodIn_ca (goodIn_r _ [7, 8, 9, 10, 11, 12, 13, 14, 15, 16, 17, 18, 19, 20, 6, 21, 22, 23, 24, 25, 26, 27, 28, 29, 30, 31, 32, 33, 34, 35, 36, 37, 38, 39, 40, 41, 42, 43, 44, 45, 46, 47, 48, 49, 50, 51, 52, 53, 54, 55, 56, 57, 58, 59, 60, 61, 62, 63, 64, 65, 66, 67, 68, 69, 70, 71, 72, 73, 74, 75, 76, 77, 78, 79, 80, 81, 82, 83, 84, 85, 86, 87, 88, 89, 90, 91, 92, 93, 94, 95, 96, 97, 98, 99, 100, 101, 102, 103, 104, 105, 106, 107, 108, 109, 110, 111, 112, 113, 114, 115, 116, 117, 118, 119, 120, 121, 122, 123, 124, 125, 126, 127, 128, 129, 130, 131, 132, 133, 134, 135, 136, 137, 138, 139, 140, 141, 142, 143, 144, 145, 146, 147, 148, 149, 150, 151, 152, 153, 154, 155, 156, 157, 158] (by decide +kernel) (by decide +kernel)) (goodIn_sub (fun _ h => List.mem_cons_of_mem _ (List.mem_append_left _ (List.mem_append_left _ (List.mem_append_right _ h)))) (by decide +kernel))) (goodIn_sub (fun _ h => List.mem_cons_of_mem _ (List.mem_append_left _ (List.mem_append_right _ h))) (by decide +kernel))) (goodIn_sub (fun _ h => List.mem_cons_of_mem _ (List.mem_append_right _ h)) (by decide +kernel))
set_option maxRecDepth 20000 in
theorem gL_arrivals_X11_arrivals : GoodIn wsL_arrivals (wsV RL 55 RX11 yX11_arrivals wsX11_arrivals) := goodIn_app (goodIn_of _ (by decide +kernel)) ggL_arrivals_X11_arrivals
theorem dL_arrivals_0 : decode cL_arrivals 0 = .ok (.aload 4, 2) := by decide +kernel
theorem dL_arrivals_2 : decode cL_arrivals 2 = .ok (.iconst 0, 1) := by decide +kernel
theorem dL_arrivals_3 : decode cL_arrivals 3 = .ok (.aload_n 0, 1) := by decide +kernel
theorem dL_arrivals_4 : decode cL_arrivals 4 = .ok (.iload_n 1, 1) := by decide +kernel
theorem dL_arrivals_5 : decode cL_arrivals 5 = .ok (.iload_n 2, 1) := by decide +kernel
theorem dL_arrivals_6 : decode cL_arrivals 6 = .ok (.iload_n 3, 1) := by decide +kernel
theorem dL_arrivals_7 : decode cL_arrivals 7 = .ok (.invokevirtual 55, 3) := by decide +kernel
theorem dL_arrivals_10 : decode cL_arrivals 10 = .ok (.i2l, 1) := by decide +kernel
theorem dL_arrivals_11 : decode cL_arrivals 11 = .ok (.lastore, 1) := by decide +kernel
theorem dL_arrivals_12 : decode cL_arrivals 12 = .ok (.goto 11, 3) := by decide +kernel
theorem dL_arrivals_15 : decode cL_arrivals 15 = .ok (.astore 5, 2) := by decide +kernel
theorem dL_arrivals_17 : decode cL_arrivals 17 = .ok (.iconst 1, 1) := by decide +kernel
theorem dL_arrivals_18 : decode cL_arrivals 18 = .ok (.ireturn, 1) := by decide +kernel
theorem dL_arrivals_19 : decode cL_arrivals 19 = .ok (.astore 5, 2) := by decide +kernel
theorem dL_arrivals_21 : decode cL_arrivals 21 = .ok (.iconst 2, 1) := by decide +kernel
theorem dL_arrivals_22 : decode cL_arrivals 22 = .ok (.ireturn, 1) := by decide +kernel
theorem dL_arrivals_23 : decode cL_arrivals 23 = .ok (.iconst 0, 1) := by decide +kernel
theorem dL_arrivals_24 : decode cL_arrivals 24 = .ok (.ireturn, 1) := by decide +kernel
set_option maxRecDepth 20000 in
theorem ggL_arrival_X11_arrival : GoodIn wsL_arrival wsX11_arrival := goodIn_ca (goodIn_ca (goodIn_ca (goodIn_r _ [7, 8, 9, 10, 11, 12, 13, 14, 15, 16, 17, 18, 19, 6, 20, 21, 22, 23, 24, 25, 26, 27, 28, 29, 30, 31, 32, 33, 34, 35, 36, 37, 38, 39, 40, 41, 42, 43, 44, 45, 46, 47, 48, 49, 50, 51, 52, 53, 54, 55, 56, 57, 58, 59, 60, 61, 62, 63, 64, 65, 66, 67, 68, 69, 70, 71, 72, 73, 74, 75, 76, 77, 78, 79, 80, 81, 82, 83, 84, 85, 86, 87, 88, 89, 90, 91, 92, 93, 94, 95, 96, 97, 98, 99, 100, 101, 102, 103, 104, 105, 106, 107, 108, 109, 110, 111, 112, 113, 114, 115, 116, 117, 118, 119, 120, 121, 122, 123, 124, 125, 126, 127, 128, 129, 130, 131, 132, 133, 134, 135, 136, 137, 138, 139, 140, 141, 142, 143, 144, 145, 146, 147, 148, 149, 150, 151, 152, 153, 154, 155, 156, 157, 158] (by decide +kernel) (by decide +kernel)) (goodIn_sub (fun _ h => List.mem_cons_of_mem _ (List.mem_append_left _ (List.mem_append_left _ (List.mem_append_right _ h)))) (by decide +kernel))) (goodIn_sub (fun _ h => List.mem_cons_of_mem _ (List.mem_append_left _ (List.mem_append_right _ h))) (by decide +kernel))) (goodIn_sub (fun _ h => List.mem_cons_of_mem _ (List.mem_append_right _ h)) (by decide +kernel))
set_option maxRecDepth 20000 in
theorem gL_arrival_X11_arrival : GoodIn wsL_arrival (wsV RL 58 RX11 yX11_arrival wsX11_arrival) := goodIn_app (goodIn_of _ (by decide +kernel)) ggL_arrival_X11_arrival
theorem dL_arrival_0 : decode cL_arrival 0 = .ok (.aload 6, 2) := by decide +kernel
theorem dL_arrival_2 : decode cL_arrival 2 = .ok (.iconst 0, 1) := by decide +kernel
theorem dL_arrival_3 : decode cL_arrival 3 = .ok (.aload_n 0, 1) := by decide +kernel
theorem dL_arrival_4 : decode cL_arrival 4 = .ok (.iload_n 1, 1) := by decide +kernel
theorem dL_arrival_5 : decode cL_arrival 5 = .ok (.iload_n 2, 1) := by decide +kernel
theorem dL_arrival_6 : decode cL_arrival 6 = .ok (.iload_n 3, 1) := by decide +kernel
theorem dL_arrival_7 : decode cL_arrival 7 = .ok (.iload 4, 2) := by decide +kernel
theorem dL_arrival_9 : decode cL_arrival 9 = .ok (.iload 5, 2) := by decide +kernel
theorem dL_arrival_11 : decode cL_arrival 11 = .ok (.invokevirtual 58, 3) := by decide +kernel
theorem dL_arrival_14 : decode cL_arrival 14 = .ok (.i2l, 1) := by decide +kernel
theorem dL_arrival_15 : decode cL_arrival 15 = .ok (.lastore, 1) := by decide +kernel
theorem dL_arrival_16 : decode cL_arrival 16 = .ok (.goto 11, 3) := by decide +kernel
theorem dL_arrival_19 : decode cL_arrival 19 = .ok (.astore 7, 2) := by decide +kernel
theorem dL_arrival_21 : decode cL_arrival 21 = .ok (.iconst 1, 1) := by decide +kernel
theorem dL_arrival_22 : decode cL_arrival 22 = .ok (.ireturn, 1) := by decide +kernel
theorem dL_arrival_23 : decode cL_arrival 23 = .ok (.astore 7, 2) := by decide +kernel
theorem dL_arrival_25 : decode cL_arrival 25 = .ok (.iconst 2, 1) := by decide +kernel
theorem dL_arrival_26 : decode cL_arrival 26 = .ok (.ireturn, 1) := by decide +kernel
theorem dL_arrival_27 : decode cL_arrival 27 = .ok (.iconst 0, 1) := by decide +kernel
theorem dL_arrival_28 : decode cL_arrival 28 = .ok (.ireturn, 1) := by decide +kernel
set_option maxRecDepth 20000 in
theorem ggL_delay_X11_delay : GoodIn wsL_delay wsX11_delay := goodIn_ca (goodIn_ca (goodIn_ca (goodIn_r _ [7, 8, 9, 10, 11, 12, 13, 14, 15, 16, 17, 18, 6, 19, 20, 21, 22, 23, 24, 25, 26, 27, 28, 29, 30, 31, 32, 33, 34, 35, 36, 37, 38, 39, 40, 41, 42, 43, 44, 45, 46, 47, 48, 49, 50, 51, 52, 53, 54, 55, 56, 57, 58, 59, 60, 61, 62, 63, 64, 65, 66] (by decide +kernel) (by decide +kernel)) (goodIn_sub (fun _ h => List.mem_cons_of_mem _ (List.mem_append_left _ (List.mem_append_left _ (List.mem_append_right _ h)))) (by decide +kernel))) (goodIn_sub (fun _ h => List.mem_cons_of_mem _ (List.mem_append_left _ (List.mem_append_right _ h))) (by decide +kernel))) (goodIn_sub (fun _ h => List.mem_cons_of_mem _ (List.mem_append_right _ h)) (by decide +kernel))
set_option maxRecDepth 20000 in
theorem gL_delay_X11_delay : GoodIn wsL_delay (wsV RL 62 RX11 yX11_delay wsX11_delay) := goodIn_app (goodIn_of _ (by decide +kernel)) ggL_delay_X11_delay
theorem dL_delay_0 : decode cL_delay 0 = .ok (.aload_n 3, 1) := by decide +kernel
theorem dL_delay_1 : decode cL_delay 1 = .ok (.iconst 0, 1) := by decide +kernel
theorem dL_delay_2 : decode cL_delay 2 = .ok (.aload_n 0, 1) := by decide +kernel
theorem dL_delay_3 : decode cL_delay 3 = .ok (.iload_n 1, 1) := by decide +kernel
theorem dL_delay_4 : decode cL_delay 4 = .ok (.iload_n 2, 1) := by decide +kernel
theorem dL_delay_5 : decode cL_delay 5 = .ok (.invokevirtual 62, 3) := by decide +kernel
theorem dL_delay_8 : decode cL_delay 8 = .ok (.i2l, 1) := by decide +kernel
theorem dL_delay_9 : decode cL_delay 9 = .ok (.lastore, 1) := by decide +kernel
theorem dL_delay_10 : decode cL_delay 10 = .ok (.goto 11, 3) := by decide +kernel
theorem dL_delay_13 : decode cL_delay 13 = .ok (.astore 4, 2) := by decide +kernel
theorem dL_delay_15 : decode cL_delay 15 = .ok (.iconst 1, 1) := by decide +kernel
theorem dL_delay_16 : decode cL_delay 16 = .ok (.ireturn, 1) := by decide +kernel
theorem dL_delay_17 : decode cL_delay 17 = .ok (.astore 4, 2) := by decide +kernel
theorem dL_delay_19 : decode cL_delay 19 = .ok (.iconst 2, 1) := by decide +kernel
theorem dL_delay_20 : decode cL_delay 20 = .ok (.ireturn, 1) := by decide +kernel
theorem dL_delay_21 : decode cL_delay 21 = .ok (.iconst 0, 1) := by decide +kernel
theorem dL_delay_22 : decode cL_delay 22 = .ok (.ireturn, 1) := by decide +kernel
set_option maxRecDepth 20000 in
theorem ggL_expected_X11_expected : GoodIn wsL_expected wsX11_expected := goodIn_ca (goodIn_ca (goodIn_ca (goodIn_r _ [7, 8, 9, 10, 11, 12, 13, 14, 15, 16, 17, 18, 19, 20, 21, 22, 23, 24, 25, 26, 27, 28, 6, 29, 30, 31, 32, 33, 34, 35, 36, 37, 38, 39, 40, 41, 42, 43, 44, 45, 46, 47, 48, 49, 50, 51, 52, 53, 54, 55, 56, 57, 58, 59, 60, 61, 62, 63, 64, 65, 66, 67, 68, 69, 70, 71, 72, 73, 74, 75, 76, 77, 78, 79, 80, 81, 82, 83, 84, 85, 86, 87, 88, 89, 90, 91, 92, 93, 94, 95] (by decide +kernel) (by decide +kernel)) (goodIn_sub (fun _ h => List.mem_cons_of_mem _ (List.mem_append_left _ (List.mem_append_left _ (List.mem_append_right _ h)))) (by decide +kernel))) (goodIn_sub (fun _ h => List.mem_cons_of_mem _ (List.mem_append_left _ (List.mem_append_right _ h))) (by decide +kernel))) (goodIn_sub (fun _ h => List.mem_cons_of_mem _ (List.mem_append_right _ h)) (by decide +kernel))
set_option maxRecDepth 20000 in
theorem gL_expected_X11_expected : GoodIn wsL_expected (wsV RL 65 RX11 yX11_expected wsX11_expected) := goodIn_app (goodIn_of _ (by decide +kernel)) ggL_expected_X11_expected
theorem dL_expected_0 : decode cL_expected 0 = .ok (.aload 4, 2) := by decide +kernel
theorem dL_expected_2 : decode cL_expected 2 = .ok (.iconst 0, 1) := by decide +kernel
theorem dL_expected_3 : decode cL_expected 3 = .ok (.aload_n 0, 1) := by decide +kernel
theorem dL_expected_4 : decode cL_expected 4 = .ok (.iload_n 1, 1) := by decide +kernel
theorem dL_expected_5 : decode cL_expected 5 = .ok (.iload_n 2, 1) := by decide +kernel
theorem dL_expected_6 : decode cL_expected 6 = .ok (.iload_n 3, 1) := by decide +kernel
theorem dL_expected_7 : decode cL_expected 7 = .ok (.invokevirtual 65, 3) := by decide +kernel
theorem dL_expected_10 : decode cL_expected 10 = .ok (.i2l, 1) := by decide +kernel
theorem dL_expected_11 : decode cL_expected 11 = .ok (.lastore, 1) := by decide +kernel
theorem dL_expected_12 : decode cL_expected 12 = .ok (.goto 11, 3) := by decide +kernel
theorem dL_expected_15 : decode cL_expected 15 = .ok (.astore 5, 2) := by decide +kernel
theorem dL_expected_17 : decode cL_expected 17 = .ok (.iconst 1, 1) := by decide +kernel
theorem dL_expected_18 : decode cL_expected 18 = .ok (.ireturn, 1) := by decide +kernel
theorem dL_expected_19 : decode cL_expected 19 = .ok (.astore 5, 2) := by decide +kernel
theorem dL_expected_21 : decode cL_expected 21 = .ok (.iconst 2, 1) := by decide +kernel
theorem dL_expected_22 : decode cL_expected 22 = .ok (.ireturn, 1) := by decide +kernel
theorem dL_expected_23 : decode cL_expected 23 = .ok (.iconst 0, 1) := by decide +kernel
theorem dL_expected_24 : decode cL_expected 24 = .ok (.ireturn, 1) := by decide +kernel
set_option maxRecDepth 20000 in
theorem ggL_votes_X11_votes : GoodIn wsL_votes wsX11_votes := goodIn_ca (goodIn_ca (goodIn_ca (goodIn_r _ [6, 7, 8, 9, 10, 11, 12, 13, 14, 15, 16, 17, 18, 19, 20, 21, 5, 22, 23, 24, 25, 26, 27, 28, 29, 30, 31, 32, 33, 34, 35, 36, 37, 38, 39, 40, 41, 42, 43, 44, 45, 46, 47, 48, 49, 50, 51, 52, 53, 54, 55, 56, 57, 58, 59, 60, 61, 62, 63, 64, 65, 66, 67, 68, 69, 70, 71, 72, 73, 74, 75, 76, 77, 78, 79, 80, 81, 82, 83, 84, 85, 86, 87, 88, 89, 90, 91, 92, 93, 94, 95, 96, 97, 98, 99, 100, 101, 102, 103, 104, 105, 106, 107, 108, 109, 110, 111, 112, 113, 114, 115, 116, 117, 118, 119, 120, 121, 122, 123, 124, 125, 126, 127, 128, 129, 130, 131, 132, 133, 134, 135, 136, 137, 138, 139, 140, 141, 142, 143, 144, 145, 146, 147, 148, 149, 150, 151, 152, 153, 154, 155, 156, 157, 158, 159, 160, 161] (by decide +kernel) (by decide +kernel)) (goodIn_sub (fun _ h => List.mem_cons_of_mem _ (List.mem_append_left _ (List.mem_append_left _ (List.mem_append_right _ h)))) (by decide +kernel))) (goodIn_sub (fun _ h => List.mem_cons_of_mem _ (List.mem_append_left _ (List.mem_append_right _ h))) (by decide +kernel))) (goodIn_sub (fun _ h => List.mem_cons_of_mem _ (List.mem_append_right _ h)) (by decide +kernel))
set_option maxRecDepth 20000 in
theorem gL_votes_X11_votes : GoodIn wsL_votes (wsV RL 68 RX11 yX11_votes wsX11_votes) := goodIn_app (goodIn_of _ (by decide +kernel)) ggL_votes_X11_votes
theorem dL_votes_0 : decode cL_votes 0 = .ok (.aload_n 2, 1) := by decide +kernel
theorem dL_votes_1 : decode cL_votes 1 = .ok (.iconst 0, 1) := by decide +kernel
theorem dL_votes_2 : decode cL_votes 2 = .ok (.aload_n 0, 1) := by decide +kernel
theorem dL_votes_3 : decode cL_votes 3 = .ok (.iload_n 1, 1) := by decide +kernel
theorem dL_votes_4 : decode cL_votes 4 = .ok (.invokevirtual 68, 3) := by decide +kernel
theorem dL_votes_7 : decode cL_votes 7 = .ok (.i2l, 1) := by decide +kernel
theorem dL_votes_8 : decode cL_votes 8 = .ok (.lastore, 1) := by decide +kernel
theorem dL_votes_9 : decode cL_votes 9 = .ok (.goto 6, 3) := by decide +kernel
theorem dL_votes_12 : decode cL_votes 12 = .ok (.astore_n 3, 1) := by decide +kernel
theorem dL_votes_13 : decode cL_votes 13 = .ok (.iconst 1, 1) := by decide +kernel
theorem dL_votes_14 : decode cL_votes 14 = .ok (.ireturn, 1) := by decide +kernel
theorem dL_votes_15 : decode cL_votes 15 = .ok (.iconst 0, 1) := by decide +kernel
theorem dL_votes_16 : decode cL_votes 16 = .ok (.ireturn, 1) := by decide +kernel
set_option maxRecDepth 20000 in
theorem ggL_error_X11_error : GoodIn wsL_error wsX11_error := goodIn_ca (goodIn_ca (goodIn_ca (goodIn_r _ [6, 7, 8, 9, 10, 11, 12, 13, 14, 15, 16, 17, 18, 19, 20, 21, 5, 22, 23, 24, 25, 26, 27, 28, 29, 30, 31, 32, 33, 34, 35, 36, 37, 38, 39, 40, 41, 42, 43, 44, 45, 46, 47, 48, 49, 50, 51, 52, 53, 54, 55, 56, 57, 58, 59, 60, 61, 62, 63, 64, 65, 66, 67, 68, 69, 70, 71, 72, 73, 74, 75, 76, 77, 78, 79, 80, 81, 82, 83, 84, 85, 86, 87, 88, 89, 90, 91, 92, 93, 94, 95, 96, 97, 98, 99, 100, 101, 102, 103, 104, 105, 106, 107, 108, 109, 110, 111, 112, 113, 114, 115, 116, 117, 118, 119, 120, 121, 122, 123, 124, 125, 126, 127, 128, 129, 130, 131, 132, 133, 134, 135, 136, 137, 138, 139, 140, 141, 142, 143, 144, 145, 146, 147, 148, 149, 150, 151, 152, 153, 154, 155, 156, 157, 158, 159, 160, 161] (by decide +kernel) (by decide +kernel)) (goodIn_sub (fun _ h => List.mem_cons_of_mem _ (List.mem_append_left _ (List.mem_append_left _ (List.mem_append_right _ h)))) (by decide +kernel))) (goodIn_sub (fun _ h => List.mem_cons_of_mem _ (List.mem_append_left _ (List.mem_append_right _ h))) (by decide +kernel))) (goodIn_sub (fun _ h => List.mem_cons_of_mem _ (List.mem_append_right _ h)) (by decide +kernel))
set_option maxRecDepth 20000 in
theorem gL_error_X11_error : GoodIn wsL_error (wsV RL 71 RX11 yX11_error wsX11_error) := goodIn_app (goodIn_of _ (by decide +kernel)) ggL_error_X11_error
theorem dL_error_0 : decode cL_error 0 = .ok (.aload_n 2, 1) := by decide +kernel
theorem dL_error_1 : decode cL_error 1 = .ok (.iconst 0, 1) := by decide +kernel
theorem dL_error_2 : decode cL_error 2 = .ok (.aload_n 0, 1) := by decide +kernel
theorem dL_error_3 : decode cL_error 3 = .ok (.iload_n 1, 1) := by decide +kernel
theorem dL_error_4 : decode cL_error 4 = .ok (.invokevirtual 71, 3) := by decide +kernel
theorem dL_error_7 : decode cL_error 7 = .ok (.i2l, 1) := by decide +kernel
theorem dL_error_8 : decode cL_error 8 = .ok (.lastore, 1) := by decide +kernel
theorem dL_error_9 : decode cL_error 9 = .ok (.goto 6, 3) := by decide +kernel
theorem dL_error_12 : decode cL_error 12 = .ok (.astore_n 3, 1) := by decide +kernel
theorem dL_error_13 : decode cL_error 13 = .ok (.iconst 1, 1) := by decide +kernel
theorem dL_error_14 : decode cL_error 14 = .ok (.ireturn, 1) := by decide +kernel
theorem dL_error_15 : decode cL_error 15 = .ok (.iconst 0, 1) := by decide +kernel
theorem dL_error_16 : decode cL_error 16 = .ok (.ireturn, 1) := by decide +kernel
set_option maxRecDepth 20000 in
theorem ggL_blame_X11_blame : GoodIn wsL_blame wsX11_blame := goodIn_ca (goodIn_ca (goodIn_ca (goodIn_r _ [6, 7, 8, 9, 10, 11, 12, 13, 14, 15, 16, 17, 5, 18, 19, 20, 21, 22, 23, 24, 25, 26, 27, 28, 29, 30, 31, 32, 33, 34, 35, 36, 37, 38, 39, 40, 41, 42, 43, 44, 45, 46, 47, 48, 49, 50, 51, 52, 53, 54, 55, 56, 57, 58, 59, 60, 61, 62, 63, 64, 65, 66, 67, 68, 69, 70, 71, 72, 73, 74, 75, 76, 77, 78, 79, 80, 81, 82, 83, 84, 85, 86, 87, 88, 89, 90, 91, 92, 93, 94, 95, 96, 97, 98, 99, 100, 101, 102, 103, 104, 105, 106, 107, 108, 109, 110, 111, 112, 113, 114, 115, 116, 117, 118, 119, 120, 121, 122, 123, 124, 125, 126, 127, 128, 129, 130, 131, 132, 133, 134, 135, 136, 137, 138, 139, 140, 141, 142, 143, 144, 145, 146, 147, 148, 149, 150, 151, 152, 153, 154, 155, 156, 157, 158, 159] (by decide +kernel) (by decide +kernel)) (goodIn_sub (fun _ h => List.mem_cons_of_mem _ (List.mem_append_left _ (List.mem_append_left _ (List.mem_append_right _ h)))) (by decide +kernel))) (goodIn_sub (fun _ h => List.mem_cons_of_mem _ (List.mem_append_left _ (List.mem_append_right _ h))) (by decide +kernel))) (goodIn_sub (fun _ h => List.mem_cons_of_mem _ (List.mem_append_right _ h)) (by decide +kernel))
set_option maxRecDepth 20000 in
theorem gL_blame_X11_blame : GoodIn wsL_blame (wsV RL 74 RX11 yX11_blame wsX11_blame) := goodIn_app (goodIn_of _ (by decide +kernel)) ggL_blame_X11_blame
theorem dL_blame_0 : decode cL_blame 0 = .ok (.aload_n 2, 1) := by decide +kernel
theorem dL_blame_1 : decode cL_blame 1 = .ok (.iconst 0, 1) := by decide +kernel
theorem dL_blame_2 : decode cL_blame 2 = .ok (.aload_n 0, 1) := by decide +kernel
theorem dL_blame_3 : decode cL_blame 3 = .ok (.iload_n 1, 1) := by decide +kernel
theorem dL_blame_4 : decode cL_blame 4 = .ok (.invokevirtual 74, 3) := by decide +kernel
theorem dL_blame_7 : decode cL_blame 7 = .ok (.i2l, 1) := by decide +kernel
theorem dL_blame_8 : decode cL_blame 8 = .ok (.lastore, 1) := by decide +kernel
theorem dL_blame_9 : decode cL_blame 9 = .ok (.goto 6, 3) := by decide +kernel
theorem dL_blame_12 : decode cL_blame 12 = .ok (.astore_n 3, 1) := by decide +kernel
theorem dL_blame_13 : decode cL_blame 13 = .ok (.iconst 1, 1) := by decide +kernel
theorem dL_blame_14 : decode cL_blame 14 = .ok (.ireturn, 1) := by decide +kernel
theorem dL_blame_15 : decode cL_blame 15 = .ok (.iconst 0, 1) := by decide +kernel
theorem dL_blame_16 : decode cL_blame 16 = .ok (.ireturn, 1) := by decide +kernel
set_option maxRecDepth 20000 in
theorem ggL_foundWithout_X11_foundWithout : GoodIn wsL_foundWithout wsX11_foundWithout := goodIn_ca (goodIn_ca (goodIn_ca (goodIn_r _ [6, 7, 8, 9, 10, 11, 12, 13, 14, 15, 16, 17, 18, 5, 19, 20, 21, 22, 23, 24, 25, 26, 27, 28, 29, 30, 31, 32, 33, 34, 35, 36, 37, 38, 39, 40, 41, 42, 43, 44, 45, 46, 47, 48, 49, 50, 51, 52, 53, 54, 55, 56, 57, 58, 59, 60, 61, 62, 63, 64, 65, 66, 67, 68, 69, 70, 71, 72, 73, 74, 75, 76, 77, 78, 79, 80, 81, 82, 83, 84, 85, 86, 87, 88, 89, 90, 91, 92, 93, 94, 95, 96, 97, 98, 99, 100, 101, 102, 103, 104, 105, 106, 107, 108, 109, 110, 111, 112, 113, 114, 115, 116, 117, 118, 119, 120, 121, 122, 123, 124, 125, 126, 127, 128, 129, 130, 131, 132, 133, 134, 135, 136, 137, 138, 139, 140, 141, 142, 143, 144, 145, 146, 147, 148, 149, 150, 151, 152, 153, 154, 155, 156] (by decide +kernel) (by decide +kernel)) (goodIn_sub (fun _ h => List.mem_cons_of_mem _ (List.mem_append_left _ (List.mem_append_left _ (List.mem_append_right _ h)))) (by decide +kernel))) (goodIn_sub (fun _ h => List.mem_cons_of_mem _ (List.mem_append_left _ (List.mem_append_right _ h))) (by decide +kernel))) (goodIn_sub (fun _ h => List.mem_cons_of_mem _ (List.mem_append_right _ h)) (by decide +kernel))
set_option maxRecDepth 20000 in
theorem gL_foundWithout_X11_foundWithout : GoodIn wsL_foundWithout (wsV RL 77 RX11 yX11_foundWithout wsX11_foundWithout) := goodIn_app (goodIn_of _ (by decide +kernel)) ggL_foundWithout_X11_foundWithout
theorem dL_foundWithout_0 : decode cL_foundWithout 0 = .ok (.aload_n 2, 1) := by decide +kernel
theorem dL_foundWithout_1 : decode cL_foundWithout 1 = .ok (.iconst 0, 1) := by decide +kernel
theorem dL_foundWithout_2 : decode cL_foundWithout 2 = .ok (.aload_n 0, 1) := by decide +kernel
theorem dL_foundWithout_3 : decode cL_foundWithout 3 = .ok (.iload_n 1, 1) := by decide +kernel
theorem dL_foundWithout_4 : decode cL_foundWithout 4 = .ok (.invokevirtual 77, 3) := by decide +kernel
theorem dL_foundWithout_7 : decode cL_foundWithout 7 = .ok (.i2l, 1) := by decide +kernel
theorem dL_foundWithout_8 : decode cL_foundWithout 8 = .ok (.lastore, 1) := by decide +kernel
theorem dL_foundWithout_9 : decode cL_foundWithout 9 = .ok (.goto 6, 3) := by decide +kernel
theorem dL_foundWithout_12 : decode cL_foundWithout 12 = .ok (.astore_n 3, 1) := by decide +kernel
theorem dL_foundWithout_13 : decode cL_foundWithout 13 = .ok (.iconst 1, 1) := by decide +kernel
theorem dL_foundWithout_14 : decode cL_foundWithout 14 = .ok (.ireturn, 1) := by decide +kernel
theorem dL_foundWithout_15 : decode cL_foundWithout 15 = .ok (.iconst 0, 1) := by decide +kernel
theorem dL_foundWithout_16 : decode cL_foundWithout 16 = .ok (.ireturn, 1) := by decide +kernel
set_option maxRecDepth 20000 in
theorem ggL_whole_X11_whole : GoodIn wsL_whole wsX11_whole := goodIn_ca (goodIn_ca (goodIn_ca (goodIn_r _ [6, 7, 8, 9, 10, 5, 11, 12, 13, 14, 15, 16, 17, 18, 19, 20, 21, 22, 23, 24, 25, 26, 27, 28, 29, 30, 31, 32, 33, 34, 35, 36, 37, 38, 39, 40, 41, 42, 43, 44, 45, 46, 47, 48, 49, 50, 51, 52, 53, 54, 55, 56, 57, 58, 59, 60, 61, 62, 63, 64, 65, 66, 67, 68, 69, 70, 71, 72, 73, 74, 75, 76, 77, 78, 79, 80, 81, 82, 83, 84, 85, 86, 87, 88, 89, 90, 91, 92, 93, 94, 95, 96, 97, 98, 99, 100, 101, 102, 103, 104, 105, 106, 107, 108, 109, 110, 111, 112, 113, 114, 115, 116, 117, 118, 119, 120, 121, 122, 123, 124, 125, 126, 127, 128, 129, 130, 131, 132, 133, 134, 135, 136, 137, 138, 139, 140, 141, 142, 143, 144, 145, 146, 147, 148, 149, 150, 151, 152, 153, 154, 155, 156, 157, 158, 159, 160, 161, 162, 163, 164, 165, 166, 167, 168, 169, 170, 171, 172, 173] (by decide +kernel) (by decide +kernel)) (goodIn_sub (fun _ h => List.mem_cons_of_mem _ (List.mem_append_left _ (List.mem_append_left _ (List.mem_append_right _ h)))) (by decide +kernel))) (goodIn_sub (fun _ h => List.mem_cons_of_mem _ (List.mem_append_left _ (List.mem_append_right _ h))) (by decide +kernel))) (goodIn_sub (fun _ h => List.mem_cons_of_mem _ (List.mem_append_right _ h)) (by decide +kernel))
set_option maxRecDepth 20000 in
theorem gL_whole_X11_whole : GoodIn wsL_whole (wsV RL 80 RX11 yX11_whole wsX11_whole) := goodIn_app (goodIn_of _ (by decide +kernel)) ggL_whole_X11_whole
theorem dL_whole_0 : decode cL_whole 0 = .ok (.aload_n 2, 1) := by decide +kernel
theorem dL_whole_1 : decode cL_whole 1 = .ok (.iconst 0, 1) := by decide +kernel
theorem dL_whole_2 : decode cL_whole 2 = .ok (.aload_n 0, 1) := by decide +kernel
theorem dL_whole_3 : decode cL_whole 3 = .ok (.iload_n 1, 1) := by decide +kernel
theorem dL_whole_4 : decode cL_whole 4 = .ok (.invokevirtual 80, 3) := by decide +kernel
theorem dL_whole_7 : decode cL_whole 7 = .ok (.i2l, 1) := by decide +kernel
theorem dL_whole_8 : decode cL_whole 8 = .ok (.lastore, 1) := by decide +kernel
theorem dL_whole_9 : decode cL_whole 9 = .ok (.goto 6, 3) := by decide +kernel
theorem dL_whole_12 : decode cL_whole 12 = .ok (.astore_n 3, 1) := by decide +kernel
theorem dL_whole_13 : decode cL_whole 13 = .ok (.iconst 1, 1) := by decide +kernel
theorem dL_whole_14 : decode cL_whole 14 = .ok (.ireturn, 1) := by decide +kernel
theorem dL_whole_15 : decode cL_whole 15 = .ok (.iconst 0, 1) := by decide +kernel
theorem dL_whole_16 : decode cL_whole 16 = .ok (.ireturn, 1) := by decide +kernel
set_option maxRecDepth 20000 in
theorem ggL_part_X11_part : GoodIn wsL_part wsX11_part := goodIn_ca (goodIn_ca (goodIn_ca (goodIn_r _ [7, 8, 9, 10, 11, 6, 12, 13, 14, 15, 16, 17, 18, 19, 20, 21, 22, 23, 24, 25, 26, 27, 28, 29, 30, 31, 32, 33, 34, 35, 36, 37, 38, 39, 40, 41, 42, 43, 44, 45, 46, 47, 48, 49, 50, 51, 52, 53, 54, 55, 56, 57, 58, 59, 60, 61, 62, 63, 64, 65, 66, 67, 68, 69] (by decide +kernel) (by decide +kernel)) (goodIn_sub (fun _ h => List.mem_cons_of_mem _ (List.mem_append_left _ (List.mem_append_left _ (List.mem_append_right _ h)))) (by decide +kernel))) (goodIn_sub (fun _ h => List.mem_cons_of_mem _ (List.mem_append_left _ (List.mem_append_right _ h))) (by decide +kernel))) (goodIn_sub (fun _ h => List.mem_cons_of_mem _ (List.mem_append_right _ h)) (by decide +kernel))
set_option maxRecDepth 20000 in
theorem gL_part_X11_part : GoodIn wsL_part (wsV RL 83 RX11 yX11_part wsX11_part) := goodIn_app (goodIn_of _ (by decide +kernel)) ggL_part_X11_part
theorem dL_part_0 : decode cL_part 0 = .ok (.aload 4, 2) := by decide +kernel
theorem dL_part_2 : decode cL_part 2 = .ok (.iconst 0, 1) := by decide +kernel
theorem dL_part_3 : decode cL_part 3 = .ok (.aload_n 0, 1) := by decide +kernel
theorem dL_part_4 : decode cL_part 4 = .ok (.iload_n 1, 1) := by decide +kernel
theorem dL_part_5 : decode cL_part 5 = .ok (.iload_n 2, 1) := by decide +kernel
theorem dL_part_6 : decode cL_part 6 = .ok (.iload_n 3, 1) := by decide +kernel
theorem dL_part_7 : decode cL_part 7 = .ok (.invokevirtual 83, 3) := by decide +kernel
theorem dL_part_10 : decode cL_part 10 = .ok (.i2l, 1) := by decide +kernel
theorem dL_part_11 : decode cL_part 11 = .ok (.lastore, 1) := by decide +kernel
theorem dL_part_12 : decode cL_part 12 = .ok (.goto 11, 3) := by decide +kernel
theorem dL_part_15 : decode cL_part 15 = .ok (.astore 5, 2) := by decide +kernel
theorem dL_part_17 : decode cL_part 17 = .ok (.iconst 1, 1) := by decide +kernel
theorem dL_part_18 : decode cL_part 18 = .ok (.ireturn, 1) := by decide +kernel
theorem dL_part_19 : decode cL_part 19 = .ok (.astore 5, 2) := by decide +kernel
theorem dL_part_21 : decode cL_part 21 = .ok (.iconst 2, 1) := by decide +kernel
theorem dL_part_22 : decode cL_part 22 = .ok (.ireturn, 1) := by decide +kernel
theorem dL_part_23 : decode cL_part 23 = .ok (.iconst 0, 1) := by decide +kernel
theorem dL_part_24 : decode cL_part 24 = .ok (.ireturn, 1) := by decide +kernel
set_option maxRecDepth 20000 in
theorem ggL_type_X11_type : GoodIn wsL_type wsX11_type := goodIn_ca (goodIn_ca (goodIn_ca (goodIn_r _ [7, 8, 9, 10, 6, 11, 12, 13, 14, 15, 16, 17, 18, 19, 20, 21, 22, 23, 24, 25, 26, 27, 28, 29, 30, 31, 32, 33, 34, 35, 36, 37, 38, 39, 40, 41, 42, 43, 44, 45] (by decide +kernel) (by decide +kernel)) (goodIn_sub (fun _ h => List.mem_cons_of_mem _ (List.mem_append_left _ (List.mem_append_left _ (List.mem_append_right _ h)))) (by decide +kernel))) (goodIn_sub (fun _ h => List.mem_cons_of_mem _ (List.mem_append_left _ (List.mem_append_right _ h))) (by decide +kernel))) (goodIn_sub (fun _ h => List.mem_cons_of_mem _ (List.mem_append_right _ h)) (by decide +kernel))
set_option maxRecDepth 20000 in
theorem gL_type_X11_type : GoodIn wsL_type (wsV RL 86 RX11 yX11_type wsX11_type) := goodIn_app (goodIn_of _ (by decide +kernel)) ggL_type_X11_type
theorem dL_type_0 : decode cL_type 0 = .ok (.aload_n 2, 1) := by decide +kernel
theorem dL_type_1 : decode cL_type 1 = .ok (.iconst 0, 1) := by decide +kernel
theorem dL_type_2 : decode cL_type 2 = .ok (.aload_n 0, 1) := by decide +kernel
theorem dL_type_3 : decode cL_type 3 = .ok (.iload_n 1, 1) := by decide +kernel
theorem dL_type_4 : decode cL_type 4 = .ok (.invokevirtual 86, 3) := by decide +kernel
theorem dL_type_7 : decode cL_type 7 = .ok (.i2l, 1) := by decide +kernel
theorem dL_type_8 : decode cL_type 8 = .ok (.lastore, 1) := by decide +kernel
theorem dL_type_9 : decode cL_type 9 = .ok (.goto 9, 3) := by decide +kernel
theorem dL_type_12 : decode cL_type 12 = .ok (.astore_n 3, 1) := by decide +kernel
theorem dL_type_13 : decode cL_type 13 = .ok (.iconst 1, 1) := by decide +kernel
theorem dL_type_14 : decode cL_type 14 = .ok (.ireturn, 1) := by decide +kernel
theorem dL_type_15 : decode cL_type 15 = .ok (.astore_n 3, 1) := by decide +kernel
theorem dL_type_16 : decode cL_type 16 = .ok (.iconst 2, 1) := by decide +kernel
theorem dL_type_17 : decode cL_type 17 = .ok (.ireturn, 1) := by decide +kernel
theorem dL_type_18 : decode cL_type 18 = .ok (.iconst 0, 1) := by decide +kernel
theorem dL_type_19 : decode cL_type 19 = .ok (.ireturn, 1) := by decide +kernel
set_option maxRecDepth 20000 in
theorem ggL_undo_X11_undo : GoodIn wsL_undo wsX11_undo := goodIn_ca (goodIn_ca (goodIn_ca (goodIn_r _ [6, 7, 8, 9, 10, 11, 12, 5, 13, 14, 15, 16, 17, 18, 19, 20, 21, 22, 23, 24, 25, 26, 27, 28, 29, 30, 31, 32, 33, 34, 35, 36, 37, 38, 39, 40, 41, 42, 43, 44, 45, 46, 47, 48, 49, 50, 51, 52, 53, 54, 55, 56, 57, 58, 59, 60, 61, 62, 63, 64, 65, 66, 67, 68, 69, 70, 71, 72, 73, 74, 75, 76, 77, 78, 79, 80, 81, 82, 83, 84, 85, 86, 87, 88, 89, 90, 91, 92, 93] (by decide +kernel) (by decide +kernel)) (goodIn_sub (fun _ h => List.mem_cons_of_mem _ (List.mem_append_left _ (List.mem_append_left _ (List.mem_append_right _ h)))) (by decide +kernel))) (goodIn_sub (fun _ h => List.mem_cons_of_mem _ (List.mem_append_left _ (List.mem_append_right _ h))) (by decide +kernel))) (goodIn_sub (fun _ h => List.mem_cons_of_mem _ (List.mem_append_right _ h)) (by decide +kernel))
set_option maxRecDepth 20000 in
theorem gL_undo_X11_undo : GoodIn wsL_undo (wsV RL 89 RX11 yX11_undo wsX11_undo) := goodIn_app (goodIn_of _ (by decide +kernel)) ggL_undo_X11_undo
theorem dL_undo_0 : decode cL_undo 0 = .ok (.aload_n 1, 1) := by decide +kernel
theorem dL_undo_1 : decode cL_undo 1 = .ok (.iconst 0, 1) := by decide +kernel
theorem dL_undo_2 : decode cL_undo 2 = .ok (.aload_n 0, 1) := by decide +kernel
theorem dL_undo_3 : decode cL_undo 3 = .ok (.invokevirtual 89, 3) := by decide +kernel
theorem dL_undo_6 : decode cL_undo 6 = .ok (.i2l, 1) := by decide +kernel
theorem dL_undo_7 : decode cL_undo 7 = .ok (.lastore, 1) := by decide +kernel
theorem dL_undo_8 : decode cL_undo 8 = .ok (.goto 6, 3) := by decide +kernel
theorem dL_undo_11 : decode cL_undo 11 = .ok (.astore_n 2, 1) := by decide +kernel
theorem dL_undo_12 : decode cL_undo 12 = .ok (.iconst 1, 1) := by decide +kernel
theorem dL_undo_13 : decode cL_undo 13 = .ok (.ireturn, 1) := by decide +kernel
theorem dL_undo_14 : decode cL_undo 14 = .ok (.iconst 0, 1) := by decide +kernel
theorem dL_undo_15 : decode cL_undo 15 = .ok (.ireturn, 1) := by decide +kernel
set_option maxRecDepth 20000 in
theorem ggL_law_X11_init : GoodIn wsL_law wsX11_init := goodIn_r _ [9, 10, 11, 12, 13, 14, 15, 16, 17, 18, 19, 20, 21, 22, 23, 24, 25, 26, 27, 28, 29, 30, 31, 32, 33, 34, 35, 36, 37, 38, 39, 40, 41, 42, 43, 44, 45, 46, 47, 48, 49, 50, 51, 52, 53, 54, 55, 56, 57, 58, 59, 60, 61, 62, 63, 64, 65, 66, 67, 68, 69, 70, 71, 72, 73, 74, 75, 76, 77, 78, 79, 80, 81, 82, 83, 84, 85, 86, 87, 88, 89, 90, 91, 92, 93, 94, 95, 96, 97, 98, 99, 100, 101, 102, 103, 104, 105, 106, 107, 108, 109, 110, 111, 112, 113, 114, 115, 116, 117, 118, 119, 120, 121, 122, 123, 124, 125, 126, 127, 128, 129, 130, 131, 132, 133, 1269, 1270, 1271, 1272, 1273, 1274, 1275, 1276, 1238, 1239, 1240, 1241, 1242, 1243, 1244, 1245, 1277, 1278, 1279, 1280, 1281, 1282, 1283, 1284, 1285, 1286, 1287, 1288, 1289, 1290, 1291, 1292, 1293, 1294, 1295, 1296, 1297, 1298, 1299, 1300, 1301, 1302, 1303, 1304] (by decide +kernel) (by decide +kernel)
set_option maxRecDepth 20000 in
theorem gL_law_X11_init : GoodIn wsL_law (wsX11_init) := ggL_law_X11_init
set_option maxRecDepth 20000 in
theorem ggL_law_X12_init : GoodIn wsL_law wsX12_init := goodIn_r _ [136, 137, 11, 12, 68, 138, 139, 140, 141, 142, 143, 144, 145, 146, 147, 148, 149, 150, 1246, 1247, 1248, 1249, 1250, 1251, 1252, 1253, 1254, 1255, 1256, 1257, 1258, 1259, 1260, 1261, 1262, 1263, 1264, 1265, 1266, 1267, 1268] (by decide +kernel) (by decide +kernel)
set_option maxRecDepth 20000 in
theorem gL_law_X12_init : GoodIn wsL_law (wsX12_init) := ggL_law_X12_init
set_option maxRecDepth 20000 in
theorem ggL_law_L_begin : GoodIn wsL_law wsL_begin := goodIn_ca (goodIn_ca (goodIn_ca (goodIn_r _ [154, 155, 156, 157, 158, 2, 159, 16, 160, 161, 162, 15, 163, 164, 165, 166, 167, 168, 169, 170, 171, 172, 173, 174, 175, 176, 177, 178, 32, 28, 179, 180, 181, 31, 182, 113, 114, 115, 183, 184, 66, 185, 186, 187, 188, 189, 46, 47, 48, 49, 53, 54, 55, 56, 190, 191, 192, 52, 193, 69, 194, 195, 196, 197, 198, 61, 199, 200, 201, 27, 202, 106, 203, 204, 205, 206, 207, 1238, 1239, 1240, 1241, 1242, 1243, 1244, 1245, 1288, 1289, 1290, 1269, 1270, 1271, 1272, 1273, 1274, 1275, 1276, 1301, 1302, 1303, 1304, 1279, 1280, 1281, 1282, 1283, 1284, 1285, 1286, 1287] (by decide +kernel) (by decide +kernel)) (goodIn_sub (fun _ h => List.mem_append_left _ (List.mem_append_left _ (List.mem_append_right _ h))) (by decide +kernel))) (goodIn_sub (fun _ h => List.mem_append_left _ (List.mem_append_right _ h)) (by decide +kernel))) (goodIn_sub (fun _ h => List.mem_append_right _ h) (by decide +kernel))
set_option maxRecDepth 20000 in
theorem gL_law_L_begin : GoodIn wsL_law (va_wsS RL 97 yL_begin wsL_begin) := goodIn_app (goodIn_of _ (by decide +kernel)) ggL_law_L_begin
set_option maxRecDepth 20000 in
theorem ggL_law_X12_begin : GoodIn wsL_law wsX12_begin := goodIn_r _ [211, 212, 213, 214, 5, 215, 140, 138, 216, 217, 218, 219, 220, 221, 222, 223, 224, 225, 226, 227, 228, 229, 230, 231, 232, 233, 234, 235, 236, 237, 139, 238, 239, 240, 241, 1246, 1247, 1248, 1249, 1250, 1251, 1252, 1253, 1254, 1255, 1256, 1257, 1258, 1259, 1260, 1261, 1262, 1263, 1264, 1265, 1266, 1267, 1268] (by decide +kernel) (by decide +kernel)
set_option maxRecDepth 20000 in
theorem gL_law_X12_begin : GoodIn wsL_law (wsV RL 102 RX12 yX12_begin wsX12_begin) := goodIn_app (goodIn_of _ (by decide +kernel)) ggL_law_X12_begin
set_option maxRecDepth 20000 in
theorem ggL_law_X12_thrown : GoodIn wsL_law wsX12_thrown := goodIn_r _ [245, 232, 1246, 1247, 1248, 1249, 1250, 1251, 1252, 1253, 1254, 1255, 1256, 1257, 1258, 1259, 1260, 1261, 1262, 1263, 1264, 1265, 1266, 1267, 1268] (by decide +kernel) (by decide +kernel)
set_option maxRecDepth 20000 in
theorem gL_law_X12_thrown : GoodIn wsL_law (wsV RL 103 RX12 yX12_thrown wsX12_thrown) := goodIn_app (goodIn_of _ (by decide +kernel)) ggL_law_X12_thrown
set_option maxRecDepth 20000 in
theorem ggL_law_L_addMicrophone : GoodIn wsL_law wsL_addMicrophone := goodIn_ca (goodIn_ca (goodIn_ca (goodIn_r _ [248, 155, 249, 250, 251, 252, 2, 253, 16, 254, 255, 256, 15, 257, 53, 164, 165, 258, 76, 77, 52, 78, 61, 62, 166, 167, 168, 169, 170, 171, 172, 173, 174, 175, 176, 177, 178, 32, 28, 179, 180, 181, 31, 182, 113, 114, 115, 183, 184, 66, 185, 186, 187, 188, 189, 46, 47, 48, 49, 54, 55, 56, 190, 191, 192, 193, 69, 194, 195, 196, 197, 198, 199, 200, 201, 27, 202, 106, 259, 260, 261, 262, 70, 71, 72, 73, 74, 63, 75, 79, 80, 81, 82, 83, 1238, 1239, 1240, 1241, 1242, 1243, 1244, 1245, 1269, 1270, 1271, 1272, 1273, 1274, 1275, 1276, 1301, 1302, 1303, 1304, 1288, 1289, 1290, 1279, 1280, 1281, 1282, 1283, 1284, 1285, 1286, 1287] (by decide +kernel) (by decide +kernel)) (goodIn_sub (fun _ h => List.mem_append_left _ (List.mem_append_left _ (List.mem_append_right _ h))) (by decide +kernel))) (goodIn_sub (fun _ h => List.mem_append_left _ (List.mem_append_right _ h)) (by decide +kernel))) (goodIn_sub (fun _ h => List.mem_append_right _ h) (by decide +kernel))
set_option maxRecDepth 20000 in
theorem gL_law_L_addMicrophone : GoodIn wsL_law (va_wsS RL 106 yL_addMicrophone wsL_addMicrophone) := goodIn_app (goodIn_of _ (by decide +kernel)) ggL_law_L_addMicrophone
set_option maxRecDepth 20000 in
theorem ggL_law_X12_addMicrophone : GoodIn wsL_law wsX12_addMicrophone := goodIn_r _ [266, 212, 213, 214, 5, 215, 140, 138, 267, 268, 269, 270, 220, 221, 222, 223, 271, 272, 273, 274, 224, 225, 226, 227, 228, 229, 230, 231, 232, 233, 234, 235, 236, 237, 139, 238, 239, 240, 241, 1246, 1247, 1248, 1249, 1250, 1251, 1252, 1253, 1254, 1255, 1256, 1257, 1258, 1259, 1260, 1261, 1262, 1263, 1264, 1265, 1266, 1267, 1268] (by decide +kernel) (by decide +kernel)
set_option maxRecDepth 20000 in
theorem gL_law_X12_addMicrophone : GoodIn wsL_law (wsV RL 108 RX12 yX12_addMicrophone wsX12_addMicrophone) := goodIn_app (goodIn_of _ (by decide +kernel)) ggL_law_X12_addMicrophone
set_option maxRecDepth 20000 in
theorem ggL_law_L_setClock : GoodIn wsL_law wsL_setClock := goodIn_ca (goodIn_ca (goodIn_ca (goodIn_r _ [277, 278, 155, 279, 280, 281, 2, 282, 16, 283, 284, 285, 286, 52, 287, 61, 288, 289, 290, 166, 167, 168, 169, 170, 171, 172, 173, 174, 291, 164, 165, 292, 293, 294, 175, 176, 177, 178, 32, 28, 179, 180, 181, 31, 182, 113, 114, 115, 183, 184, 66, 185, 186, 187, 188, 15, 189, 46, 47, 48, 49, 53, 54, 55, 56, 190, 191, 192, 193, 69, 194, 195, 196, 197, 198, 199, 200, 201, 27, 202, 106, 295, 296, 297, 298, 63, 74, 299, 80, 81, 82, 1238, 1239, 1240, 1241, 1242, 1243, 1244, 1245, 1269, 1270, 1271, 1272, 1273, 1274, 1275, 1276, 1301, 1302, 1303, 1304, 1288, 1289, 1290, 1279, 1280, 1281, 1282, 1283, 1284, 1285, 1286, 1287] (by decide +kernel) (by decide +kernel)) (goodIn_sub (fun _ h => List.mem_append_left _ (List.mem_append_left _ (List.mem_append_right _ h))) (by decide +kernel))) (goodIn_sub (fun _ h => List.mem_append_left _ (List.mem_append_right _ h)) (by decide +kernel))) (goodIn_sub (fun _ h => List.mem_append_right _ h) (by decide +kernel))
set_option maxRecDepth 20000 in
theorem gL_law_L_setClock : GoodIn wsL_law (va_wsS RL 109 yL_setClock wsL_setClock) := goodIn_app (goodIn_of _ (by decide +kernel)) ggL_law_L_setClock
set_option maxRecDepth 20000 in
theorem ggL_law_X12_setClock : GoodIn wsL_law wsX12_setClock := goodIn_r _ [303, 304, 305, 306, 5, 307, 138, 228, 229, 230, 231, 232, 221, 222, 223, 212, 213, 214, 215, 140, 308, 309, 310, 311, 271, 272, 273, 274, 233, 234, 235, 236, 237, 139, 238, 239, 240, 241, 1246, 1247, 1248, 1249, 1250, 1251, 1252, 1253, 1254, 1255, 1256, 1257, 1258, 1259, 1260, 1261, 1262, 1263, 1264, 1265, 1266, 1267, 1268] (by decide +kernel) (by decide +kernel)
set_option maxRecDepth 20000 in
theorem gL_law_X12_setClock : GoodIn wsL_law (wsV RL 111 RX12 yX12_setClock wsX12_setClock) := goodIn_app (goodIn_of _ (by decide +kernel)) ggL_law_X12_setClock
set_option maxRecDepth 20000 in
theorem ggL_law_L_addWall : GoodIn wsL_law wsL_addWall := goodIn_ca (goodIn_ca (goodIn_ca (goodIn_r _ [314, 155, 249, 315, 316, 317, 2, 318, 16, 319, 320, 321, 15, 322, 54, 164, 165, 258, 76, 77, 52, 78, 61, 62, 166, 167, 168, 169, 170, 171, 172, 173, 174, 175, 176, 177, 178, 32, 28, 179, 180, 181, 31, 182, 113, 114, 115, 183, 184, 66, 185, 186, 187, 188, 189, 46, 47, 48, 49, 53, 55, 56, 190, 191, 192, 193, 69, 194, 195, 196, 197, 198, 199, 200, 201, 27, 202, 106, 323, 324, 325, 326, 70, 71, 72, 73, 74, 63, 75, 79, 80, 81, 82, 83, 1238, 1239, 1240, 1241, 1242, 1243, 1244, 1245, 1269, 1270, 1271, 1272, 1273, 1274, 1275, 1276, 1301, 1302, 1303, 1304, 1288, 1289, 1290, 1279, 1280, 1281, 1282, 1283, 1284, 1285, 1286, 1287] (by decide +kernel) (by decide +kernel)) (goodIn_sub (fun _ h => List.mem_append_left _ (List.mem_append_left _ (List.mem_append_right _ h))) (by decide +kernel))) (goodIn_sub (fun _ h => List.mem_append_left _ (List.mem_append_right _ h)) (by decide +kernel))) (goodIn_sub (fun _ h => List.mem_append_right _ h) (by decide +kernel))
set_option maxRecDepth 20000 in
theorem gL_law_L_addWall : GoodIn wsL_law (va_wsS RL 112 yL_addWall wsL_addWall) := goodIn_app (goodIn_of _ (by decide +kernel)) ggL_law_L_addWall
set_option maxRecDepth 20000 in
theorem ggL_law_X12_addWall : GoodIn wsL_law wsX12_addWall := goodIn_r _ [330, 212, 213, 214, 5, 215, 140, 138, 331, 332, 333, 334, 220, 221, 222, 223, 335, 336, 337, 224, 225, 226, 227, 228, 229, 230, 231, 232, 233, 234, 235, 236, 237, 139, 238, 239, 240, 241, 1246, 1247, 1248, 1249, 1250, 1251, 1252, 1253, 1254, 1255, 1256, 1257, 1258, 1259, 1260, 1261, 1262, 1263, 1264, 1265, 1266, 1267, 1268] (by decide +kernel) (by decide +kernel)
set_option maxRecDepth 20000 in
theorem gL_law_X12_addWall : GoodIn wsL_law (wsV RL 115 RX12 yX12_addWall wsX12_addWall) := goodIn_app (goodIn_of _ (by decide +kernel)) ggL_law_X12_addWall
set_option maxRecDepth 20000 in
theorem ggL_law_L_addScreen : GoodIn wsL_law wsL_addScreen := goodIn_ca (goodIn_ca (goodIn_ca (goodIn_r _ [340, 155, 249, 341, 342, 343, 2, 344, 16, 345, 346, 347, 15, 348, 55, 164, 165, 258, 76, 77, 52, 78, 61, 62, 166, 167, 168, 169, 170, 171, 172, 173, 174, 175, 176, 177, 178, 32, 28, 179, 180, 181, 31, 182, 113, 114, 115, 183, 184, 66, 185, 186, 187, 188, 189, 46, 47, 48, 49, 53, 54, 56, 190, 191, 192, 193, 69, 194, 195, 196, 197, 198, 199, 200, 201, 27, 202, 106, 349, 350, 351, 352, 70, 71, 72, 73, 74, 63, 75, 79, 80, 81, 82, 83, 1238, 1239, 1240, 1241, 1242, 1243, 1244, 1245, 1269, 1270, 1271, 1272, 1273, 1274, 1275, 1276, 1301, 1302, 1303, 1304, 1288, 1289, 1290, 1279, 1280, 1281, 1282, 1283, 1284, 1285, 1286, 1287] (by decide +kernel) (by decide +kernel)) (goodIn_sub (fun _ h => List.mem_append_left _ (List.mem_append_left _ (List.mem_append_right _ h))) (by decide +kernel))) (goodIn_sub (fun _ h => List.mem_append_left _ (List.mem_append_right _ h)) (by decide +kernel))) (goodIn_sub (fun _ h => List.mem_append_right _ h) (by decide +kernel))
set_option maxRecDepth 20000 in
theorem gL_law_L_addScreen : GoodIn wsL_law (va_wsS RL 116 yL_addScreen wsL_addScreen) := goodIn_app (goodIn_of _ (by decide +kernel)) ggL_law_L_addScreen
set_option maxRecDepth 20000 in
theorem ggL_law_X12_addScreen : GoodIn wsL_law wsX12_addScreen := goodIn_r _ [356, 212, 213, 214, 5, 215, 140, 138, 357, 358, 359, 360, 220, 221, 222, 223, 335, 336, 337, 224, 225, 226, 227, 228, 229, 230, 231, 232, 233, 234, 235, 236, 237, 139, 238, 239, 240, 241, 1246, 1247, 1248, 1249, 1250, 1251, 1252, 1253, 1254, 1255, 1256, 1257, 1258, 1259, 1260, 1261, 1262, 1263, 1264, 1265, 1266, 1267, 1268] (by decide +kernel) (by decide +kernel)
set_option maxRecDepth 20000 in
theorem gL_law_X12_addScreen : GoodIn wsL_law (wsV RL 119 RX12 yX12_addScreen wsX12_addScreen) := goodIn_app (goodIn_of _ (by decide +kernel)) ggL_law_X12_addScreen
set_option maxRecDepth 20000 in
theorem ggL_law_L_remove : GoodIn wsL_law wsL_remove := goodIn_ca (goodIn_ca (goodIn_ca (goodIn_r _ [363, 155, 278, 364, 365, 366, 2, 367, 16, 368, 291, 164, 165, 292, 293, 294, 166, 167, 168, 169, 170, 171, 172, 173, 174, 369, 370, 371, 15, 372, 53, 54, 55, 56, 284, 285, 286, 52, 287, 61, 288, 289, 290, 175, 176, 177, 178, 32, 28, 179, 180, 181, 31, 182, 113, 114, 115, 183, 184, 66, 185, 186, 187, 188, 189, 46, 47, 48, 49, 190, 191, 192, 193, 69, 194, 195, 196, 197, 198, 199, 200, 201, 27, 202, 106, 373, 374, 375, 376, 63, 377, 1238, 1239, 1240, 1241, 1242, 1243, 1244, 1245, 1301, 1302, 1303, 1304, 1269, 1270, 1271, 1272, 1273, 1274, 1275, 1276, 1288, 1289, 1290, 1279, 1280, 1281, 1282, 1283, 1284, 1285, 1286, 1287] (by decide +kernel) (by decide +kernel)) (goodIn_sub (fun _ h => List.mem_append_left _ (List.mem_append_left _ (List.mem_append_right _ h))) (by decide +kernel))) (goodIn_sub (fun _ h => List.mem_append_left _ (List.mem_append_right _ h)) (by decide +kernel))) (goodIn_sub (fun _ h => List.mem_append_right _ h) (by decide +kernel))
set_option maxRecDepth 20000 in
theorem gL_law_L_remove : GoodIn wsL_law (va_wsS RL 120 yL_remove wsL_remove) := goodIn_app (goodIn_of _ (by decide +kernel)) ggL_law_L_remove
set_option maxRecDepth 20000 in
theorem ggL_law_X12_remove : GoodIn wsL_law wsX12_remove := goodIn_r _ [381, 138, 221, 222, 5, 223, 228, 229, 230, 231, 232, 212, 213, 214, 215, 140, 382, 383, 384, 385, 386, 387, 233, 234, 235, 236, 237, 139, 238, 239, 240, 241, 1246, 1247, 1248, 1249, 1250, 1251, 1252, 1253, 1254, 1255, 1256, 1257, 1258, 1259, 1260, 1261, 1262, 1263, 1264, 1265, 1266, 1267, 1268] (by decide +kernel) (by decide +kernel)
set_option maxRecDepth 20000 in
theorem gL_law_X12_remove : GoodIn wsL_law (wsV RL 122 RX12 yX12_remove wsX12_remove) := goodIn_app (goodIn_of _ (by decide +kernel)) ggL_law_X12_remove
set_option maxRecDepth 20000 in
theorem ggL_law_L_set : GoodIn wsL_law wsL_set := goodIn_ca (goodIn_ca (goodIn_ca (goodIn_r _ [390, 155, 391, 392, 393, 2, 394, 16, 395, 396, 397, 15, 398, 164, 165, 166, 167, 168, 169, 170, 171, 172, 173, 174, 175, 176, 177, 178, 32, 28, 179, 180, 181, 31, 182, 113, 114, 115, 183, 184, 66, 185, 186, 187, 188, 189, 46, 47, 48, 49, 53, 54, 55, 56, 190, 191, 192, 52, 193, 69, 194, 195, 196, 197, 198, 61, 199, 200, 201, 27, 202, 106, 399, 400, 401, 402, 403, 404, 405, 406, 407, 296, 297, 298, 63, 74, 83, 80, 81, 82, 1238, 1239, 1240, 1241, 1242, 1243, 1244, 1245, 1288, 1289, 1290, 1269, 1270, 1271, 1272, 1273, 1274, 1275, 1276, 1301, 1302, 1303, 1304, 1279, 1280, 1281, 1282, 1283, 1284, 1285, 1286, 1287] (by decide +kernel) (by decide +kernel)) (goodIn_sub (fun _ h => List.mem_append_left _ (List.mem_append_left _ (List.mem_append_right _ h))) (by decide +kernel))) (goodIn_sub (fun _ h => List.mem_append_left _ (List.mem_append_right _ h)) (by decide +kernel))) (goodIn_sub (fun _ h => List.mem_append_right _ h) (by decide +kernel))
set_option maxRecDepth 20000 in
theorem gL_law_L_set : GoodIn wsL_law (va_wsS RL 123 yL_set wsL_set) := goodIn_app (goodIn_of _ (by decide +kernel)) ggL_law_L_set
set_option maxRecDepth 20000 in
theorem ggL_law_X12_set : GoodIn wsL_law wsX12_set := goodIn_r _ [411, 212, 213, 214, 5, 215, 140, 138, 412, 413, 414, 415, 220, 416, 417, 418, 221, 222, 223, 224, 225, 226, 227, 228, 229, 230, 231, 232, 233, 234, 235, 236, 237, 139, 238, 239, 240, 241, 1246, 1247, 1248, 1249, 1250, 1251, 1252, 1253, 1254, 1255, 1256, 1257, 1258, 1259, 1260, 1261, 1262, 1263, 1264, 1265, 1266, 1267, 1268] (by decide +kernel) (by decide +kernel)
set_option maxRecDepth 20000 in
theorem gL_law_X12_set : GoodIn wsL_law (wsV RL 125 RX12 yX12_set wsX12_set) := goodIn_app (goodIn_of _ (by decide +kernel)) ggL_law_X12_set
set_option maxRecDepth 20000 in
theorem ggL_law_L_setS : GoodIn wsL_law wsL_setS := goodIn_ca (goodIn_ca (goodIn_ca (goodIn_r _ [421, 155, 422, 423, 424, 2, 425, 16, 426, 292, 293, 294, 166, 167, 168, 169, 170, 171, 172, 173, 174, 175, 176, 177, 178, 32, 28, 179, 180, 181, 31, 182, 113, 114, 115, 183, 184, 66, 185, 186, 187, 188, 15, 189, 46, 47, 48, 49, 53, 54, 55, 56, 190, 191, 192, 52, 193, 69, 194, 195, 196, 197, 198, 61, 199, 200, 201, 27, 202, 106, 1238, 1239, 1240, 1241, 1242, 1243, 1244, 1245, 1269, 1270, 1271, 1272, 1273, 1274, 1275, 1276, 1288, 1289, 1290, 1301, 1302, 1303, 1304, 1279, 1280, 1281, 1282, 1283, 1284, 1285, 1286, 1287] (by decide +kernel) (by decide +kernel)) (goodIn_sub (fun _ h => List.mem_append_left _ (List.mem_append_left _ (List.mem_append_right _ h))) (by decide +kernel))) (goodIn_sub (fun _ h => List.mem_append_left _ (List.mem_append_right _ h)) (by decide +kernel))) (goodIn_sub (fun _ h => List.mem_append_right _ h) (by decide +kernel))
set_option maxRecDepth 20000 in
theorem gL_law_L_setS : GoodIn wsL_law (va_wsS RL 126 yL_setS wsL_setS) := goodIn_app (goodIn_of _ (by decide +kernel)) ggL_law_L_setS
set_option maxRecDepth 20000 in
theorem ggL_law_X12_setS : GoodIn wsL_law wsX12_setS := goodIn_r _ [430, 138, 228, 229, 230, 5, 231, 232, 212, 213, 214, 215, 140, 233, 234, 235, 236, 237, 139, 238, 239, 240, 241, 1246, 1247, 1248, 1249, 1250, 1251, 1252, 1253, 1254, 1255, 1256, 1257, 1258, 1259, 1260, 1261, 1262, 1263, 1264, 1265, 1266, 1267, 1268] (by decide +kernel) (by decide +kernel)
set_option maxRecDepth 20000 in
theorem gL_law_X12_setS : GoodIn wsL_law (wsV RL 129 RX12 yX12_setS wsX12_setS) := goodIn_app (goodIn_of _ (by decide +kernel)) ggL_law_X12_setS
set_option maxRecDepth 20000 in
theorem ggL_law_L_click : GoodIn wsL_law wsL_click := goodIn_ca (goodIn_ca (goodIn_ca (goodIn_r _ [433, 155, 249, 434, 435, 436, 2, 437, 16, 24, 438, 439, 440, 15, 441, 442, 53, 207, 443, 444, 291, 164, 165, 166, 167, 168, 169, 170, 171, 172, 173, 174, 175, 176, 177, 178, 32, 28, 179, 180, 181, 31, 182, 113, 114, 115, 183, 184, 66, 185, 186, 187, 188, 189, 46, 47, 48, 49, 54, 55, 56, 190, 191, 192, 52, 193, 69, 194, 195, 196, 197, 198, 61, 199, 200, 201, 27, 202, 106, 445, 446, 447, 23, 448, 449, 450, 94, 451, 452, 453, 454, 19, 455, 88, 456, 457, 458, 459, 460, 461, 462, 407, 296, 297, 298, 63, 74, 463, 464, 465, 466, 467, 468, 65, 67, 469, 470, 471, 472, 473, 474, 475, 476, 477, 478, 479, 480, 481, 482, 483, 484, 485, 486, 487, 488, 489, 490, 491, 492, 493, 494, 495, 285, 286, 287, 496, 71, 72, 73, 75, 76, 77, 78, 62, 79, 80, 81, 82, 497, 498, 499, 500, 501, 502, 503, 504, 505, 506, 507, 508, 509, 510, 404, 405, 406, 511, 512, 513, 514, 515, 516, 517, 518, 519, 520, 521, 522, 523, 524, 525, 526, 527, 528, 529, 530, 531, 532, 533, 534, 535, 536, 537, 538, 539, 540, 541, 542, 543, 544, 545, 546, 547, 1238, 1239, 1240, 1241, 1242, 1243, 1244, 1245, 1269, 1270, 1271, 1272, 1273, 1274, 1275, 1276, 1301, 1302, 1303, 1304, 1288, 1289, 1290, 1279, 1280, 1281, 1282, 1283, 1284, 1285, 1286, 1287, 1278, 1277] (by decide +kernel) (by decide +kernel)) (goodIn_sub (fun _ h => List.mem_append_left _ (List.mem_append_left _ (List.mem_append_right _ h))) (by decide +kernel))) (goodIn_sub (fun _ h => List.mem_append_left _ (List.mem_append_right _ h)) (by decide +kernel))) (goodIn_sub (fun _ h => List.mem_append_right _ h) (by decide +kernel))
set_option maxRecDepth 20000 in
theorem gL_law_L_click : GoodIn wsL_law (va_wsS RL 130 yL_click wsL_click) := goodIn_app (goodIn_of _ (by decide +kernel)) ggL_law_L_click
set_option maxRecDepth 20000 in
theorem ggL_law_X12_click : GoodIn wsL_law wsX12_click := goodIn_r _ [551, 212, 213, 214, 5, 215, 140, 138, 552, 553, 554, 555, 220, 556, 557, 558, 559, 560, 335, 336, 337, 221, 222, 223, 561, 562, 563, 564, 565, 566, 143, 144, 142, 145, 146, 567, 568, 569, 570, 571, 572, 573, 574, 308, 309, 310, 311, 575, 576, 577, 578, 579, 580, 581, 582, 583, 584, 585, 586, 587, 588, 589, 590, 591, 592, 593, 594, 595, 596, 597, 598, 599, 600, 601, 602, 603, 604, 605, 606, 607, 608, 609, 610, 611, 271, 272, 273, 274, 612, 613, 614, 615, 224, 225, 226, 227, 228, 229, 230, 231, 232, 233, 234, 235, 236, 237, 139, 238, 239, 240, 241, 1246, 1247, 1248, 1249, 1250, 1251, 1252, 1253, 1254, 1255, 1256, 1257, 1258, 1259, 1260, 1261, 1262, 1263, 1264, 1265, 1266, 1267, 1268] (by decide +kernel) (by decide +kernel)
set_option maxRecDepth 20000 in
theorem gL_law_X12_click : GoodIn wsL_law (wsV RL 132 RX12 yX12_click wsX12_click) := goodIn_app (goodIn_of _ (by decide +kernel)) ggL_law_X12_click
set_option maxRecDepth 20000 in
theorem ggL_law_L_calibrate : GoodIn wsL_law wsL_calibrate := goodIn_ca (goodIn_ca (goodIn_ca (goodIn_r _ [618, 155, 249, 619, 620, 621, 2, 622, 16, 24, 438, 439, 440, 15, 441, 442, 53, 207, 443, 444, 291, 164, 165, 166, 167, 168, 169, 170, 171, 172, 173, 174, 175, 176, 177, 178, 32, 28, 179, 180, 181, 31, 182, 113, 114, 115, 183, 184, 66, 185, 186, 187, 188, 189, 46, 47, 48, 49, 54, 55, 56, 190, 191, 192, 52, 193, 69, 194, 195, 196, 197, 198, 61, 199, 200, 201, 27, 202, 106, 623, 624, 625, 23, 626, 449, 450, 94, 451, 533, 296, 297, 298, 63, 74, 542, 80, 81, 82, 452, 453, 454, 19, 455, 88, 456, 457, 458, 459, 460, 461, 462, 407, 463, 464, 465, 466, 467, 468, 65, 67, 469, 470, 471, 472, 473, 474, 475, 476, 477, 478, 479, 480, 481, 482, 483, 484, 485, 486, 487, 488, 489, 490, 491, 492, 493, 494, 495, 285, 286, 287, 496, 71, 72, 73, 75, 76, 77, 78, 62, 79, 497, 498, 499, 500, 501, 502, 503, 504, 505, 506, 507, 508, 509, 510, 404, 405, 406, 511, 512, 513, 514, 515, 516, 517, 518, 519, 520, 521, 522, 523, 524, 525, 526, 527, 528, 529, 530, 531, 532, 534, 535, 536, 537, 538, 539, 540, 541, 543, 544, 545, 546, 547, 627, 628, 1238, 1239, 1240, 1241, 1242, 1243, 1244, 1245, 1269, 1270, 1271, 1272, 1273, 1274, 1275, 1276, 1301, 1302, 1303, 1304, 1288, 1289, 1290, 1279, 1280, 1281, 1282, 1283, 1284, 1285, 1286, 1287, 1278, 1277] (by decide +kernel) (by decide +kernel)) (goodIn_sub (fun _ h => List.mem_append_left _ (List.mem_append_left _ (List.mem_append_right _ h))) (by decide +kernel))) (goodIn_sub (fun _ h => List.mem_append_left _ (List.mem_append_right _ h)) (by decide +kernel))) (goodIn_sub (fun _ h => List.mem_append_right _ h) (by decide +kernel))
set_option maxRecDepth 20000 in
theorem gL_law_L_calibrate : GoodIn wsL_law (va_wsS RL 133 yL_calibrate wsL_calibrate) := goodIn_app (goodIn_of _ (by decide +kernel)) ggL_law_L_calibrate
set_option maxRecDepth 20000 in
theorem ggL_law_X12_calibrate : GoodIn wsL_law wsX12_calibrate := goodIn_r _ [632, 212, 213, 214, 5, 215, 140, 138, 633, 634, 635, 636, 220, 556, 557, 558, 559, 560, 335, 336, 337, 221, 222, 223, 308, 309, 310, 311, 271, 272, 273, 274, 561, 562, 563, 564, 565, 566, 143, 144, 142, 145, 146, 567, 568, 569, 570, 571, 572, 573, 574, 575, 576, 577, 578, 579, 580, 581, 582, 583, 584, 585, 586, 587, 588, 589, 590, 591, 592, 593, 594, 595, 596, 597, 598, 599, 600, 601, 602, 603, 604, 605, 606, 607, 608, 609, 610, 611, 224, 225, 226, 227, 228, 229, 230, 231, 232, 233, 234, 235, 236, 237, 139, 238, 239, 240, 241, 1246, 1247, 1248, 1249, 1250, 1251, 1252, 1253, 1254, 1255, 1256, 1257, 1258, 1259, 1260, 1261, 1262, 1263, 1264, 1265, 1266, 1267, 1268] (by decide +kernel) (by decide +kernel)
set_option maxRecDepth 20000 in
theorem gL_law_X12_calibrate : GoodIn wsL_law (wsV RL 135 RX12 yX12_calibrate wsX12_calibrate) := goodIn_app (goodIn_of _ (by decide +kernel)) ggL_law_X12_calibrate
set_option maxRecDepth 20000 in
theorem ggL_law_L_note : GoodIn wsL_law wsL_note := goodIn_ca (goodIn_ca (goodIn_ca (goodIn_r _ [639, 278, 640, 641, 642, 2, 643, 16, 283, 284, 285, 286, 52, 287, 61, 288, 289, 290, 166, 167, 168, 169, 170, 171, 172, 173, 174, 295, 296, 297, 298, 63, 74, 69, 1238, 1239, 1240, 1241, 1242, 1243, 1244, 1245, 1269, 1270, 1271, 1272, 1273, 1274, 1275, 1276, 1301, 1302, 1303, 1304] (by decide +kernel) (by decide +kernel)) (goodIn_sub (fun _ h => List.mem_append_left _ (List.mem_append_left _ (List.mem_append_right _ h))) (by decide +kernel))) (goodIn_sub (fun _ h => List.mem_append_left _ (List.mem_append_right _ h)) (by decide +kernel))) (goodIn_sub (fun _ h => List.mem_append_right _ h) (by decide +kernel))
set_option maxRecDepth 20000 in
theorem gL_law_L_note : GoodIn wsL_law (va_wsS RL 136 yL_note wsL_note) := goodIn_app (goodIn_of _ (by decide +kernel)) ggL_law_L_note
set_option maxRecDepth 20000 in
theorem ggL_law_X12_note : GoodIn wsL_law wsX12_note := goodIn_r _ [647, 304, 305, 306, 5, 307, 138, 648, 649, 650, 651, 565, 308, 309, 310, 311, 238, 239, 240, 241, 232, 228, 229, 230, 231, 1246, 1247, 1248, 1249, 1250, 1251, 1252, 1253, 1254, 1255, 1256, 1257, 1258, 1259, 1260, 1261, 1262, 1263, 1264, 1265, 1266, 1267, 1268] (by decide +kernel) (by decide +kernel)
set_option maxRecDepth 20000 in
theorem gL_law_X12_note : GoodIn wsL_law (wsV RL 138 RX12 yX12_note wsX12_note) := goodIn_app (goodIn_of _ (by decide +kernel)) ggL_law_X12_note
set_option maxRecDepth 20000 in
theorem ggL_law_L_heard : GoodIn wsL_law wsL_heard := goodIn_ca (goodIn_ca (goodIn_ca (goodIn_r _ [654, 278, 155, 655, 656, 657, 2, 658, 16, 283, 284, 285, 286, 52, 287, 61, 288, 289, 290, 166, 167, 168, 169, 170, 171, 172, 173, 174, 291, 164, 165, 292, 293, 294, 295, 296, 297, 298, 63, 74, 69, 1238, 1239, 1240, 1241, 1242, 1243, 1244, 1245, 1269, 1270, 1271, 1272, 1273, 1274, 1275, 1276, 1301, 1302, 1303, 1304] (by decide +kernel) (by decide +kernel)) (goodIn_sub (fun _ h => List.mem_append_left _ (List.mem_append_left _ (List.mem_append_right _ h))) (by decide +kernel))) (goodIn_sub (fun _ h => List.mem_append_left _ (List.mem_append_right _ h)) (by decide +kernel))) (goodIn_sub (fun _ h => List.mem_append_right _ h) (by decide +kernel))
set_option maxRecDepth 20000 in
theorem gL_law_L_heard : GoodIn wsL_law (va_wsS RL 139 yL_heard wsL_heard) := goodIn_app (goodIn_of _ (by decide +kernel)) ggL_law_L_heard
set_option maxRecDepth 20000 in
theorem ggL_law_X12_heard : GoodIn wsL_law wsX12_heard := goodIn_r _ [662, 304, 305, 306, 5, 307, 138, 228, 229, 230, 231, 232, 221, 222, 223, 663, 664, 665, 666, 565, 308, 309, 310, 311, 238, 239, 240, 241, 1246, 1247, 1248, 1249, 1250, 1251, 1252, 1253, 1254, 1255, 1256, 1257, 1258, 1259, 1260, 1261, 1262, 1263, 1264, 1265, 1266, 1267, 1268] (by decide +kernel) (by decide +kernel)
set_option maxRecDepth 20000 in
theorem gL_law_X12_heard : GoodIn wsL_law (wsV RL 141 RX12 yX12_heard wsX12_heard) := goodIn_app (goodIn_of _ (by decide +kernel)) ggL_law_X12_heard
set_option maxRecDepth 20000 in
theorem ggL_law_L_arrivals : GoodIn wsL_law wsL_arrivals := goodIn_ca (goodIn_ca (goodIn_ca (goodIn_r _ [669, 278, 155, 670, 671, 672, 2, 673, 16, 283, 20, 674, 368, 284, 285, 286, 52, 287, 61, 288, 289, 290, 166, 167, 168, 169, 170, 171, 172, 173, 174, 675, 443, 444, 291, 164, 165, 292, 293, 294, 676, 453, 454, 19, 455, 88, 456, 457, 458, 459, 460, 461, 15, 462, 53, 55, 207, 407, 296, 297, 298, 63, 74, 69, 463, 464, 465, 466, 467, 184, 66, 185, 468, 65, 67, 469, 470, 471, 472, 473, 474, 475, 476, 477, 478, 479, 480, 481, 482, 483, 484, 485, 486, 487, 488, 489, 490, 491, 492, 493, 494, 54, 495, 496, 71, 72, 73, 75, 76, 77, 78, 62, 79, 80, 81, 82, 497, 498, 499, 500, 501, 56, 502, 503, 504, 505, 506, 507, 508, 509, 510, 404, 405, 406, 511, 512, 513, 514, 1238, 1239, 1240, 1241, 1242, 1243, 1244, 1245, 1269, 1270, 1271, 1272, 1273, 1274, 1275, 1276, 1277, 1301, 1302, 1303, 1304] (by decide +kernel) (by decide +kernel)) (goodIn_sub (fun _ h => List.mem_append_left _ (List.mem_append_left _ (List.mem_append_right _ h))) (by decide +kernel))) (goodIn_sub (fun _ h => List.mem_append_left _ (List.mem_append_right _ h)) (by decide +kernel))) (goodIn_sub (fun _ h => List.mem_append_right _ h) (by decide +kernel))
set_option maxRecDepth 20000 in
theorem gL_law_L_arrivals : GoodIn wsL_law (va_wsS RL 142 yL_arrivals wsL_arrivals) := goodIn_app (goodIn_of _ (by decide +kernel)) ggL_law_L_arrivals
set_option maxRecDepth 20000 in
theorem ggL_law_X12_arrivals : GoodIn wsL_law wsX12_arrivals := goodIn_r _ [680, 566, 304, 305, 306, 5, 307, 138, 228, 229, 230, 231, 232, 335, 336, 337, 221, 222, 223, 567, 568, 569, 570, 565, 571, 572, 573, 574, 308, 309, 310, 311, 575, 576, 577, 578, 579, 580, 581, 142, 143, 144, 560, 145, 146, 582, 583, 584, 585, 586, 587, 588, 589, 590, 591, 592, 593, 594, 595, 596, 597, 598, 599, 600, 238, 239, 240, 241, 1246, 1247, 1248, 1249, 1250, 1251, 1252, 1253, 1254, 1255, 1256, 1257, 1258, 1259, 1260, 1261, 1262, 1263, 1264, 1265, 1266, 1267, 1268] (by decide +kernel) (by decide +kernel)
set_option maxRecDepth 20000 in
theorem gL_law_X12_arrivals : GoodIn wsL_law (wsV RL 144 RX12 yX12_arrivals wsX12_arrivals) := goodIn_app (goodIn_of _ (by decide +kernel)) ggL_law_X12_arrivals
set_option maxRecDepth 20000 in
theorem ggL_law_L_arrival : GoodIn wsL_law wsL_arrival := goodIn_ca (goodIn_ca (goodIn_ca (goodIn_r _ [683, 278, 155, 684, 685, 686, 2, 687, 16, 283, 20, 674, 284, 285, 286, 52, 287, 61, 288, 289, 290, 166, 167, 168, 169, 170, 171, 172, 173, 174, 675, 443, 444, 291, 164, 165, 292, 293, 294, 676, 453, 454, 19, 455, 88, 456, 457, 458, 459, 460, 461, 15, 462, 53, 55, 207, 407, 296, 297, 298, 63, 74, 69, 463, 464, 465, 466, 467, 184, 66, 185, 468, 65, 67, 469, 470, 471, 472, 473, 474, 475, 476, 477, 478, 479, 480, 481, 482, 483, 484, 485, 486, 487, 488, 489, 490, 491, 492, 493, 494, 54, 495, 496, 71, 72, 73, 75, 76, 77, 78, 62, 79, 80, 81, 82, 497, 498, 499, 500, 501, 56, 502, 503, 504, 505, 506, 507, 508, 509, 510, 404, 405, 406, 511, 512, 513, 514, 295, 1238, 1239, 1240, 1241, 1242, 1243, 1244, 1245, 1269, 1270, 1271, 1272, 1273, 1274, 1275, 1276, 1277, 1301, 1302, 1303, 1304] (by decide +kernel) (by decide +kernel)) (goodIn_sub (fun _ h => List.mem_append_left _ (List.mem_append_left _ (List.mem_append_right _ h))) (by decide +kernel))) (goodIn_sub (fun _ h => List.mem_append_left _ (List.mem_append_right _ h)) (by decide +kernel))) (goodIn_sub (fun _ h => List.mem_append_right _ h) (by decide +kernel))
set_option maxRecDepth 20000 in
theorem gL_law_L_arrival : GoodIn wsL_law (va_wsS RL 145 yL_arrival wsL_arrival) := goodIn_app (goodIn_of _ (by decide +kernel)) ggL_law_L_arrival
set_option maxRecDepth 20000 in
theorem ggL_law_X12_arrival : GoodIn wsL_law wsX12_arrival := goodIn_r _ [691, 566, 565, 304, 305, 306, 5, 307, 138, 228, 229, 230, 231, 232, 335, 336, 337, 221, 222, 223, 567, 568, 569, 570, 571, 572, 573, 574, 308, 309, 310, 311, 575, 576, 577, 578, 579, 580, 581, 142, 143, 144, 560, 145, 146, 582, 583, 584, 585, 586, 587, 588, 589, 590, 591, 592, 593, 594, 595, 596, 597, 598, 599, 600, 692, 693, 694, 695, 608, 609, 610, 611, 238, 239, 240, 241, 1246, 1247, 1248, 1249, 1250, 1251, 1252, 1253, 1254, 1255, 1256, 1257, 1258, 1259, 1260, 1261, 1262, 1263, 1264, 1265, 1266, 1267, 1268] (by decide +kernel) (by decide +kernel)
set_option maxRecDepth 20000 in
theorem gL_law_X12_arrival : GoodIn wsL_law (wsV RL 148 RX12 yX12_arrival wsX12_arrival) := goodIn_app (goodIn_of _ (by decide +kernel)) ggL_law_X12_arrival
set_option maxRecDepth 20000 in
theorem ggL_law_L_delay : GoodIn wsL_law wsL_delay := goodIn_ca (goodIn_ca (goodIn_ca (goodIn_r _ [698, 278, 155, 699, 700, 701, 2, 702, 16, 283, 703, 284, 285, 286, 52, 287, 61, 288, 289, 290, 166, 167, 168, 169, 170, 171, 172, 173, 174, 292, 293, 294, 704, 544, 545, 15, 546, 53, 547, 407, 296, 297, 298, 63, 74, 69, 295, 1238, 1239, 1240, 1241, 1242, 1243, 1244, 1245, 1269, 1270, 1271, 1272, 1273, 1274, 1275, 1276, 1301, 1302, 1303, 1304] (by decide +kernel) (by decide +kernel)) (goodIn_sub (fun _ h => List.mem_append_left _ (List.mem_append_left _ (List.mem_append_right _ h))) (by decide +kernel))) (goodIn_sub (fun _ h => List.mem_append_left _ (List.mem_append_right _ h)) (by decide +kernel))) (goodIn_sub (fun _ h => List.mem_append_right _ h) (by decide +kernel))
set_option maxRecDepth 20000 in
theorem gL_law_L_delay : GoodIn wsL_law (va_wsS RL 149 yL_delay wsL_delay) := goodIn_app (goodIn_of _ (by decide +kernel)) ggL_law_L_delay
set_option maxRecDepth 20000 in
theorem ggL_law_X12_delay : GoodIn wsL_law wsX12_delay := goodIn_r _ [708, 565, 304, 305, 306, 5, 307, 138, 228, 229, 230, 231, 232, 709, 710, 711, 712, 308, 309, 310, 311, 238, 239, 240, 241, 1246, 1247, 1248, 1249, 1250, 1251, 1252, 1253, 1254, 1255, 1256, 1257, 1258, 1259, 1260, 1261, 1262, 1263, 1264, 1265, 1266, 1267, 1268] (by decide +kernel) (by decide +kernel)
set_option maxRecDepth 20000 in
theorem gL_law_X12_delay : GoodIn wsL_law (wsV RL 151 RX12 yX12_delay wsX12_delay) := goodIn_app (goodIn_of _ (by decide +kernel)) ggL_law_X12_delay
set_option maxRecDepth 20000 in
theorem ggL_law_L_expected : GoodIn wsL_law wsL_expected := goodIn_ca (goodIn_ca (goodIn_ca (goodIn_r _ [715, 278, 155, 716, 717, 718, 2, 719, 16, 283, 720, 721, 722, 15, 723, 724, 725, 726, 727, 46, 47, 284, 285, 286, 52, 287, 61, 288, 289, 290, 166, 167, 168, 169, 170, 171, 172, 173, 174, 292, 293, 294, 728, 729, 730, 731, 732, 733, 734, 735, 736, 737, 738, 739, 740, 476, 477, 478, 53, 407, 296, 297, 298, 63, 74, 69, 479, 480, 465, 481, 482, 741, 499, 500, 501, 56, 1238, 1239, 1240, 1241, 1242, 1243, 1244, 1245, 1269, 1270, 1271, 1272, 1273, 1274, 1275, 1276, 1301, 1302, 1303, 1304] (by decide +kernel) (by decide +kernel)) (goodIn_sub (fun _ h => List.mem_append_left _ (List.mem_append_left _ (List.mem_append_right _ h))) (by decide +kernel))) (goodIn_sub (fun _ h => List.mem_append_left _ (List.mem_append_right _ h)) (by decide +kernel))) (goodIn_sub (fun _ h => List.mem_append_right _ h) (by decide +kernel))
set_option maxRecDepth 20000 in
theorem gL_law_L_expected : GoodIn wsL_law (va_wsS RL 152 yL_expected wsL_expected) := goodIn_app (goodIn_of _ (by decide +kernel)) ggL_law_L_expected
set_option maxRecDepth 20000 in
theorem ggL_law_X12_expected : GoodIn wsL_law wsX12_expected := goodIn_r _ [745, 746, 747, 748, 5, 749, 138, 304, 305, 306, 307, 228, 229, 230, 231, 232, 750, 751, 752, 753, 582, 583, 584, 585, 308, 309, 310, 311, 586, 587, 588, 608, 609, 610, 611, 238, 239, 240, 241, 1246, 1247, 1248, 1249, 1250, 1251, 1252, 1253, 1254, 1255, 1256, 1257, 1258, 1259, 1260, 1261, 1262, 1263, 1264, 1265, 1266, 1267, 1268] (by decide +kernel) (by decide +kernel)
set_option maxRecDepth 20000 in
theorem gL_law_X12_expected : GoodIn wsL_law (wsV RL 154 RX12 yX12_expected wsX12_expected) := goodIn_app (goodIn_of _ (by decide +kernel)) ggL_law_X12_expected
set_option maxRecDepth 20000 in
theorem ggL_law_L_votes : GoodIn wsL_law wsL_votes := goodIn_ca (goodIn_ca (goodIn_ca (goodIn_r _ [756, 278, 757, 758, 759, 2, 760, 16, 28, 720, 721, 722, 15, 723, 724, 725, 726, 727, 46, 47, 288, 289, 290, 166, 167, 168, 169, 170, 171, 172, 173, 174, 761, 762, 763, 27, 764, 106, 107, 765, 184, 66, 185, 766, 767, 768, 769, 102, 770, 771, 100, 772, 544, 545, 546, 53, 547, 407, 296, 297, 52, 298, 61, 63, 74, 69, 773, 774, 775, 776, 777, 98, 99, 778, 779, 780, 781, 101, 782, 783, 729, 730, 731, 732, 733, 734, 735, 736, 737, 738, 739, 740, 476, 477, 478, 479, 480, 465, 481, 482, 741, 499, 500, 501, 56, 784, 404, 405, 406, 785, 786, 787, 788, 789, 790, 791, 792, 793, 794, 795, 103, 104, 105, 796, 797, 798, 799, 800, 801, 802, 803, 164, 165, 1238, 1239, 1240, 1241, 1242, 1243, 1244, 1245, 1269, 1270, 1271, 1272, 1273, 1274, 1275, 1276, 1279, 1280, 1281, 1282, 1283, 1284, 1285, 1286, 1287, 1301, 1302, 1303, 1304] (by decide +kernel) (by decide +kernel)) (goodIn_sub (fun _ h => List.mem_append_left _ (List.mem_append_left _ (List.mem_append_right _ h))) (by decide +kernel))) (goodIn_sub (fun _ h => List.mem_append_left _ (List.mem_append_right _ h)) (by decide +kernel))) (goodIn_sub (fun _ h => List.mem_append_right _ h) (by decide +kernel))
set_option maxRecDepth 20000 in
theorem gL_law_L_votes : GoodIn wsL_law (va_wsS RL 155 yL_votes wsL_votes) := goodIn_app (goodIn_of _ (by decide +kernel)) ggL_law_L_votes
set_option maxRecDepth 20000 in
theorem ggL_law_X12_votes : GoodIn wsL_law wsX12_votes := goodIn_r _ [807, 565, 147, 746, 747, 748, 5, 749, 138, 228, 229, 230, 231, 232, 808, 809, 810, 811, 149, 148, 812, 750, 751, 752, 753, 582, 583, 584, 585, 308, 309, 310, 311, 586, 587, 588, 608, 609, 610, 611, 709, 710, 711, 712, 813, 814, 815, 238, 239, 240, 241, 1246, 1247, 1248, 1249, 1250, 1251, 1252, 1253, 1254, 1255, 1256, 1257, 1258, 1259, 1260, 1261, 1262, 1263, 1264, 1265, 1266, 1267, 1268] (by decide +kernel) (by decide +kernel)
set_option maxRecDepth 20000 in
theorem gL_law_X12_votes : GoodIn wsL_law (wsV RL 157 RX12 yX12_votes wsX12_votes) := goodIn_app (goodIn_of _ (by decide +kernel)) ggL_law_X12_votes
set_option maxRecDepth 20000 in
theorem ggL_law_L_error : GoodIn wsL_law wsL_error := goodIn_ca (goodIn_ca (goodIn_ca (goodIn_r _ [818, 278, 819, 820, 821, 2, 822, 16, 28, 720, 721, 722, 15, 723, 724, 725, 726, 727, 46, 47, 288, 289, 290, 166, 167, 168, 169, 170, 171, 172, 173, 174, 761, 762, 763, 27, 764, 106, 107, 765, 184, 66, 185, 766, 767, 768, 769, 102, 770, 771, 100, 772, 544, 545, 546, 53, 547, 407, 296, 297, 52, 298, 61, 63, 74, 69, 773, 774, 775, 776, 777, 98, 99, 778, 779, 780, 781, 101, 782, 783, 729, 730, 731, 732, 733, 734, 735, 736, 737, 738, 739, 740, 476, 477, 478, 479, 480, 465, 481, 482, 741, 499, 500, 501, 56, 784, 404, 405, 406, 785, 786, 787, 788, 789, 790, 791, 792, 793, 794, 795, 103, 104, 105, 796, 797, 798, 799, 823, 824, 825, 826, 164, 165, 1238, 1239, 1240, 1241, 1242, 1243, 1244, 1245, 1269, 1270, 1271, 1272, 1273, 1274, 1275, 1276, 1279, 1280, 1281, 1282, 1283, 1284, 1285, 1286, 1287, 1301, 1302, 1303, 1304] (by decide +kernel) (by decide +kernel)) (goodIn_sub (fun _ h => List.mem_append_left _ (List.mem_append_left _ (List.mem_append_right _ h))) (by decide +kernel))) (goodIn_sub (fun _ h => List.mem_append_left _ (List.mem_append_right _ h)) (by decide +kernel))) (goodIn_sub (fun _ h => List.mem_append_right _ h) (by decide +kernel))
set_option maxRecDepth 20000 in
theorem gL_law_L_error : GoodIn wsL_law (va_wsS RL 158 yL_error wsL_error) := goodIn_app (goodIn_of _ (by decide +kernel)) ggL_law_L_error
set_option maxRecDepth 20000 in
theorem ggL_law_X12_error : GoodIn wsL_law wsX12_error := goodIn_r _ [830, 565, 148, 746, 747, 748, 5, 749, 138, 228, 229, 230, 231, 232, 808, 809, 810, 811, 149, 147, 812, 750, 751, 752, 753, 582, 583, 584, 585, 308, 309, 310, 311, 586, 587, 588, 608, 609, 610, 611, 709, 710, 711, 712, 813, 814, 815, 238, 239, 240, 241, 1246, 1247, 1248, 1249, 1250, 1251, 1252, 1253, 1254, 1255, 1256, 1257, 1258, 1259, 1260, 1261, 1262, 1263, 1264, 1265, 1266, 1267, 1268] (by decide +kernel) (by decide +kernel)
set_option maxRecDepth 20000 in
theorem gL_law_X12_error : GoodIn wsL_law (wsV RL 160 RX12 yX12_error wsX12_error) := goodIn_app (goodIn_of _ (by decide +kernel)) ggL_law_X12_error
set_option maxRecDepth 20000 in
theorem ggL_law_X11_found : GoodIn wsL_law wsX11_found := goodIn_r _ [834, 28, 16, 835, 761, 762, 763, 27, 764, 106, 107, 765, 184, 66, 185, 766, 767, 768, 769, 102, 770, 771, 100, 772, 544, 545, 15, 546, 53, 547, 407, 296, 297, 52, 298, 61, 63, 74, 69, 773, 725, 726, 727, 46, 47, 774, 775, 776, 777, 98, 99, 778, 779, 780, 781, 101, 782, 783, 729, 730, 731, 732, 733, 734, 735, 736, 737, 738, 739, 740, 476, 477, 478, 479, 480, 465, 481, 482, 741, 499, 500, 501, 56, 784, 404, 405, 406, 785, 786, 787, 788, 789, 790, 791, 792, 793, 794, 795, 103, 104, 105, 796, 797, 798, 799, 1238, 1239, 1240, 1241, 1242, 1243, 1244, 1245, 1279, 1280, 1281, 1282, 1283, 1284, 1285, 1286, 1287, 1269, 1270, 1271, 1272, 1273, 1274, 1275, 1276, 1301, 1302, 1303, 1304] (by decide +kernel) (by decide +kernel)
set_option maxRecDepth 20000 in
theorem gL_law_X11_found : GoodIn wsL_law (wsV RL 161 RX11 yX11_found wsX11_found) := goodIn_app (goodIn_of _ (by decide +kernel)) ggL_law_X11_found
set_option maxRecDepth 20000 in
theorem ggL_law_X12_found : GoodIn wsL_law wsX12_found := goodIn_r _ [839, 565, 840, 841, 842, 5, 843, 138, 147, 148, 812, 808, 809, 810, 811, 149, 750, 751, 752, 753, 582, 583, 584, 585, 308, 309, 310, 311, 586, 587, 588, 608, 609, 610, 611, 709, 710, 711, 712, 813, 814, 815, 238, 239, 240, 241, 232, 1246, 1247, 1248, 1249, 1250, 1251, 1252, 1253, 1254, 1255, 1256, 1257, 1258, 1259, 1260, 1261, 1262, 1263, 1264, 1265, 1266, 1267, 1268] (by decide +kernel) (by decide +kernel)
set_option maxRecDepth 20000 in
theorem gL_law_X12_found : GoodIn wsL_law (wsV RL 164 RX12 yX12_found wsX12_found) := goodIn_app (goodIn_of _ (by decide +kernel)) ggL_law_X12_found
set_option maxRecDepth 20000 in
theorem ggL_law_X11_middle : GoodIn wsL_law wsX11_middle := goodIn_r _ [847, 28, 16, 848, 849, 761, 762, 763, 27, 764, 106, 107, 765, 184, 66, 185, 766, 767, 768, 769, 102, 770, 771, 100, 772, 544, 545, 15, 546, 53, 547, 407, 296, 297, 52, 298, 61, 63, 74, 69, 773, 725, 726, 727, 46, 47, 774, 775, 776, 777, 98, 99, 778, 779, 780, 781, 101, 782, 783, 729, 730, 731, 732, 733, 734, 735, 736, 737, 738, 739, 740, 476, 477, 478, 479, 480, 465, 481, 482, 741, 499, 500, 501, 56, 784, 404, 405, 406, 785, 786, 787, 788, 789, 790, 791, 792, 793, 794, 795, 103, 104, 105, 796, 797, 798, 799, 850, 851, 852, 853, 854, 801, 802, 803, 164, 2, 165, 855, 856, 1238, 1239, 1240, 1241, 1242, 1243, 1244, 1245, 1279, 1280, 1281, 1282, 1283, 1284, 1285, 1286, 1287, 1269, 1270, 1271, 1272, 1273, 1274, 1275, 1276, 1301, 1302, 1303, 1304] (by decide +kernel) (by decide +kernel)
set_option maxRecDepth 20000 in
theorem gL_law_X11_middle : GoodIn wsL_law (wsV RL 165 RX11 yX11_middle wsX11_middle) := goodIn_app (goodIn_of _ (by decide +kernel)) ggL_law_X11_middle
set_option maxRecDepth 20000 in
theorem ggL_law_X12_middle : GoodIn wsL_law wsX12_middle := goodIn_r _ [860, 232, 565, 861, 138, 147, 840, 841, 842, 5, 843, 148, 812, 808, 809, 810, 811, 149, 750, 751, 752, 753, 582, 583, 584, 585, 308, 309, 310, 311, 586, 587, 588, 608, 609, 610, 611, 709, 710, 711, 712, 813, 814, 815, 862, 863, 864, 865, 1246, 1247, 1248, 1249, 1250, 1251, 1252, 1253, 1254, 1255, 1256, 1257, 1258, 1259, 1260, 1261, 1262, 1263, 1264, 1265, 1266, 1267, 1268] (by decide +kernel) (by decide +kernel)
set_option maxRecDepth 20000 in
theorem gL_law_X12_middle : GoodIn wsL_law (wsV RL 169 RX12 yX12_middle wsX12_middle) := goodIn_app (goodIn_of _ (by decide +kernel)) ggL_law_X12_middle
set_option maxRecDepth 20000 in
theorem ggL_law_L_blame : GoodIn wsL_law wsL_blame := goodIn_ca (goodIn_ca (goodIn_ca (goodIn_r _ [868, 278, 869, 870, 871, 2, 872, 16, 283, 28, 284, 285, 286, 52, 287, 61, 288, 289, 290, 166, 167, 168, 169, 170, 171, 172, 173, 174, 761, 762, 763, 27, 764, 106, 107, 765, 184, 66, 185, 766, 767, 768, 769, 102, 770, 771, 100, 772, 544, 545, 15, 546, 53, 547, 407, 296, 297, 298, 63, 74, 69, 773, 725, 726, 727, 46, 47, 774, 775, 776, 777, 98, 99, 778, 779, 780, 781, 101, 782, 783, 729, 730, 731, 732, 733, 734, 735, 736, 737, 738, 739, 740, 476, 477, 478, 479, 480, 465, 481, 482, 741, 499, 500, 501, 56, 784, 404, 405, 406, 785, 786, 787, 788, 789, 790, 791, 792, 793, 794, 795, 103, 104, 105, 796, 797, 798, 799, 873, 874, 875, 876, 1238, 1239, 1240, 1241, 1242, 1243, 1244, 1245, 1269, 1270, 1271, 1272, 1273, 1274, 1275, 1276, 1301, 1302, 1303, 1304, 1279, 1280, 1281, 1282, 1283, 1284, 1285, 1286, 1287] (by decide +kernel) (by decide +kernel)) (goodIn_sub (fun _ h => List.mem_append_left _ (List.mem_append_left _ (List.mem_append_right _ h))) (by decide +kernel))) (goodIn_sub (fun _ h => List.mem_append_left _ (List.mem_append_right _ h)) (by decide +kernel))) (goodIn_sub (fun _ h => List.mem_append_right _ h) (by decide +kernel))
set_option maxRecDepth 20000 in
theorem gL_law_L_blame : GoodIn wsL_law (va_wsS RL 170 yL_blame wsL_blame) := goodIn_app (goodIn_of _ (by decide +kernel)) ggL_law_L_blame
set_option maxRecDepth 20000 in
theorem ggL_law_X12_blame : GoodIn wsL_law wsX12_blame := goodIn_r _ [880, 565, 304, 305, 306, 5, 307, 138, 840, 841, 842, 843, 147, 148, 812, 808, 809, 810, 811, 149, 750, 751, 752, 753, 582, 583, 584, 585, 308, 309, 310, 311, 586, 587, 588, 608, 609, 610, 611, 709, 710, 711, 712, 813, 814, 815, 881, 882, 883, 884, 238, 239, 240, 241, 232, 228, 229, 230, 231, 1246, 1247, 1248, 1249, 1250, 1251, 1252, 1253, 1254, 1255, 1256, 1257, 1258, 1259, 1260, 1261, 1262, 1263, 1264, 1265, 1266, 1267, 1268] (by decide +kernel) (by decide +kernel)
set_option maxRecDepth 20000 in
theorem gL_law_X12_blame : GoodIn wsL_law (wsV RL 172 RX12 yX12_blame wsX12_blame) := goodIn_app (goodIn_of _ (by decide +kernel)) ggL_law_X12_blame
set_option maxRecDepth 20000 in
theorem ggL_law_X11_suspect : GoodIn wsL_law wsX11_suspect := goodIn_r _ [888, 28, 16, 761, 762, 763, 27, 764, 106, 107, 765, 184, 66, 185, 766, 767, 768, 769, 102, 770, 771, 100, 772, 544, 545, 15, 546, 53, 547, 407, 296, 297, 52, 298, 61, 63, 74, 69, 773, 725, 726, 727, 46, 47, 774, 775, 776, 777, 98, 99, 778, 779, 780, 781, 101, 782, 783, 729, 730, 731, 732, 733, 734, 735, 736, 737, 738, 739, 740, 476, 477, 478, 479, 480, 465, 481, 482, 741, 499, 500, 501, 56, 784, 404, 405, 406, 785, 786, 787, 788, 789, 790, 791, 792, 793, 794, 795, 103, 104, 105, 796, 797, 798, 799, 889, 890, 891, 892, 893, 874, 875, 876, 1238, 1239, 1240, 1241, 1242, 1243, 1244, 1245, 1279, 1280, 1281, 1282, 1283, 1284, 1285, 1286, 1287, 1269, 1270, 1271, 1272, 1273, 1274, 1275, 1276, 1301, 1302, 1303, 1304] (by decide +kernel) (by decide +kernel)
set_option maxRecDepth 20000 in
theorem gL_law_X11_suspect : GoodIn wsL_law (wsV RL 173 RX11 yX11_suspect wsX11_suspect) := goodIn_app (goodIn_of _ (by decide +kernel)) ggL_law_X11_suspect
set_option maxRecDepth 20000 in
theorem ggL_law_X12_suspect : GoodIn wsL_law wsX12_suspect := goodIn_r _ [897, 565, 840, 841, 842, 5, 843, 138, 147, 148, 812, 808, 809, 810, 811, 149, 750, 751, 752, 753, 582, 583, 584, 585, 308, 309, 310, 311, 586, 587, 588, 608, 609, 610, 611, 709, 710, 711, 712, 813, 814, 815, 898, 899, 900, 901, 881, 882, 883, 884, 238, 239, 240, 241, 232, 1246, 1247, 1248, 1249, 1250, 1251, 1252, 1253, 1254, 1255, 1256, 1257, 1258, 1259, 1260, 1261, 1262, 1263, 1264, 1265, 1266, 1267, 1268] (by decide +kernel) (by decide +kernel)
set_option maxRecDepth 20000 in
theorem gL_law_X12_suspect : GoodIn wsL_law (wsV RL 176 RX12 yX12_suspect wsX12_suspect) := goodIn_app (goodIn_of _ (by decide +kernel)) ggL_law_X12_suspect
set_option maxRecDepth 20000 in
theorem ggL_law_L_foundWithout : GoodIn wsL_law wsL_foundWithout := goodIn_ca (goodIn_ca (goodIn_ca (goodIn_r _ [904, 278, 905, 906, 907, 2, 908, 16, 283, 28, 835, 284, 285, 286, 52, 287, 61, 288, 289, 290, 166, 167, 168, 169, 170, 171, 172, 173, 174, 761, 762, 763, 27, 764, 106, 107, 765, 184, 66, 185, 766, 767, 768, 769, 102, 770, 771, 100, 772, 544, 545, 15, 546, 53, 547, 407, 296, 297, 298, 63, 74, 69, 773, 725, 726, 727, 46, 47, 774, 775, 776, 777, 98, 99, 778, 779, 780, 781, 101, 782, 783, 729, 730, 731, 732, 733, 734, 735, 736, 737, 738, 739, 740, 476, 477, 478, 479, 480, 465, 481, 482, 741, 499, 500, 501, 56, 784, 404, 405, 406, 785, 786, 787, 788, 789, 790, 791, 792, 793, 794, 795, 103, 104, 105, 796, 797, 798, 799, 1238, 1239, 1240, 1241, 1242, 1243, 1244, 1245, 1269, 1270, 1271, 1272, 1273, 1274, 1275, 1276, 1279, 1280, 1281, 1282, 1283, 1284, 1285, 1286, 1287, 1301, 1302, 1303, 1304] (by decide +kernel) (by decide +kernel)) (goodIn_sub (fun _ h => List.mem_append_left _ (List.mem_append_left _ (List.mem_append_right _ h))) (by decide +kernel))) (goodIn_sub (fun _ h => List.mem_append_left _ (List.mem_append_right _ h)) (by decide +kernel))) (goodIn_sub (fun _ h => List.mem_append_right _ h) (by decide +kernel))
set_option maxRecDepth 20000 in
theorem gL_law_L_foundWithout : GoodIn wsL_law (va_wsS RL 177 yL_foundWithout wsL_foundWithout) := goodIn_app (goodIn_of _ (by decide +kernel)) ggL_law_L_foundWithout
set_option maxRecDepth 20000 in
theorem ggL_law_X12_foundWithout : GoodIn wsL_law wsX12_foundWithout := goodIn_r _ [912, 304, 305, 306, 5, 307, 138, 840, 841, 842, 843, 565, 147, 148, 812, 808, 809, 810, 811, 149, 750, 751, 752, 753, 582, 583, 584, 585, 308, 309, 310, 311, 586, 587, 588, 608, 609, 610, 611, 709, 710, 711, 712, 813, 814, 815, 238, 239, 240, 241, 232, 228, 229, 230, 231, 1246, 1247, 1248, 1249, 1250, 1251, 1252, 1253, 1254, 1255, 1256, 1257, 1258, 1259, 1260, 1261, 1262, 1263, 1264, 1265, 1266, 1267, 1268] (by decide +kernel) (by decide +kernel)
set_option maxRecDepth 20000 in
theorem gL_law_X12_foundWithout : GoodIn wsL_law (wsV RL 179 RX12 yX12_foundWithout wsX12_foundWithout) := goodIn_app (goodIn_of _ (by decide +kernel)) ggL_law_X12_foundWithout
set_option maxRecDepth 20000 in
theorem ggL_law_L_whole : GoodIn wsL_law wsL_whole := goodIn_ca (goodIn_ca (goodIn_ca (goodIn_r _ [915, 155, 916, 917, 918, 2, 919, 28, 16, 291, 164, 165, 292, 293, 294, 166, 167, 168, 169, 170, 171, 172, 173, 174, 761, 762, 763, 27, 764, 106, 107, 765, 184, 66, 185, 766, 767, 768, 769, 102, 770, 771, 100, 772, 544, 545, 15, 546, 53, 547, 407, 296, 297, 52, 298, 61, 63, 74, 69, 773, 725, 726, 727, 46, 47, 774, 775, 776, 777, 98, 99, 778, 779, 780, 781, 101, 782, 783, 729, 730, 731, 732, 733, 734, 735, 736, 737, 738, 739, 740, 476, 477, 478, 479, 480, 465, 481, 482, 741, 499, 500, 501, 56, 784, 404, 405, 406, 785, 786, 787, 788, 789, 790, 791, 792, 793, 794, 795, 103, 104, 105, 796, 797, 798, 799, 920, 921, 922, 923, 924, 925, 283, 368, 926, 927, 928, 929, 835, 848, 426, 930, 800, 801, 802, 803, 1238, 1239, 1240, 1241, 1242, 1243, 1244, 1245, 1279, 1280, 1281, 1282, 1283, 1284, 1285, 1286, 1287, 1269, 1270, 1271, 1272, 1273, 1274, 1275, 1276, 1301, 1302, 1303, 1304] (by decide +kernel) (by decide +kernel)) (goodIn_sub (fun _ h => List.mem_append_left _ (List.mem_append_left _ (List.mem_append_right _ h))) (by decide +kernel))) (goodIn_sub (fun _ h => List.mem_append_left _ (List.mem_append_right _ h)) (by decide +kernel))) (goodIn_sub (fun _ h => List.mem_append_right _ h) (by decide +kernel))
set_option maxRecDepth 20000 in
theorem gL_law_L_whole : GoodIn wsL_law (va_wsS RL 180 yL_whole wsL_whole) := goodIn_app (goodIn_of _ (by decide +kernel)) ggL_law_L_whole
set_option maxRecDepth 20000 in
theorem ggL_law_X12_whole : GoodIn wsL_law wsX12_whole := goodIn_r _ [934, 565, 221, 222, 5, 223, 840, 841, 842, 843, 138, 147, 148, 812, 808, 809, 810, 811, 149, 750, 751, 752, 753, 582, 583, 584, 585, 308, 309, 310, 311, 586, 587, 588, 608, 609, 610, 611, 709, 710, 711, 712, 813, 814, 815, 935, 936, 937, 938, 612, 613, 614, 615, 862, 863, 864, 865, 238, 239, 240, 241, 232, 228, 229, 230, 231, 1246, 1247, 1248, 1249, 1250, 1251, 1252, 1253, 1254, 1255, 1256, 1257, 1258, 1259, 1260, 1261, 1262, 1263, 1264, 1265, 1266, 1267, 1268] (by decide +kernel) (by decide +kernel)
set_option maxRecDepth 20000 in
theorem gL_law_X12_whole : GoodIn wsL_law (wsV RL 182 RX12 yX12_whole wsX12_whole) := goodIn_app (goodIn_of _ (by decide +kernel)) ggL_law_X12_whole
set_option maxRecDepth 20000 in
theorem ggL_law_L_part : GoodIn wsL_law wsL_part := goodIn_ca (goodIn_ca (goodIn_ca (goodIn_r _ [941, 155, 278, 942, 943, 944, 2, 945, 946, 16, 291, 164, 165, 292, 293, 294, 166, 167, 168, 169, 170, 171, 172, 173, 174, 369, 370, 371, 15, 372, 53, 54, 55, 56, 284, 285, 286, 52, 287, 61, 288, 289, 290, 295, 296, 297, 298, 63, 74, 69, 1238, 1239, 1240, 1241, 1242, 1243, 1244, 1245, 1269, 1270, 1271, 1272, 1273, 1274, 1275, 1276, 1301, 1302, 1303, 1304] (by decide +kernel) (by decide +kernel)) (goodIn_sub (fun _ h => List.mem_append_left _ (List.mem_append_left _ (List.mem_append_right _ h))) (by decide +kernel))) (goodIn_sub (fun _ h => List.mem_append_left _ (List.mem_append_right _ h)) (by decide +kernel))) (goodIn_sub (fun _ h => List.mem_append_right _ h) (by decide +kernel))
set_option maxRecDepth 20000 in
theorem gL_law_L_part : GoodIn wsL_law (va_wsS RL 183 yL_part wsL_part) := goodIn_app (goodIn_of _ (by decide +kernel)) ggL_law_L_part
set_option maxRecDepth 20000 in
theorem ggL_law_X12_part : GoodIn wsL_law wsX12_part := goodIn_r _ [950, 138, 221, 222, 5, 223, 951, 952, 953, 228, 229, 230, 231, 232, 954, 955, 956, 957, 385, 386, 387, 382, 383, 384, 238, 239, 240, 241, 1246, 1247, 1248, 1249, 1250, 1251, 1252, 1253, 1254, 1255, 1256, 1257, 1258, 1259, 1260, 1261, 1262, 1263, 1264, 1265, 1266, 1267, 1268] (by decide +kernel) (by decide +kernel)
set_option maxRecDepth 20000 in
theorem gL_law_X12_part : GoodIn wsL_law (wsV RL 185 RX12 yX12_part wsX12_part) := goodIn_app (goodIn_of _ (by decide +kernel)) ggL_law_X12_part
set_option maxRecDepth 20000 in
theorem ggL_law_L_type : GoodIn wsL_law wsL_type := goodIn_ca (goodIn_ca (goodIn_ca (goodIn_r _ [960, 155, 249, 961, 962, 963, 2, 964, 36, 291, 164, 165, 292, 293, 294, 166, 167, 168, 169, 170, 171, 172, 173, 174, 965, 966, 967, 35, 968, 121, 969, 970, 971, 972, 120, 973, 1238, 1239, 1240, 1241, 1242, 1243, 1244, 1245, 1291, 1292] (by decide +kernel) (by decide +kernel)) (goodIn_sub (fun _ h => List.mem_append_left _ (List.mem_append_left _ (List.mem_append_right _ h))) (by decide +kernel))) (goodIn_sub (fun _ h => List.mem_append_left _ (List.mem_append_right _ h)) (by decide +kernel))) (goodIn_sub (fun _ h => List.mem_append_right _ h) (by decide +kernel))
set_option maxRecDepth 20000 in
theorem gL_law_L_type : GoodIn wsL_law (va_wsS RL 186 yL_type wsL_type) := goodIn_app (goodIn_of _ (by decide +kernel)) ggL_law_L_type
set_option maxRecDepth 20000 in
theorem ggL_law_X12_type : GoodIn wsL_law wsX12_type := goodIn_r _ [977, 978, 141, 221, 222, 5, 223, 228, 229, 230, 231, 232, 238, 239, 240, 241, 1246, 1247, 1248, 1249, 1250, 1251, 1252, 1253, 1254, 1255, 1256, 1257, 1258, 1259, 1260, 1261, 1262, 1263, 1264, 1265, 1266, 1267, 1268] (by decide +kernel) (by decide +kernel)
set_option maxRecDepth 20000 in
theorem gL_law_X12_type : GoodIn wsL_law (wsV RL 188 RX12 yX12_type wsX12_type) := goodIn_app (goodIn_of _ (by decide +kernel)) ggL_law_X12_type
set_option maxRecDepth 20000 in
theorem ggL_law_X11_clearCommands : GoodIn wsL_law wsX11_clearCommands := goodIn_r _ [982, 36, 983, 984, 985, 35, 986, 121, 1238, 1239, 1240, 1241, 1242, 1243, 1244, 1245, 1291, 1292] (by decide +kernel) (by decide +kernel)
set_option maxRecDepth 20000 in
theorem gL_law_X11_clearCommands : GoodIn wsL_law (wsV RL 189 RX11 yX11_clearCommands wsX11_clearCommands) := goodIn_app (goodIn_of _ (by decide +kernel)) ggL_law_X11_clearCommands
set_option maxRecDepth 20000 in
theorem ggL_law_X12_clearCommands : GoodIn wsL_law wsX12_clearCommands := goodIn_r _ [990, 978, 238, 239, 240, 5, 241, 232, 1246, 1247, 1248, 1249, 1250, 1251, 1252, 1253, 1254, 1255, 1256, 1257, 1258, 1259, 1260, 1261, 1262, 1263, 1264, 1265, 1266, 1267, 1268] (by decide +kernel) (by decide +kernel)
set_option maxRecDepth 20000 in
theorem gL_law_X12_clearCommands : GoodIn wsL_law (wsV RL 192 RX12 yX12_clearCommands wsX12_clearCommands) := goodIn_app (goodIn_of _ (by decide +kernel)) ggL_law_X12_clearCommands
set_option maxRecDepth 20000 in
theorem ggL_law_X11_runCommands : GoodIn wsL_law wsX11_runCommands := goodIn_r _ [994, 40, 36, 703, 41, 995, 996, 997, 998, 39, 999, 128, 129, 1000, 1001, 130, 1002, 1003, 1004, 1005, 1006, 1007, 1008, 35, 1009, 120, 1010, 164, 2, 165, 1011, 1012, 1013, 1014, 1015, 1016, 1017, 1018, 1019, 1020, 1021, 131, 132, 1022, 1023, 1024, 1025, 1026, 1027, 1028, 1029, 1030, 1031, 1032, 1033, 1034, 1035, 1036, 1037, 1038, 1039, 1040, 1041, 1042, 1043, 1044, 1045, 1046, 1047, 1048, 1049, 1050, 1051, 1052, 1053, 1054, 1055, 1056, 1057, 1058, 1059, 1060, 1061, 1062, 1063, 1064, 1065, 1066, 1067, 1068, 1069, 1070, 1071, 1072, 1073, 1074, 1075, 1076, 1077, 1078, 1079, 1080, 1081, 1082, 1083, 1084, 133, 1085, 1086, 1087, 1088, 126, 1089, 1090, 1091, 1092, 1093, 1094, 1095, 1096, 1097, 1098, 1099, 1100, 127, 1101, 1102, 1103, 1104, 1105, 1106, 1107, 1108, 175, 176, 177, 178, 32, 16, 28, 179, 180, 181, 31, 182, 113, 114, 115, 183, 184, 66, 185, 186, 187, 188, 15, 189, 46, 47, 48, 49, 53, 54, 55, 56, 190, 191, 192, 52, 193, 69, 194, 195, 196, 197, 198, 61, 199, 200, 201, 27, 202, 106, 1109, 1110, 1111, 1112, 1113, 1114, 1115, 1116, 1117, 1118, 1119, 1120, 1121, 1122, 1123, 1124, 1125, 160, 161, 162, 163, 254, 255, 256, 257, 258, 76, 77, 78, 62, 319, 320, 321, 322, 345, 346, 347, 348, 395, 396, 397, 398, 438, 439, 440, 441, 442, 207, 443, 444, 291, 1126, 1127, 1128, 1129, 24, 203, 204, 205, 206, 259, 260, 261, 262, 70, 71, 72, 73, 74, 63, 75, 79, 80, 81, 82, 83, 323, 324, 325, 326, 349, 350, 351, 352, 399, 400, 401, 402, 403, 404, 405, 406, 407, 296, 297, 298, 445, 446, 447, 23, 448, 449, 450, 94, 451, 452, 453, 454, 19, 455, 88, 456, 457, 458, 459, 460, 461, 462, 463, 464, 465, 466, 467, 468, 65, 67, 469, 470, 471, 472, 473, 474, 475, 476, 477, 478, 479, 480, 481, 482, 483, 484, 485, 486, 487, 488, 489, 490, 491, 492, 493, 494, 495, 285, 286, 287, 496, 497, 498, 499, 500, 501, 502, 503, 504, 505, 506, 507, 508, 509, 510, 511, 512, 513, 514, 515, 516, 517, 518, 519, 520, 521, 522, 523, 524, 525, 526, 527, 528, 529, 530, 531, 532, 533, 534, 535, 536, 537, 538, 539, 540, 541, 542, 543, 544, 545, 546, 547, 623, 624, 625, 626, 627, 628, 1238, 1239, 1240, 1241, 1242, 1243, 1244, 1245, 1293, 1294, 1295, 1296, 1297, 1298, 1299, 1300, 1291, 1292, 1288, 1289, 1290, 1269, 1270, 1271, 1272, 1273, 1274, 1275, 1276, 1301, 1302, 1303, 1304, 1279, 1280, 1281, 1282, 1283, 1284, 1285, 1286, 1287, 1278, 1277] (by decide +kernel) (by decide +kernel)
set_option maxRecDepth 20000 in
theorem gL_law_X11_runCommands : GoodIn wsL_law (wsV RL 193 RX11 yX11_runCommands wsX11_runCommands) := goodIn_app (goodIn_of _ (by decide +kernel)) ggL_law_X11_runCommands
set_option maxRecDepth 20000 in
theorem ggL_law_X12_runCommands : GoodIn wsL_law wsX12_runCommands := goodIn_r _ [1133, 565, 1134, 1135, 978, 1136, 1137, 1138, 5, 1139, 1140, 1141, 1142, 1143, 1144, 1145, 1146, 1147, 141, 221, 222, 223, 1148, 1149, 1150, 1151, 1152, 1153, 1154, 1155, 1156, 1157, 1158, 1159, 1160, 1161, 1162, 1163, 1164, 1165, 1166, 1167, 1168, 1169, 1170, 150, 238, 239, 240, 241, 232, 212, 213, 214, 215, 140, 138, 1171, 1172, 1173, 1174, 216, 217, 218, 219, 220, 267, 268, 269, 270, 271, 272, 273, 274, 331, 332, 333, 334, 335, 336, 337, 357, 358, 359, 360, 412, 413, 414, 415, 416, 417, 418, 552, 553, 554, 555, 556, 557, 558, 559, 560, 561, 562, 563, 564, 566, 143, 144, 142, 145, 146, 567, 568, 569, 570, 571, 572, 573, 574, 308, 309, 310, 311, 575, 576, 577, 578, 579, 580, 581, 582, 583, 584, 585, 586, 587, 588, 589, 590, 591, 592, 593, 594, 595, 596, 597, 598, 599, 600, 601, 602, 603, 604, 605, 606, 607, 608, 609, 610, 611, 612, 613, 614, 615, 633, 634, 635, 636, 233, 234, 235, 236, 237, 139, 1246, 1247, 1248, 1249, 1250, 1251, 1252, 1253, 1254, 1255, 1256, 1257, 1258, 1259, 1260, 1261, 1262, 1263, 1264, 1265, 1266, 1267, 1268] (by decide +kernel) (by decide +kernel)
set_option maxRecDepth 20000 in
theorem gL_law_X12_runCommands : GoodIn wsL_law (wsV RL 196 RX12 yX12_runCommands wsX12_runCommands) := goodIn_app (goodIn_of _ (by decide +kernel)) ggL_law_X12_runCommands
set_option maxRecDepth 20000 in
theorem ggL_law_X11_stop : GoodIn wsL_law wsX11_stop := goodIn_r _ [1178, 41, 1238, 1239, 1240, 1241, 1242, 1243, 1244, 1245] (by decide +kernel) (by decide +kernel)
set_option maxRecDepth 20000 in
theorem gL_law_X11_stop : GoodIn wsL_law (wsV RL 197 RX11 yX11_stop wsX11_stop) := goodIn_app (goodIn_of _ (by decide +kernel)) ggL_law_X11_stop
set_option maxRecDepth 20000 in
theorem ggL_law_X12_stop : GoodIn wsL_law wsX12_stop := goodIn_r _ [1182, 1134, 238, 239, 240, 5, 241, 232, 1246, 1247, 1248, 1249, 1250, 1251, 1252, 1253, 1254, 1255, 1256, 1257, 1258, 1259, 1260, 1261, 1262, 1263, 1264, 1265, 1266, 1267, 1268] (by decide +kernel) (by decide +kernel)
set_option maxRecDepth 20000 in
theorem gL_law_X12_stop : GoodIn wsL_law (wsV RL 200 RX12 yX12_stop wsX12_stop) := goodIn_app (goodIn_of _ (by decide +kernel)) ggL_law_X12_stop
set_option maxRecDepth 20000 in
theorem ggL_law_L_undo : GoodIn wsL_law wsL_undo := goodIn_ca (goodIn_ca (goodIn_ca (goodIn_r _ [1185, 249, 1186, 1187, 1188, 2, 1189, 32, 1190, 16, 28, 166, 167, 168, 169, 170, 171, 172, 173, 174, 1191, 1192, 1193, 31, 1194, 115, 114, 113, 186, 187, 188, 15, 189, 46, 47, 48, 49, 53, 54, 55, 56, 190, 191, 192, 52, 193, 69, 194, 184, 66, 185, 195, 196, 197, 198, 61, 199, 200, 201, 27, 202, 106, 1238, 1239, 1240, 1241, 1242, 1243, 1244, 1245, 1288, 1289, 1290, 1269, 1270, 1271, 1272, 1273, 1274, 1275, 1276, 1301, 1302, 1303, 1304, 1279, 1280, 1281, 1282, 1283, 1284, 1285, 1286, 1287] (by decide +kernel) (by decide +kernel)) (goodIn_sub (fun _ h => List.mem_append_left _ (List.mem_append_left _ (List.mem_append_right _ h))) (by decide +kernel))) (goodIn_sub (fun _ h => List.mem_append_left _ (List.mem_append_right _ h)) (by decide +kernel))) (goodIn_sub (fun _ h => List.mem_append_right _ h) (by decide +kernel))
set_option maxRecDepth 20000 in
theorem gL_law_L_undo : GoodIn wsL_law (va_wsS RL 201 yL_undo wsL_undo) := goodIn_app (goodIn_of _ (by decide +kernel)) ggL_law_L_undo
set_option maxRecDepth 20000 in
theorem ggL_law_X12_undo : GoodIn wsL_law wsX12_undo := goodIn_r _ [1198, 237, 138, 139, 228, 229, 230, 5, 231, 232, 238, 239, 240, 241, 1246, 1247, 1248, 1249, 1250, 1251, 1252, 1253, 1254, 1255, 1256, 1257, 1258, 1259, 1260, 1261, 1262, 1263, 1264, 1265, 1266, 1267, 1268] (by decide +kernel) (by decide +kernel)
set_option maxRecDepth 20000 in
theorem gL_law_X12_undo : GoodIn wsL_law (wsV RL 204 RX12 yX12_undo wsX12_undo) := goodIn_app (goodIn_of _ (by decide +kernel)) ggL_law_X12_undo
set_option maxRecDepth 20000 in
theorem ggL_law_X11_digest : GoodIn wsL_law wsX11_digest := goodIn_r _ [1202, 28, 16, 1203, 32, 1190, 36, 1204, 41, 835, 761, 762, 763, 27, 764, 106, 107, 765, 184, 66, 185, 766, 767, 768, 769, 102, 770, 771, 100, 772, 544, 545, 15, 546, 53, 547, 407, 296, 297, 52, 298, 61, 63, 74, 69, 773, 725, 726, 727, 46, 47, 774, 775, 776, 777, 98, 99, 778, 779, 780, 781, 101, 782, 783, 729, 730, 731, 732, 733, 734, 735, 736, 737, 738, 739, 740, 476, 477, 478, 479, 480, 465, 481, 482, 741, 499, 500, 501, 56, 784, 404, 405, 406, 785, 786, 787, 788, 789, 790, 791, 792, 793, 794, 795, 103, 104, 105, 796, 797, 798, 799, 1205, 1206, 2, 1207, 1208, 920, 921, 922, 923, 924, 925, 283, 368, 926, 927, 928, 929, 848, 426, 930, 800, 801, 802, 803, 164, 165, 1209, 1210, 1211, 1212, 295, 873, 874, 875, 876, 1213, 1214, 1215, 1216, 1217, 369, 370, 371, 372, 54, 55, 889, 890, 891, 892, 893, 1218, 1219, 1220, 1221, 1222, 823, 824, 825, 826, 1238, 1239, 1240, 1241, 1242, 1243, 1244, 1245, 1288, 1289, 1290, 1291, 1292, 1279, 1280, 1281, 1282, 1283, 1284, 1285, 1286, 1287, 1269, 1270, 1271, 1272, 1273, 1274, 1275, 1276, 1301, 1302, 1303, 1304] (by decide +kernel) (by decide +kernel)
set_option maxRecDepth 20000 in
theorem gL_law_X11_digest : GoodIn wsL_law (wsV RL 205 RX11 yX11_digest wsX11_digest) := goodIn_app (goodIn_of _ (by decide +kernel)) ggL_law_X11_digest
set_option maxRecDepth 20000 in
theorem ggL_law_X12_digest : GoodIn wsL_law wsX12_digest := goodIn_r _ [1226, 232, 565, 1227, 1228, 237, 978, 1134, 138, 147, 148, 840, 841, 842, 5, 843, 812, 808, 809, 810, 811, 149, 750, 751, 752, 753, 582, 583, 584, 585, 308, 309, 310, 311, 586, 587, 588, 608, 609, 610, 611, 709, 710, 711, 712, 813, 814, 815, 1229, 1230, 1231, 1232, 1233, 935, 936, 937, 938, 612, 613, 614, 615, 862, 863, 864, 865, 1234, 1235, 1236, 1237, 954, 955, 956, 957, 385, 386, 387, 382, 383, 384, 648, 649, 650, 651, 663, 664, 665, 666, 881, 882, 883, 884, 898, 899, 900, 901, 1246, 1247, 1248, 1249, 1250, 1251, 1252, 1253, 1254, 1255, 1256, 1257, 1258, 1259, 1260, 1261, 1262, 1263, 1264, 1265, 1266, 1267, 1268] (by decide +kernel) (by decide +kernel)
set_option maxRecDepth 20000 in
theorem gL_law_X12_digest : GoodIn wsL_law (wsV RL 209 RX12 yX12_digest wsX12_digest) := goodIn_app (goodIn_of _ (by decide +kernel)) ggL_law_X12_digest
