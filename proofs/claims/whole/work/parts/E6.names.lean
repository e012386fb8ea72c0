/-! THE LAW: its helpers, decoded -/
theorem dL_begin_0 : decode cL_begin 0 = .ok (.aload_n 3, 1) := by decide +kernel
theorem dL_begin_1 : decode cL_begin 1 = .ok (.iconst 0, 1) := by decide +kernel
theorem dL_begin_2 : decode cL_begin 2 = .ok (.aload_n 0, 1) := by decide +kernel
theorem dL_begin_3 : decode cL_begin 3 = .ok (.iload_n 1, 1) := by decide +kernel
theorem dL_begin_4 : decode cL_begin 4 = .ok (.iload_n 2, 1) := by decide +kernel
theorem dL_begin_5 : decode cL_begin 5 = .ok (.invokevirtual 7, 3) := by decide +kernel
theorem dL_begin_8 : decode cL_begin 8 = .ok (.i2l, 1) := by decide +kernel
theorem dL_begin_9 : decode cL_begin 9 = .ok (.lastore, 1) := by decide +kernel
theorem dL_begin_10 : decode cL_begin 10 = .ok (.goto 7, 3) := by decide +kernel
theorem dL_begin_13 : decode cL_begin 13 = .ok (.astore 4, 2) := by decide +kernel
theorem dL_begin_15 : decode cL_begin 15 = .ok (.iconst 1, 1) := by decide +kernel
theorem dL_begin_16 : decode cL_begin 16 = .ok (.ireturn, 1) := by decide +kernel
theorem dL_begin_17 : decode cL_begin 17 = .ok (.iconst 0, 1) := by decide +kernel
theorem dL_begin_18 : decode cL_begin 18 = .ok (.ireturn, 1) := by decide +kernel
theorem dL_addMicrophone_0 : decode cL_addMicrophone 0 = .ok (.aload_n 3, 1) := by decide +kernel
theorem dL_addMicrophone_1 : decode cL_addMicrophone 1 = .ok (.iconst 0, 1) := by decide +kernel
theorem dL_addMicrophone_2 : decode cL_addMicrophone 2 = .ok (.aload_n 0, 1) := by decide +kernel
theorem dL_addMicrophone_3 : decode cL_addMicrophone 3 = .ok (.iload_n 1, 1) := by decide +kernel
theorem dL_addMicrophone_4 : decode cL_addMicrophone 4 = .ok (.iload_n 2, 1) := by decide +kernel
theorem dL_addMicrophone_5 : decode cL_addMicrophone 5 = .ok (.invokevirtual 15, 3) := by decide +kernel
theorem dL_addMicrophone_8 : decode cL_addMicrophone 8 = .ok (.i2l, 1) := by decide +kernel
theorem dL_addMicrophone_9 : decode cL_addMicrophone 9 = .ok (.lastore, 1) := by decide +kernel
theorem dL_addMicrophone_10 : decode cL_addMicrophone 10 = .ok (.goto 11, 3) := by decide +kernel
theorem dL_addMicrophone_13 : decode cL_addMicrophone 13 = .ok (.astore 4, 2) := by decide +kernel
theorem dL_addMicrophone_15 : decode cL_addMicrophone 15 = .ok (.iconst 1, 1) := by decide +kernel
theorem dL_addMicrophone_16 : decode cL_addMicrophone 16 = .ok (.ireturn, 1) := by decide +kernel
theorem dL_addMicrophone_17 : decode cL_addMicrophone 17 = .ok (.astore 4, 2) := by decide +kernel
theorem dL_addMicrophone_19 : decode cL_addMicrophone 19 = .ok (.iconst 2, 1) := by decide +kernel
theorem dL_addMicrophone_20 : decode cL_addMicrophone 20 = .ok (.ireturn, 1) := by decide +kernel
theorem dL_addMicrophone_21 : decode cL_addMicrophone 21 = .ok (.iconst 0, 1) := by decide +kernel
theorem dL_addMicrophone_22 : decode cL_addMicrophone 22 = .ok (.ireturn, 1) := by decide +kernel
theorem dL_setClock_0 : decode cL_setClock 0 = .ok (.aload_n 3, 1) := by decide +kernel
theorem dL_setClock_1 : decode cL_setClock 1 = .ok (.iconst 0, 1) := by decide +kernel
theorem dL_setClock_2 : decode cL_setClock 2 = .ok (.aload_n 0, 1) := by decide +kernel
theorem dL_setClock_3 : decode cL_setClock 3 = .ok (.iload_n 1, 1) := by decide +kernel
theorem dL_setClock_4 : decode cL_setClock 4 = .ok (.iload_n 2, 1) := by decide +kernel
theorem dL_setClock_5 : decode cL_setClock 5 = .ok (.invokevirtual 20, 3) := by decide +kernel
theorem dL_setClock_8 : decode cL_setClock 8 = .ok (.i2l, 1) := by decide +kernel
theorem dL_setClock_9 : decode cL_setClock 9 = .ok (.lastore, 1) := by decide +kernel
theorem dL_setClock_10 : decode cL_setClock 10 = .ok (.goto 11, 3) := by decide +kernel
theorem dL_setClock_13 : decode cL_setClock 13 = .ok (.astore 4, 2) := by decide +kernel
theorem dL_setClock_15 : decode cL_setClock 15 = .ok (.iconst 1, 1) := by decide +kernel
theorem dL_setClock_16 : decode cL_setClock 16 = .ok (.ireturn, 1) := by decide +kernel
theorem dL_setClock_17 : decode cL_setClock 17 = .ok (.astore 4, 2) := by decide +kernel
theorem dL_setClock_19 : decode cL_setClock 19 = .ok (.iconst 2, 1) := by decide +kernel
theorem dL_setClock_20 : decode cL_setClock 20 = .ok (.ireturn, 1) := by decide +kernel
theorem dL_setClock_21 : decode cL_setClock 21 = .ok (.iconst 0, 1) := by decide +kernel
theorem dL_setClock_22 : decode cL_setClock 22 = .ok (.ireturn, 1) := by decide +kernel
theorem dL_addWall_0 : decode cL_addWall 0 = .ok (.aload 4, 2) := by decide +kernel
theorem dL_addWall_2 : decode cL_addWall 2 = .ok (.iconst 0, 1) := by decide +kernel
theorem dL_addWall_3 : decode cL_addWall 3 = .ok (.aload_n 0, 1) := by decide +kernel
theorem dL_addWall_4 : decode cL_addWall 4 = .ok (.iload_n 1, 1) := by decide +kernel
theorem dL_addWall_5 : decode cL_addWall 5 = .ok (.iload_n 2, 1) := by decide +kernel
theorem dL_addWall_6 : decode cL_addWall 6 = .ok (.iload_n 3, 1) := by decide +kernel
theorem dL_addWall_7 : decode cL_addWall 7 = .ok (.invokevirtual 25, 3) := by decide +kernel
theorem dL_addWall_10 : decode cL_addWall 10 = .ok (.i2l, 1) := by decide +kernel
theorem dL_addWall_11 : decode cL_addWall 11 = .ok (.lastore, 1) := by decide +kernel
theorem dL_addWall_12 : decode cL_addWall 12 = .ok (.goto 11, 3) := by decide +kernel
theorem dL_addWall_15 : decode cL_addWall 15 = .ok (.astore 5, 2) := by decide +kernel
theorem dL_addWall_17 : decode cL_addWall 17 = .ok (.iconst 1, 1) := by decide +kernel
theorem dL_addWall_18 : decode cL_addWall 18 = .ok (.ireturn, 1) := by decide +kernel
theorem dL_addWall_19 : decode cL_addWall 19 = .ok (.astore 5, 2) := by decide +kernel
theorem dL_addWall_21 : decode cL_addWall 21 = .ok (.iconst 2, 1) := by decide +kernel
theorem dL_addWall_22 : decode cL_addWall 22 = .ok (.ireturn, 1) := by decide +kernel
theorem dL_addWall_23 : decode cL_addWall 23 = .ok (.iconst 0, 1) := by decide +kernel
theorem dL_addWall_24 : decode cL_addWall 24 = .ok (.ireturn, 1) := by decide +kernel
theorem dL_addScreen_0 : decode cL_addScreen 0 = .ok (.aload 5, 2) := by decide +kernel
theorem dL_addScreen_2 : decode cL_addScreen 2 = .ok (.iconst 0, 1) := by decide +kernel
theorem dL_addScreen_3 : decode cL_addScreen 3 = .ok (.aload_n 0, 1) := by decide +kernel
theorem dL_addScreen_4 : decode cL_addScreen 4 = .ok (.iload_n 1, 1) := by decide +kernel
theorem dL_addScreen_5 : decode cL_addScreen 5 = .ok (.iload_n 2, 1) := by decide +kernel
theorem dL_addScreen_6 : decode cL_addScreen 6 = .ok (.iload_n 3, 1) := by decide +kernel
theorem dL_addScreen_7 : decode cL_addScreen 7 = .ok (.iload 4, 2) := by decide +kernel
theorem dL_addScreen_9 : decode cL_addScreen 9 = .ok (.invokevirtual 29, 3) := by decide +kernel
theorem dL_addScreen_12 : decode cL_addScreen 12 = .ok (.i2l, 1) := by decide +kernel
theorem dL_addScreen_13 : decode cL_addScreen 13 = .ok (.lastore, 1) := by decide +kernel
theorem dL_addScreen_14 : decode cL_addScreen 14 = .ok (.goto 11, 3) := by decide +kernel
theorem dL_addScreen_17 : decode cL_addScreen 17 = .ok (.astore 6, 2) := by decide +kernel
theorem dL_addScreen_19 : decode cL_addScreen 19 = .ok (.iconst 1, 1) := by decide +kernel
theorem dL_addScreen_20 : decode cL_addScreen 20 = .ok (.ireturn, 1) := by decide +kernel
theorem dL_addScreen_21 : decode cL_addScreen 21 = .ok (.astore 6, 2) := by decide +kernel
theorem dL_addScreen_23 : decode cL_addScreen 23 = .ok (.iconst 2, 1) := by decide +kernel
theorem dL_addScreen_24 : decode cL_addScreen 24 = .ok (.ireturn, 1) := by decide +kernel
theorem dL_addScreen_25 : decode cL_addScreen 25 = .ok (.iconst 0, 1) := by decide +kernel
theorem dL_addScreen_26 : decode cL_addScreen 26 = .ok (.ireturn, 1) := by decide +kernel
theorem dL_remove_0 : decode cL_remove 0 = .ok (.aload_n 3, 1) := by decide +kernel
theorem dL_remove_1 : decode cL_remove 1 = .ok (.iconst 0, 1) := by decide +kernel
theorem dL_remove_2 : decode cL_remove 2 = .ok (.aload_n 0, 1) := by decide +kernel
theorem dL_remove_3 : decode cL_remove 3 = .ok (.iload_n 1, 1) := by decide +kernel
theorem dL_remove_4 : decode cL_remove 4 = .ok (.iload_n 2, 1) := by decide +kernel
theorem dL_remove_5 : decode cL_remove 5 = .ok (.invokevirtual 33, 3) := by decide +kernel
theorem dL_remove_8 : decode cL_remove 8 = .ok (.i2l, 1) := by decide +kernel
theorem dL_remove_9 : decode cL_remove 9 = .ok (.lastore, 1) := by decide +kernel
theorem dL_remove_10 : decode cL_remove 10 = .ok (.goto 11, 3) := by decide +kernel
theorem dL_remove_13 : decode cL_remove 13 = .ok (.astore 4, 2) := by decide +kernel
theorem dL_remove_15 : decode cL_remove 15 = .ok (.iconst 1, 1) := by decide +kernel
theorem dL_remove_16 : decode cL_remove 16 = .ok (.ireturn, 1) := by decide +kernel
theorem dL_remove_17 : decode cL_remove 17 = .ok (.astore 4, 2) := by decide +kernel
theorem dL_remove_19 : decode cL_remove 19 = .ok (.iconst 2, 1) := by decide +kernel
theorem dL_remove_20 : decode cL_remove 20 = .ok (.ireturn, 1) := by decide +kernel
theorem dL_remove_21 : decode cL_remove 21 = .ok (.iconst 0, 1) := by decide +kernel
theorem dL_remove_22 : decode cL_remove 22 = .ok (.ireturn, 1) := by decide +kernel
theorem dL_set_0 : decode cL_set 0 = .ok (.aload_n 3, 1) := by decide +kernel
theorem dL_set_1 : decode cL_set 1 = .ok (.iconst 0, 1) := by decide +kernel
theorem dL_set_2 : decode cL_set 2 = .ok (.aload_n 0, 1) := by decide +kernel
theorem dL_set_3 : decode cL_set 3 = .ok (.iload_n 1, 1) := by decide +kernel
theorem dL_set_4 : decode cL_set 4 = .ok (.iload_n 2, 1) := by decide +kernel
theorem dL_set_5 : decode cL_set 5 = .ok (.invokevirtual 36, 3) := by decide +kernel
theorem dL_set_8 : decode cL_set 8 = .ok (.i2l, 1) := by decide +kernel
theorem dL_set_9 : decode cL_set 9 = .ok (.lastore, 1) := by decide +kernel
theorem dL_set_10 : decode cL_set 10 = .ok (.goto 7, 3) := by decide +kernel
theorem dL_set_13 : decode cL_set 13 = .ok (.astore 4, 2) := by decide +kernel
theorem dL_set_15 : decode cL_set 15 = .ok (.iconst 1, 1) := by decide +kernel
theorem dL_set_16 : decode cL_set 16 = .ok (.ireturn, 1) := by decide +kernel
theorem dL_set_17 : decode cL_set 17 = .ok (.iconst 0, 1) := by decide +kernel
theorem dL_set_18 : decode cL_set 18 = .ok (.ireturn, 1) := by decide +kernel
theorem dL_setS_0 : decode cL_setS 0 = .ok (.aload_n 2, 1) := by decide +kernel
theorem dL_setS_1 : decode cL_setS 1 = .ok (.iconst 0, 1) := by decide +kernel
theorem dL_setS_2 : decode cL_setS 2 = .ok (.aload_n 0, 1) := by decide +kernel
theorem dL_setS_3 : decode cL_setS 3 = .ok (.iload_n 1, 1) := by decide +kernel
theorem dL_setS_4 : decode cL_setS 4 = .ok (.invokevirtual 39, 3) := by decide +kernel
theorem dL_setS_7 : decode cL_setS 7 = .ok (.i2l, 1) := by decide +kernel
theorem dL_setS_8 : decode cL_setS 8 = .ok (.lastore, 1) := by decide +kernel
theorem dL_setS_9 : decode cL_setS 9 = .ok (.goto 6, 3) := by decide +kernel
theorem dL_setS_12 : decode cL_setS 12 = .ok (.astore_n 3, 1) := by decide +kernel
theorem dL_setS_13 : decode cL_setS 13 = .ok (.iconst 1, 1) := by decide +kernel
theorem dL_setS_14 : decode cL_setS 14 = .ok (.ireturn, 1) := by decide +kernel
theorem dL_setS_15 : decode cL_setS 15 = .ok (.iconst 0, 1) := by decide +kernel
theorem dL_setS_16 : decode cL_setS 16 = .ok (.ireturn, 1) := by decide +kernel
theorem dL_click_0 : decode cL_click 0 = .ok (.aload 4, 2) := by decide +kernel
theorem dL_click_2 : decode cL_click 2 = .ok (.iconst 0, 1) := by decide +kernel
theorem dL_click_3 : decode cL_click 3 = .ok (.aload_n 0, 1) := by decide +kernel
theorem dL_click_4 : decode cL_click 4 = .ok (.iload_n 1, 1) := by decide +kernel
theorem dL_click_5 : decode cL_click 5 = .ok (.iload_n 2, 1) := by decide +kernel
theorem dL_click_6 : decode cL_click 6 = .ok (.iload_n 3, 1) := by decide +kernel
theorem dL_click_7 : decode cL_click 7 = .ok (.invokevirtual 43, 3) := by decide +kernel
theorem dL_click_10 : decode cL_click 10 = .ok (.i2l, 1) := by decide +kernel
theorem dL_click_11 : decode cL_click 11 = .ok (.lastore, 1) := by decide +kernel
theorem dL_click_12 : decode cL_click 12 = .ok (.goto 11, 3) := by decide +kernel
theorem dL_click_15 : decode cL_click 15 = .ok (.astore 5, 2) := by decide +kernel
theorem dL_click_17 : decode cL_click 17 = .ok (.iconst 1, 1) := by decide +kernel
theorem dL_click_18 : decode cL_click 18 = .ok (.ireturn, 1) := by decide +kernel
theorem dL_click_19 : decode cL_click 19 = .ok (.astore 5, 2) := by decide +kernel
theorem dL_click_21 : decode cL_click 21 = .ok (.iconst 2, 1) := by decide +kernel
theorem dL_click_22 : decode cL_click 22 = .ok (.ireturn, 1) := by decide +kernel
theorem dL_click_23 : decode cL_click 23 = .ok (.iconst 0, 1) := by decide +kernel
theorem dL_click_24 : decode cL_click 24 = .ok (.ireturn, 1) := by decide +kernel
theorem dL_calibrate_0 : decode cL_calibrate 0 = .ok (.aload 4, 2) := by decide +kernel
theorem dL_calibrate_2 : decode cL_calibrate 2 = .ok (.iconst 0, 1) := by decide +kernel
theorem dL_calibrate_3 : decode cL_calibrate 3 = .ok (.aload_n 0, 1) := by decide +kernel
theorem dL_calibrate_4 : decode cL_calibrate 4 = .ok (.iload_n 1, 1) := by decide +kernel
theorem dL_calibrate_5 : decode cL_calibrate 5 = .ok (.iload_n 2, 1) := by decide +kernel
theorem dL_calibrate_6 : decode cL_calibrate 6 = .ok (.iload_n 3, 1) := by decide +kernel
theorem dL_calibrate_7 : decode cL_calibrate 7 = .ok (.invokevirtual 46, 3) := by decide +kernel
theorem dL_calibrate_10 : decode cL_calibrate 10 = .ok (.i2l, 1) := by decide +kernel
theorem dL_calibrate_11 : decode cL_calibrate 11 = .ok (.lastore, 1) := by decide +kernel
theorem dL_calibrate_12 : decode cL_calibrate 12 = .ok (.goto 11, 3) := by decide +kernel
theorem dL_calibrate_15 : decode cL_calibrate 15 = .ok (.astore 5, 2) := by decide +kernel
theorem dL_calibrate_17 : decode cL_calibrate 17 = .ok (.iconst 1, 1) := by decide +kernel
theorem dL_calibrate_18 : decode cL_calibrate 18 = .ok (.ireturn, 1) := by decide +kernel
theorem dL_calibrate_19 : decode cL_calibrate 19 = .ok (.astore 5, 2) := by decide +kernel
theorem dL_calibrate_21 : decode cL_calibrate 21 = .ok (.iconst 2, 1) := by decide +kernel
theorem dL_calibrate_22 : decode cL_calibrate 22 = .ok (.ireturn, 1) := by decide +kernel
theorem dL_calibrate_23 : decode cL_calibrate 23 = .ok (.iconst 0, 1) := by decide +kernel
theorem dL_calibrate_24 : decode cL_calibrate 24 = .ok (.ireturn, 1) := by decide +kernel
theorem dL_note_0 : decode cL_note 0 = .ok (.aload_n 2, 1) := by decide +kernel
theorem dL_note_1 : decode cL_note 1 = .ok (.iconst 0, 1) := by decide +kernel
theorem dL_note_2 : decode cL_note 2 = .ok (.aload_n 0, 1) := by decide +kernel
theorem dL_note_3 : decode cL_note 3 = .ok (.iload_n 1, 1) := by decide +kernel
theorem dL_note_4 : decode cL_note 4 = .ok (.invokevirtual 49, 3) := by decide +kernel
theorem dL_note_7 : decode cL_note 7 = .ok (.i2l, 1) := by decide +kernel
theorem dL_note_8 : decode cL_note 8 = .ok (.lastore, 1) := by decide +kernel
theorem dL_note_9 : decode cL_note 9 = .ok (.goto 6, 3) := by decide +kernel
theorem dL_note_12 : decode cL_note 12 = .ok (.astore_n 3, 1) := by decide +kernel
theorem dL_note_13 : decode cL_note 13 = .ok (.iconst 1, 1) := by decide +kernel
theorem dL_note_14 : decode cL_note 14 = .ok (.ireturn, 1) := by decide +kernel
theorem dL_note_15 : decode cL_note 15 = .ok (.iconst 0, 1) := by decide +kernel
theorem dL_note_16 : decode cL_note 16 = .ok (.ireturn, 1) := by decide +kernel
theorem dL_heard_0 : decode cL_heard 0 = .ok (.aload_n 3, 1) := by decide +kernel
theorem dL_heard_1 : decode cL_heard 1 = .ok (.iconst 0, 1) := by decide +kernel
theorem dL_heard_2 : decode cL_heard 2 = .ok (.aload_n 0, 1) := by decide +kernel
theorem dL_heard_3 : decode cL_heard 3 = .ok (.iload_n 1, 1) := by decide +kernel
theorem dL_heard_4 : decode cL_heard 4 = .ok (.iload_n 2, 1) := by decide +kernel
theorem dL_heard_5 : decode cL_heard 5 = .ok (.invokevirtual 52, 3) := by decide +kernel
theorem dL_heard_8 : decode cL_heard 8 = .ok (.i2l, 1) := by decide +kernel
theorem dL_heard_9 : decode cL_heard 9 = .ok (.lastore, 1) := by decide +kernel
theorem dL_heard_10 : decode cL_heard 10 = .ok (.goto 11, 3) := by decide +kernel
theorem dL_heard_13 : decode cL_heard 13 = .ok (.astore 4, 2) := by decide +kernel
theorem dL_heard_15 : decode cL_heard 15 = .ok (.iconst 1, 1) := by decide +kernel
theorem dL_heard_16 : decode cL_heard 16 = .ok (.ireturn, 1) := by decide +kernel
theorem dL_heard_17 : decode cL_heard 17 = .ok (.astore 4, 2) := by decide +kernel
theorem dL_heard_19 : decode cL_heard 19 = .ok (.iconst 2, 1) := by decide +kernel
theorem dL_heard_20 : decode cL_heard 20 = .ok (.ireturn, 1) := by decide +kernel
theorem dL_heard_21 : decode cL_heard 21 = .ok (.iconst 0, 1) := by decide +kernel
theorem dL_heard_22 : decode cL_heard 22 = .ok (.ireturn, 1) := by decide +kernel
theorem dL_arrivals_0 : decode cL_arrivals 0 = .ok (.aload 4, 2) := by decide +kernel
theorem dL_arrivals_2 : decode cL_arrivals 2 = .ok (.iconst 0, 1) := by decide +kernel
theorem dL_arrivals_3 : decode cL_arrivals 3 = .ok (.aload_n 0, 1) := by decide +kernel
theorem dL_arrivals_4 : decode cL_arrivals 4 = .ok (.iload_n 1, 1) := by decide +kernel
theorem dL_arrivals_5 : decode cL_arrivals 5 = .ok (.iload_n 2, 1) := by decide +kernel
theorem dL_arrivals_6 : decode cL_arrivals 6 = .ok (.iload_n 3, 1) := by decide +kernel
theorem dL_arrivals_7 : decode cL_arrivals 7 = .ok (.invokevirtual 55, 3) := by decide +kernel
theorem dL_arrivals_10 : decode cL_arrivals 10 = .ok (.i2l, 1) := by decide +kernel
theorem dL_arrivals_11 : decode cL_arrivals 11 = .ok (.lastore, 1) := by decide +kernel
theorem dL_arrivals_12 : decode cL_arrivals 12 = .ok (.goto 11, 3) := by decide +kernel
theorem dL_arrivals_15 : decode cL_arrivals 15 = .ok (.astore 5, 2) := by decide +kernel
theorem dL_arrivals_17 : decode cL_arrivals 17 = .ok (.iconst 1, 1) := by decide +kernel
theorem dL_arrivals_18 : decode cL_arrivals 18 = .ok (.ireturn, 1) := by decide +kernel
theorem dL_arrivals_19 : decode cL_arrivals 19 = .ok (.astore 5, 2) := by decide +kernel
theorem dL_arrivals_21 : decode cL_arrivals 21 = .ok (.iconst 2, 1) := by decide +kernel
theorem dL_arrivals_22 : decode cL_arrivals 22 = .ok (.ireturn, 1) := by decide +kernel
theorem dL_arrivals_23 : decode cL_arrivals 23 = .ok (.iconst 0, 1) := by decide +kernel
theorem dL_arrivals_24 : decode cL_arrivals 24 = .ok (.ireturn, 1) := by decide +kernel
theorem dL_arrival_0 : decode cL_arrival 0 = .ok (.aload 6, 2) := by decide +kernel
theorem dL_arrival_2 : decode cL_arrival 2 = .ok (.iconst 0, 1) := by decide +kernel
theorem dL_arrival_3 : decode cL_arrival 3 = .ok (.aload_n 0, 1) := by decide +kernel
theorem dL_arrival_4 : decode cL_arrival 4 = .ok (.iload_n 1, 1) := by decide +kernel
theorem dL_arrival_5 : decode cL_arrival 5 = .ok (.iload_n 2, 1) := by decide +kernel
theorem dL_arrival_6 : decode cL_arrival 6 = .ok (.iload_n 3, 1) := by decide +kernel
theorem dL_arrival_7 : decode cL_arrival 7 = .ok (.iload 4, 2) := by decide +kernel
theorem dL_arrival_9 : decode cL_arrival 9 = .ok (.iload 5, 2) := by decide +kernel
theorem dL_arrival_11 : decode cL_arrival 11 = .ok (.invokevirtual 58, 3) := by decide +kernel
theorem dL_arrival_14 : decode cL_arrival 14 = .ok (.i2l, 1) := by decide +kernel
theorem dL_arrival_15 : decode cL_arrival 15 = .ok (.lastore, 1) := by decide +kernel
theorem dL_arrival_16 : decode cL_arrival 16 = .ok (.goto 11, 3) := by decide +kernel
theorem dL_arrival_19 : decode cL_arrival 19 = .ok (.astore 7, 2) := by decide +kernel
theorem dL_arrival_21 : decode cL_arrival 21 = .ok (.iconst 1, 1) := by decide +kernel
theorem dL_arrival_22 : decode cL_arrival 22 = .ok (.ireturn, 1) := by decide +kernel
theorem dL_arrival_23 : decode cL_arrival 23 = .ok (.astore 7, 2) := by decide +kernel
theorem dL_arrival_25 : decode cL_arrival 25 = .ok (.iconst 2, 1) := by decide +kernel
theorem dL_arrival_26 : decode cL_arrival 26 = .ok (.ireturn, 1) := by decide +kernel
theorem dL_arrival_27 : decode cL_arrival 27 = .ok (.iconst 0, 1) := by decide +kernel
theorem dL_arrival_28 : decode cL_arrival 28 = .ok (.ireturn, 1) := by decide +kernel
theorem dL_delay_0 : decode cL_delay 0 = .ok (.aload_n 3, 1) := by decide +kernel
theorem dL_delay_1 : decode cL_delay 1 = .ok (.iconst 0, 1) := by decide +kernel
theorem dL_delay_2 : decode cL_delay 2 = .ok (.aload_n 0, 1) := by decide +kernel
theorem dL_delay_3 : decode cL_delay 3 = .ok (.iload_n 1, 1) := by decide +kernel
theorem dL_delay_4 : decode cL_delay 4 = .ok (.iload_n 2, 1) := by decide +kernel
theorem dL_delay_5 : decode cL_delay 5 = .ok (.invokevirtual 62, 3) := by decide +kernel
theorem dL_delay_8 : decode cL_delay 8 = .ok (.i2l, 1) := by decide +kernel
theorem dL_delay_9 : decode cL_delay 9 = .ok (.lastore, 1) := by decide +kernel
theorem dL_delay_10 : decode cL_delay 10 = .ok (.goto 11, 3) := by decide +kernel
theorem dL_delay_13 : decode cL_delay 13 = .ok (.astore 4, 2) := by decide +kernel
theorem dL_delay_15 : decode cL_delay 15 = .ok (.iconst 1, 1) := by decide +kernel
theorem dL_delay_16 : decode cL_delay 16 = .ok (.ireturn, 1) := by decide +kernel
theorem dL_delay_17 : decode cL_delay 17 = .ok (.astore 4, 2) := by decide +kernel
theorem dL_delay_19 : decode cL_delay 19 = .ok (.iconst 2, 1) := by decide +kernel
theorem dL_delay_20 : decode cL_delay 20 = .ok (.ireturn, 1) := by decide +kernel
theorem dL_delay_21 : decode cL_delay 21 = .ok (.iconst 0, 1) := by decide +kernel
theorem dL_delay_22 : decode cL_delay 22 = .ok (.ireturn, 1) := by decide +kernel
theorem dL_expected_0 : decode cL_expected 0 = .ok (.aload 4, 2) := by decide +kernel
theorem dL_expected_2 : decode cL_expected 2 = .ok (.iconst 0, 1) := by decide +kernel
theorem dL_expected_3 : decode cL_expected 3 = .ok (.aload_n 0, 1) := by decide +kernel
theorem dL_expected_4 : decode cL_expected 4 = .ok (.iload_n 1, 1) := by decide +kernel
theorem dL_expected_5 : decode cL_expected 5 = .ok (.iload_n 2, 1) := by decide +kernel
theorem dL_expected_6 : decode cL_expected 6 = .ok (.iload_n 3, 1) := by decide +kernel
theorem dL_expected_7 : decode cL_expected 7 = .ok (.invokevirtual 65, 3) := by decide +kernel
theorem dL_expected_10 : decode cL_expected 10 = .ok (.i2l, 1) := by decide +kernel
theorem dL_expected_11 : decode cL_expected 11 = .ok (.lastore, 1) := by decide +kernel
theorem dL_expected_12 : decode cL_expected 12 = .ok (.goto 11, 3) := by decide +kernel
theorem dL_expected_15 : decode cL_expected 15 = .ok (.astore 5, 2) := by decide +kernel
theorem dL_expected_17 : decode cL_expected 17 = .ok (.iconst 1, 1) := by decide +kernel
theorem dL_expected_18 : decode cL_expected 18 = .ok (.ireturn, 1) := by decide +kernel
theorem dL_expected_19 : decode cL_expected 19 = .ok (.astore 5, 2) := by decide +kernel
theorem dL_expected_21 : decode cL_expected 21 = .ok (.iconst 2, 1) := by decide +kernel
theorem dL_expected_22 : decode cL_expected 22 = .ok (.ireturn, 1) := by decide +kernel
theorem dL_expected_23 : decode cL_expected 23 = .ok (.iconst 0, 1) := by decide +kernel
theorem dL_expected_24 : decode cL_expected 24 = .ok (.ireturn, 1) := by decide +kernel
theorem dL_votes_0 : decode cL_votes 0 = .ok (.aload_n 2, 1) := by decide +kernel
theorem dL_votes_1 : decode cL_votes 1 = .ok (.iconst 0, 1) := by decide +kernel
theorem dL_votes_2 : decode cL_votes 2 = .ok (.aload_n 0, 1) := by decide +kernel
theorem dL_votes_3 : decode cL_votes 3 = .ok (.iload_n 1, 1) := by decide +kernel
theorem dL_votes_4 : decode cL_votes 4 = .ok (.invokevirtual 68, 3) := by decide +kernel
theorem dL_votes_7 : decode cL_votes 7 = .ok (.i2l, 1) := by decide +kernel
theorem dL_votes_8 : decode cL_votes 8 = .ok (.lastore, 1) := by decide +kernel
theorem dL_votes_9 : decode cL_votes 9 = .ok (.goto 6, 3) := by decide +kernel
theorem dL_votes_12 : decode cL_votes 12 = .ok (.astore_n 3, 1) := by decide +kernel
theorem dL_votes_13 : decode cL_votes 13 = .ok (.iconst 1, 1) := by decide +kernel
theorem dL_votes_14 : decode cL_votes 14 = .ok (.ireturn, 1) := by decide +kernel
theorem dL_votes_15 : decode cL_votes 15 = .ok (.iconst 0, 1) := by decide +kernel
theorem dL_votes_16 : decode cL_votes 16 = .ok (.ireturn, 1) := by decide +kernel
theorem dL_error_0 : decode cL_error 0 = .ok (.aload_n 2, 1) := by decide +kernel
theorem dL_error_1 : decode cL_error 1 = .ok (.iconst 0, 1) := by decide +kernel
theorem dL_error_2 : decode cL_error 2 = .ok (.aload_n 0, 1) := by decide +kernel
theorem dL_error_3 : decode cL_error 3 = .ok (.iload_n 1, 1) := by decide +kernel
theorem dL_error_4 : decode cL_error 4 = .ok (.invokevirtual 71, 3) := by decide +kernel
theorem dL_error_7 : decode cL_error 7 = .ok (.i2l, 1) := by decide +kernel
theorem dL_error_8 : decode cL_error 8 = .ok (.lastore, 1) := by decide +kernel
theorem dL_error_9 : decode cL_error 9 = .ok (.goto 6, 3) := by decide +kernel
theorem dL_error_12 : decode cL_error 12 = .ok (.astore_n 3, 1) := by decide +kernel
theorem dL_error_13 : decode cL_error 13 = .ok (.iconst 1, 1) := by decide +kernel
theorem dL_error_14 : decode cL_error 14 = .ok (.ireturn, 1) := by decide +kernel
theorem dL_error_15 : decode cL_error 15 = .ok (.iconst 0, 1) := by decide +kernel
theorem dL_error_16 : decode cL_error 16 = .ok (.ireturn, 1) := by decide +kernel
theorem dL_blame_0 : decode cL_blame 0 = .ok (.aload_n 2, 1) := by decide +kernel
theorem dL_blame_1 : decode cL_blame 1 = .ok (.iconst 0, 1) := by decide +kernel
theorem dL_blame_2 : decode cL_blame 2 = .ok (.aload_n 0, 1) := by decide +kernel
theorem dL_blame_3 : decode cL_blame 3 = .ok (.iload_n 1, 1) := by decide +kernel
theorem dL_blame_4 : decode cL_blame 4 = .ok (.invokevirtual 74, 3) := by decide +kernel
theorem dL_blame_7 : decode cL_blame 7 = .ok (.i2l, 1) := by decide +kernel
theorem dL_blame_8 : decode cL_blame 8 = .ok (.lastore, 1) := by decide +kernel
theorem dL_blame_9 : decode cL_blame 9 = .ok (.goto 6, 3) := by decide +kernel
theorem dL_blame_12 : decode cL_blame 12 = .ok (.astore_n 3, 1) := by decide +kernel
theorem dL_blame_13 : decode cL_blame 13 = .ok (.iconst 1, 1) := by decide +kernel
theorem dL_blame_14 : decode cL_blame 14 = .ok (.ireturn, 1) := by decide +kernel
theorem dL_blame_15 : decode cL_blame 15 = .ok (.iconst 0, 1) := by decide +kernel
theorem dL_blame_16 : decode cL_blame 16 = .ok (.ireturn, 1) := by decide +kernel
theorem dL_foundWithout_0 : decode cL_foundWithout 0 = .ok (.aload_n 2, 1) := by decide +kernel
theorem dL_foundWithout_1 : decode cL_foundWithout 1 = .ok (.iconst 0, 1) := by decide +kernel
theorem dL_foundWithout_2 : decode cL_foundWithout 2 = .ok (.aload_n 0, 1) := by decide +kernel
theorem dL_foundWithout_3 : decode cL_foundWithout 3 = .ok (.iload_n 1, 1) := by decide +kernel
theorem dL_foundWithout_4 : decode cL_foundWithout 4 = .ok (.invokevirtual 77, 3) := by decide +kernel
theorem dL_foundWithout_7 : decode cL_foundWithout 7 = .ok (.i2l, 1) := by decide +kernel
theorem dL_foundWithout_8 : decode cL_foundWithout 8 = .ok (.lastore, 1) := by decide +kernel
theorem dL_foundWithout_9 : decode cL_foundWithout 9 = .ok (.goto 6, 3) := by decide +kernel
theorem dL_foundWithout_12 : decode cL_foundWithout 12 = .ok (.astore_n 3, 1) := by decide +kernel
theorem dL_foundWithout_13 : decode cL_foundWithout 13 = .ok (.iconst 1, 1) := by decide +kernel
theorem dL_foundWithout_14 : decode cL_foundWithout 14 = .ok (.ireturn, 1) := by decide +kernel
theorem dL_foundWithout_15 : decode cL_foundWithout 15 = .ok (.iconst 0, 1) := by decide +kernel
theorem dL_foundWithout_16 : decode cL_foundWithout 16 = .ok (.ireturn, 1) := by decide +kernel
theorem dL_whole_0 : decode cL_whole 0 = .ok (.aload_n 2, 1) := by decide +kernel
theorem dL_whole_1 : decode cL_whole 1 = .ok (.iconst 0, 1) := by decide +kernel
theorem dL_whole_2 : decode cL_whole 2 = .ok (.aload_n 0, 1) := by decide +kernel
theorem dL_whole_3 : decode cL_whole 3 = .ok (.iload_n 1, 1) := by decide +kernel
theorem dL_whole_4 : decode cL_whole 4 = .ok (.invokevirtual 80, 3) := by decide +kernel
theorem dL_whole_7 : decode cL_whole 7 = .ok (.i2l, 1) := by decide +kernel
theorem dL_whole_8 : decode cL_whole 8 = .ok (.lastore, 1) := by decide +kernel
theorem dL_whole_9 : decode cL_whole 9 = .ok (.goto 6, 3) := by decide +kernel
theorem dL_whole_12 : decode cL_whole 12 = .ok (.astore_n 3, 1) := by decide +kernel
theorem dL_whole_13 : decode cL_whole 13 = .ok (.iconst 1, 1) := by decide +kernel
theorem dL_whole_14 : decode cL_whole 14 = .ok (.ireturn, 1) := by decide +kernel
theorem dL_whole_15 : decode cL_whole 15 = .ok (.iconst 0, 1) := by decide +kernel
theorem dL_whole_16 : decode cL_whole 16 = .ok (.ireturn, 1) := by decide +kernel
theorem dL_part_0 : decode cL_part 0 = .ok (.aload 4, 2) := by decide +kernel
theorem dL_part_2 : decode cL_part 2 = .ok (.iconst 0, 1) := by decide +kernel
theorem dL_part_3 : decode cL_part 3 = .ok (.aload_n 0, 1) := by decide +kernel
theorem dL_part_4 : decode cL_part 4 = .ok (.iload_n 1, 1) := by decide +kernel
theorem dL_part_5 : decode cL_part 5 = .ok (.iload_n 2, 1) := by decide +kernel
theorem dL_part_6 : decode cL_part 6 = .ok (.iload_n 3, 1) := by decide +kernel
theorem dL_part_7 : decode cL_part 7 = .ok (.invokevirtual 83, 3) := by decide +kernel
theorem dL_part_10 : decode cL_part 10 = .ok (.i2l, 1) := by decide +kernel
theorem dL_part_11 : decode cL_part 11 = .ok (.lastore, 1) := by decide +kernel
theorem dL_part_12 : decode cL_part 12 = .ok (.goto 11, 3) := by decide +kernel
theorem dL_part_15 : decode cL_part 15 = .ok (.astore 5, 2) := by decide +kernel
theorem dL_part_17 : decode cL_part 17 = .ok (.iconst 1, 1) := by decide +kernel
theorem dL_part_18 : decode cL_part 18 = .ok (.ireturn, 1) := by decide +kernel
theorem dL_part_19 : decode cL_part 19 = .ok (.astore 5, 2) := by decide +kernel
theorem dL_part_21 : decode cL_part 21 = .ok (.iconst 2, 1) := by decide +kernel
theorem dL_part_22 : decode cL_part 22 = .ok (.ireturn, 1) := by decide +kernel
theorem dL_part_23 : decode cL_part 23 = .ok (.iconst 0, 1) := by decide +kernel
theorem dL_part_24 : decode cL_part 24 = .ok (.ireturn, 1) := by decide +kernel
theorem dL_type_0 : decode cL_type 0 = .ok (.aload_n 2, 1) := by decide +kernel
theorem dL_type_1 : decode cL_type 1 = .ok (.iconst 0, 1) := by decide +kernel
theorem dL_type_2 : decode cL_type 2 = .ok (.aload_n 0, 1) := by decide +kernel
theorem dL_type_3 : decode cL_type 3 = .ok (.iload_n 1, 1) := by decide +kernel
theorem dL_type_4 : decode cL_type 4 = .ok (.invokevirtual 86, 3) := by decide +kernel
theorem dL_type_7 : decode cL_type 7 = .ok (.i2l, 1) := by decide +kernel
theorem dL_type_8 : decode cL_type 8 = .ok (.lastore, 1) := by decide +kernel
theorem dL_type_9 : decode cL_type 9 = .ok (.goto 9, 3) := by decide +kernel
theorem dL_type_12 : decode cL_type 12 = .ok (.astore_n 3, 1) := by decide +kernel
theorem dL_type_13 : decode cL_type 13 = .ok (.iconst 1, 1) := by decide +kernel
theorem dL_type_14 : decode cL_type 14 = .ok (.ireturn, 1) := by decide +kernel
theorem dL_type_15 : decode cL_type 15 = .ok (.astore_n 3, 1) := by decide +kernel
theorem dL_type_16 : decode cL_type 16 = .ok (.iconst 2, 1) := by decide +kernel
theorem dL_type_17 : decode cL_type 17 = .ok (.ireturn, 1) := by decide +kernel
theorem dL_type_18 : decode cL_type 18 = .ok (.iconst 0, 1) := by decide +kernel
theorem dL_type_19 : decode cL_type 19 = .ok (.ireturn, 1) := by decide +kernel
theorem dL_undo_0 : decode cL_undo 0 = .ok (.aload_n 1, 1) := by decide +kernel
theorem dL_undo_1 : decode cL_undo 1 = .ok (.iconst 0, 1) := by decide +kernel
theorem dL_undo_2 : decode cL_undo 2 = .ok (.aload_n 0, 1) := by decide +kernel
theorem dL_undo_3 : decode cL_undo 3 = .ok (.invokevirtual 89, 3) := by decide +kernel
theorem dL_undo_6 : decode cL_undo 6 = .ok (.i2l, 1) := by decide +kernel
theorem dL_undo_7 : decode cL_undo 7 = .ok (.lastore, 1) := by decide +kernel
theorem dL_undo_8 : decode cL_undo 8 = .ok (.goto 6, 3) := by decide +kernel
theorem dL_undo_11 : decode cL_undo 11 = .ok (.astore_n 2, 1) := by decide +kernel
theorem dL_undo_12 : decode cL_undo 12 = .ok (.iconst 1, 1) := by decide +kernel
theorem dL_undo_13 : decode cL_undo 13 = .ok (.ireturn, 1) := by decide +kernel
theorem dL_undo_14 : decode cL_undo 14 = .ok (.iconst 0, 1) := by decide +kernel
theorem dL_undo_15 : decode cL_undo 15 = .ok (.ireturn, 1) := by decide +kernel
