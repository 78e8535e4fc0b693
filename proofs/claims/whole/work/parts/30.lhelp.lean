set_option maxRecDepth 20000 in
theorem ggL_printer_X4_printer : GoodIn wsL_printer wsX4_printer := goodIn_ca (goodIn_ca (goodIn_r _ [7, 8, 9, 10, 11, 12, 13, 14, 15, 16, 17, 18, 6, 19, 20, 21, 22, 23, 24, 25, 26, 27, 28, 29, 30, 31, 32, 33, 34, 35, 36, 37, 38, 39, 40, 41, 42, 43, 44, 45] (by decide +kernel) (by decide +kernel)) (goodIn_sub (fun _ h => List.mem_cons_of_mem _ (List.mem_append_left _ (List.mem_append_right _ h))) (by decide +kernel))) (goodIn_sub (fun _ h => List.mem_cons_of_mem _ (List.mem_append_right _ h)) (by decide +kernel))
set_option maxRecDepth 20000 in
theorem gL_printer_X4_printer : GoodIn wsL_printer (wsV RL 7 RX4 yX4_printer wsX4_printer) := goodIn_app (goodIn_of _ (by decide +kernel)) ggL_printer_X4_printer
theorem dL_printer_0 : decode cL_printer 0 = .ok (.aload_n 3, 1) := by decide +kernel
theorem dL_printer_1 : decode cL_printer 1 = .ok (.iconst 0, 1) := by decide +kernel
theorem dL_printer_2 : decode cL_printer 2 = .ok (.aload_n 0, 1) := by decide +kernel
theorem dL_printer_3 : decode cL_printer 3 = .ok (.iload_n 1, 1) := by decide +kernel
theorem dL_printer_4 : decode cL_printer 4 = .ok (.iload_n 2, 1) := by decide +kernel
theorem dL_printer_5 : decode cL_printer 5 = .ok (.invokevirtual 7, 3) := by decide +kernel
theorem dL_printer_8 : decode cL_printer 8 = .ok (.i2l, 1) := by decide +kernel
theorem dL_printer_9 : decode cL_printer 9 = .ok (.lastore, 1) := by decide +kernel
theorem dL_printer_10 : decode cL_printer 10 = .ok (.goto 11, 3) := by decide +kernel
theorem dL_printer_13 : decode cL_printer 13 = .ok (.astore 4, 2) := by decide +kernel
theorem dL_printer_15 : decode cL_printer 15 = .ok (.iconst 1, 1) := by decide +kernel
theorem dL_printer_16 : decode cL_printer 16 = .ok (.ireturn, 1) := by decide +kernel
theorem dL_printer_17 : decode cL_printer 17 = .ok (.astore 4, 2) := by decide +kernel
theorem dL_printer_19 : decode cL_printer 19 = .ok (.iconst 2, 1) := by decide +kernel
theorem dL_printer_20 : decode cL_printer 20 = .ok (.ireturn, 1) := by decide +kernel
theorem dL_printer_21 : decode cL_printer 21 = .ok (.iconst 0, 1) := by decide +kernel
theorem dL_printer_22 : decode cL_printer 22 = .ok (.ireturn, 1) := by decide +kernel
set_option maxRecDepth 20000 in
theorem ggL_ticket_X4_ticket : GoodIn wsL_ticket wsX4_ticket := goodIn_ca (goodIn_ca (goodIn_r _ [7, 8, 9, 10, 11, 12, 13, 14, 15, 16, 17, 18, 6, 19, 20, 21, 22, 23, 24, 25, 26, 27, 28, 29, 30, 31, 32, 33, 34, 35, 36, 37, 38, 39, 40, 41, 42, 43, 44] (by decide +kernel) (by decide +kernel)) (goodIn_sub (fun _ h => List.mem_cons_of_mem _ (List.mem_append_left _ (List.mem_append_right _ h))) (by decide +kernel))) (goodIn_sub (fun _ h => List.mem_cons_of_mem _ (List.mem_append_right _ h)) (by decide +kernel))
set_option maxRecDepth 20000 in
theorem gL_ticket_X4_ticket : GoodIn wsL_ticket (wsV RL 17 RX4 yX4_ticket wsX4_ticket) := goodIn_app (goodIn_of _ (by decide +kernel)) ggL_ticket_X4_ticket
theorem dL_ticket_0 : decode cL_ticket 0 = .ok (.aload 4, 2) := by decide +kernel
theorem dL_ticket_2 : decode cL_ticket 2 = .ok (.iconst 0, 1) := by decide +kernel
theorem dL_ticket_3 : decode cL_ticket 3 = .ok (.aload_n 0, 1) := by decide +kernel
theorem dL_ticket_4 : decode cL_ticket 4 = .ok (.iload_n 1, 1) := by decide +kernel
theorem dL_ticket_5 : decode cL_ticket 5 = .ok (.iload_n 2, 1) := by decide +kernel
theorem dL_ticket_6 : decode cL_ticket 6 = .ok (.iload_n 3, 1) := by decide +kernel
theorem dL_ticket_7 : decode cL_ticket 7 = .ok (.invokevirtual 17, 3) := by decide +kernel
theorem dL_ticket_10 : decode cL_ticket 10 = .ok (.i2l, 1) := by decide +kernel
theorem dL_ticket_11 : decode cL_ticket 11 = .ok (.lastore, 1) := by decide +kernel
theorem dL_ticket_12 : decode cL_ticket 12 = .ok (.goto 11, 3) := by decide +kernel
theorem dL_ticket_15 : decode cL_ticket 15 = .ok (.astore 5, 2) := by decide +kernel
theorem dL_ticket_17 : decode cL_ticket 17 = .ok (.iconst 1, 1) := by decide +kernel
theorem dL_ticket_18 : decode cL_ticket 18 = .ok (.ireturn, 1) := by decide +kernel
theorem dL_ticket_19 : decode cL_ticket 19 = .ok (.astore 5, 2) := by decide +kernel
theorem dL_ticket_21 : decode cL_ticket 21 = .ok (.iconst 2, 1) := by decide +kernel
theorem dL_ticket_22 : decode cL_ticket 22 = .ok (.ireturn, 1) := by decide +kernel
theorem dL_ticket_23 : decode cL_ticket 23 = .ok (.iconst 0, 1) := by decide +kernel
theorem dL_ticket_24 : decode cL_ticket 24 = .ok (.ireturn, 1) := by decide +kernel
set_option maxRecDepth 20000 in
theorem ggL_job_X4_job : GoodIn wsL_job wsX4_job := goodIn_ca (goodIn_ca (goodIn_ca (goodIn_r _ [8, 9, 10, 11, 12, 13, 14, 15, 16, 17, 18, 19, 20, 21, 22, 23, 24, 7, 25, 26, 27, 28, 29, 30, 31, 32, 33, 34, 35, 36, 37, 38, 39, 40, 41, 42, 43, 44, 45, 46, 47, 48, 49, 50, 51, 52, 53, 54, 55, 56, 57, 58, 59, 60, 61, 62, 63, 64, 65, 66, 67, 68, 69, 70, 71, 72, 73, 74, 75] (by decide +kernel) (by decide +kernel)) (goodIn_sub (fun _ h => List.mem_cons_of_mem _ (List.mem_append_left _ (List.mem_append_left _ (List.mem_append_right _ h)))) (by decide +kernel))) (goodIn_sub (fun _ h => List.mem_cons_of_mem _ (List.mem_append_left _ (List.mem_append_right _ h))) (by decide +kernel))) (goodIn_sub (fun _ h => List.mem_cons_of_mem _ (List.mem_append_right _ h)) (by decide +kernel))
set_option maxRecDepth 20000 in
theorem gL_job_X4_job : GoodIn wsL_job (wsV RL 21 RX4 yX4_job wsX4_job) := goodIn_app (goodIn_of _ (by decide +kernel)) ggL_job_X4_job
theorem dL_job_0 : decode cL_job 0 = .ok (.aload 7, 2) := by decide +kernel
theorem dL_job_2 : decode cL_job 2 = .ok (.iconst 0, 1) := by decide +kernel
theorem dL_job_3 : decode cL_job 3 = .ok (.aload_n 0, 1) := by decide +kernel
theorem dL_job_4 : decode cL_job 4 = .ok (.iload_n 1, 1) := by decide +kernel
theorem dL_job_5 : decode cL_job 5 = .ok (.iload_n 2, 1) := by decide +kernel
theorem dL_job_6 : decode cL_job 6 = .ok (.iload_n 3, 1) := by decide +kernel
theorem dL_job_7 : decode cL_job 7 = .ok (.iload 4, 2) := by decide +kernel
theorem dL_job_9 : decode cL_job 9 = .ok (.lload 5, 2) := by decide +kernel
theorem dL_job_11 : decode cL_job 11 = .ok (.invokevirtual 21, 3) := by decide +kernel
theorem dL_job_14 : decode cL_job 14 = .ok (.i2l, 1) := by decide +kernel
theorem dL_job_15 : decode cL_job 15 = .ok (.lastore, 1) := by decide +kernel
theorem dL_job_16 : decode cL_job 16 = .ok (.goto 15, 3) := by decide +kernel
theorem dL_job_19 : decode cL_job 19 = .ok (.astore 8, 2) := by decide +kernel
theorem dL_job_21 : decode cL_job 21 = .ok (.iconst 1, 1) := by decide +kernel
theorem dL_job_22 : decode cL_job 22 = .ok (.ireturn, 1) := by decide +kernel
theorem dL_job_23 : decode cL_job 23 = .ok (.astore 8, 2) := by decide +kernel
theorem dL_job_25 : decode cL_job 25 = .ok (.iconst 2, 1) := by decide +kernel
theorem dL_job_26 : decode cL_job 26 = .ok (.ireturn, 1) := by decide +kernel
theorem dL_job_27 : decode cL_job 27 = .ok (.astore 8, 2) := by decide +kernel
theorem dL_job_29 : decode cL_job 29 = .ok (.iconst 3, 1) := by decide +kernel
theorem dL_job_30 : decode cL_job 30 = .ok (.ireturn, 1) := by decide +kernel
theorem dL_job_31 : decode cL_job 31 = .ok (.iconst 0, 1) := by decide +kernel
theorem dL_job_32 : decode cL_job 32 = .ok (.ireturn, 1) := by decide +kernel
set_option maxRecDepth 20000 in
theorem ggL_take_X4_take : GoodIn wsL_take wsX4_take := goodIn_ca (goodIn_ca (goodIn_ca (goodIn_r _ [8, 9, 10, 11, 12, 13, 14, 15, 16, 17, 18, 19, 7, 20, 21, 22, 23, 24, 25, 26, 27, 28, 29, 30, 31, 32, 33, 34, 35, 36, 37, 38, 39, 40, 41, 42, 43, 44, 45, 46, 47, 48, 49, 50, 51, 52, 53, 54, 55, 56, 57, 58, 59, 60, 61, 62, 63, 64, 65, 66, 67, 68, 69, 70, 71, 72, 73, 74, 75, 76, 77, 78, 79, 80, 81, 82, 83, 84, 85, 86, 87, 88, 89, 90, 91, 92, 93, 94, 95, 96, 97, 98, 99, 100, 101, 102, 103] (by decide +kernel) (by decide +kernel)) (goodIn_sub (fun _ h => List.mem_cons_of_mem _ (List.mem_append_left _ (List.mem_append_left _ (List.mem_append_right _ h)))) (by decide +kernel))) (goodIn_sub (fun _ h => List.mem_cons_of_mem _ (List.mem_append_left _ (List.mem_append_right _ h))) (by decide +kernel))) (goodIn_sub (fun _ h => List.mem_cons_of_mem _ (List.mem_append_right _ h)) (by decide +kernel))
set_option maxRecDepth 20000 in
theorem gL_take_X4_take : GoodIn wsL_take (wsV RL 27 RX4 yX4_take wsX4_take) := goodIn_app (goodIn_of _ (by decide +kernel)) ggL_take_X4_take
theorem dL_take_0 : decode cL_take 0 = .ok (.aload 4, 2) := by decide +kernel
theorem dL_take_2 : decode cL_take 2 = .ok (.iconst 0, 1) := by decide +kernel
theorem dL_take_3 : decode cL_take 3 = .ok (.aload_n 0, 1) := by decide +kernel
theorem dL_take_4 : decode cL_take 4 = .ok (.iload_n 1, 1) := by decide +kernel
theorem dL_take_5 : decode cL_take 5 = .ok (.lload_n 2, 1) := by decide +kernel
theorem dL_take_6 : decode cL_take 6 = .ok (.invokevirtual 27, 3) := by decide +kernel
theorem dL_take_9 : decode cL_take 9 = .ok (.i2l, 1) := by decide +kernel
theorem dL_take_10 : decode cL_take 10 = .ok (.lastore, 1) := by decide +kernel
theorem dL_take_11 : decode cL_take 11 = .ok (.goto 15, 3) := by decide +kernel
theorem dL_take_14 : decode cL_take 14 = .ok (.astore 5, 2) := by decide +kernel
theorem dL_take_16 : decode cL_take 16 = .ok (.iconst 1, 1) := by decide +kernel
theorem dL_take_17 : decode cL_take 17 = .ok (.ireturn, 1) := by decide +kernel
theorem dL_take_18 : decode cL_take 18 = .ok (.astore 5, 2) := by decide +kernel
theorem dL_take_20 : decode cL_take 20 = .ok (.iconst 2, 1) := by decide +kernel
theorem dL_take_21 : decode cL_take 21 = .ok (.ireturn, 1) := by decide +kernel
theorem dL_take_22 : decode cL_take 22 = .ok (.astore 5, 2) := by decide +kernel
theorem dL_take_24 : decode cL_take 24 = .ok (.iconst 3, 1) := by decide +kernel
theorem dL_take_25 : decode cL_take 25 = .ok (.ireturn, 1) := by decide +kernel
theorem dL_take_26 : decode cL_take 26 = .ok (.iconst 0, 1) := by decide +kernel
theorem dL_take_27 : decode cL_take 27 = .ok (.ireturn, 1) := by decide +kernel
set_option maxRecDepth 20000 in
theorem ggL_print_X4_print : GoodIn wsL_print wsX4_print := goodIn_ca (goodIn_ca (goodIn_r _ [7, 8, 9, 10, 11, 12, 13, 14, 15, 16, 17, 6, 18, 19, 20, 21, 22, 23, 24, 25, 26, 27, 28, 29, 30, 31, 32, 33, 34, 35, 36, 37, 38, 39, 40, 41, 42, 43, 44, 45, 46, 47, 48, 49, 50, 51, 52, 53, 54, 55, 56, 57, 58, 59, 60, 61, 62, 63, 64, 65, 66, 67, 68, 69, 70, 71, 72, 73, 74, 75, 76, 77, 78, 79, 80, 81, 82, 83, 84, 85, 86, 87, 88, 89] (by decide +kernel) (by decide +kernel)) (goodIn_sub (fun _ h => List.mem_cons_of_mem _ (List.mem_append_left _ (List.mem_append_right _ h))) (by decide +kernel))) (goodIn_sub (fun _ h => List.mem_cons_of_mem _ (List.mem_append_right _ h)) (by decide +kernel))
set_option maxRecDepth 20000 in
theorem gL_print_X4_print : GoodIn wsL_print (wsV RL 33 RX4 yX4_print wsX4_print) := goodIn_app (goodIn_of _ (by decide +kernel)) ggL_print_X4_print
theorem dL_print_0 : decode cL_print 0 = .ok (.aload_n 3, 1) := by decide +kernel
theorem dL_print_1 : decode cL_print 1 = .ok (.iconst 0, 1) := by decide +kernel
theorem dL_print_2 : decode cL_print 2 = .ok (.aload_n 0, 1) := by decide +kernel
theorem dL_print_3 : decode cL_print 3 = .ok (.iload_n 1, 1) := by decide +kernel
theorem dL_print_4 : decode cL_print 4 = .ok (.iload_n 2, 1) := by decide +kernel
theorem dL_print_5 : decode cL_print 5 = .ok (.invokevirtual 33, 3) := by decide +kernel
theorem dL_print_8 : decode cL_print 8 = .ok (.i2l, 1) := by decide +kernel
theorem dL_print_9 : decode cL_print 9 = .ok (.lastore, 1) := by decide +kernel
theorem dL_print_10 : decode cL_print 10 = .ok (.goto 11, 3) := by decide +kernel
theorem dL_print_13 : decode cL_print 13 = .ok (.astore 4, 2) := by decide +kernel
theorem dL_print_15 : decode cL_print 15 = .ok (.iconst 1, 1) := by decide +kernel
theorem dL_print_16 : decode cL_print 16 = .ok (.ireturn, 1) := by decide +kernel
theorem dL_print_17 : decode cL_print 17 = .ok (.astore 4, 2) := by decide +kernel
theorem dL_print_19 : decode cL_print 19 = .ok (.iconst 2, 1) := by decide +kernel
theorem dL_print_20 : decode cL_print 20 = .ok (.ireturn, 1) := by decide +kernel
theorem dL_print_21 : decode cL_print 21 = .ok (.iconst 0, 1) := by decide +kernel
theorem dL_print_22 : decode cL_print 22 = .ok (.ireturn, 1) := by decide +kernel
set_option maxRecDepth 20000 in
theorem ggL_fault_X4_fault : GoodIn wsL_fault wsX4_fault := goodIn_ca (goodIn_r _ [6, 7, 8, 9, 10, 11, 12, 5, 13, 14, 15, 16, 17, 18, 19, 20, 21, 22, 23, 24, 25, 26, 27, 28, 29, 30, 31, 32, 33, 34, 35, 36, 37, 38, 39, 40, 41, 42, 43, 44, 45, 46, 47, 48, 49, 50, 51, 52, 53, 54, 55, 56, 57, 58, 59, 60, 61, 62, 63, 64, 65, 66, 67, 68, 69] (by decide +kernel) (by decide +kernel)) (goodIn_sub (fun _ h => List.mem_cons_of_mem _ (List.mem_append_right _ h)) (by decide +kernel))
set_option maxRecDepth 20000 in
theorem gL_fault_X4_fault : GoodIn wsL_fault (wsV RL 36 RX4 yX4_fault wsX4_fault) := goodIn_app (goodIn_of _ (by decide +kernel)) ggL_fault_X4_fault
theorem dL_fault_0 : decode cL_fault 0 = .ok (.aload_n 2, 1) := by decide +kernel
theorem dL_fault_1 : decode cL_fault 1 = .ok (.iconst 0, 1) := by decide +kernel
theorem dL_fault_2 : decode cL_fault 2 = .ok (.aload_n 0, 1) := by decide +kernel
theorem dL_fault_3 : decode cL_fault 3 = .ok (.iload_n 1, 1) := by decide +kernel
theorem dL_fault_4 : decode cL_fault 4 = .ok (.invokevirtual 36, 3) := by decide +kernel
theorem dL_fault_7 : decode cL_fault 7 = .ok (.i2l, 1) := by decide +kernel
theorem dL_fault_8 : decode cL_fault 8 = .ok (.lastore, 1) := by decide +kernel
theorem dL_fault_9 : decode cL_fault 9 = .ok (.goto 6, 3) := by decide +kernel
theorem dL_fault_12 : decode cL_fault 12 = .ok (.astore_n 3, 1) := by decide +kernel
theorem dL_fault_13 : decode cL_fault 13 = .ok (.iconst 1, 1) := by decide +kernel
theorem dL_fault_14 : decode cL_fault 14 = .ok (.ireturn, 1) := by decide +kernel
theorem dL_fault_15 : decode cL_fault 15 = .ok (.iconst 0, 1) := by decide +kernel
theorem dL_fault_16 : decode cL_fault 16 = .ok (.ireturn, 1) := by decide +kernel
set_option maxRecDepth 20000 in
theorem ggL_hold_X4_hold : GoodIn wsL_hold wsX4_hold := goodIn_ca (goodIn_r _ [6, 7, 8, 9, 10, 5, 11, 12, 13, 14, 15, 16, 17, 18, 19, 20, 21, 22, 23, 24, 25, 26, 27, 28, 29, 30, 31, 32, 33, 34, 35, 36, 37, 38, 39] (by decide +kernel) (by decide +kernel)) (goodIn_sub (fun _ h => List.mem_cons_of_mem _ (List.mem_append_right _ h)) (by decide +kernel))
set_option maxRecDepth 20000 in
theorem gL_hold_X4_hold : GoodIn wsL_hold (wsV RL 40 RX4 yX4_hold wsX4_hold) := goodIn_app (goodIn_of _ (by decide +kernel)) ggL_hold_X4_hold
theorem dL_hold_0 : decode cL_hold 0 = .ok (.aload_n 3, 1) := by decide +kernel
theorem dL_hold_1 : decode cL_hold 1 = .ok (.iconst 0, 1) := by decide +kernel
theorem dL_hold_2 : decode cL_hold 2 = .ok (.aload_n 0, 1) := by decide +kernel
theorem dL_hold_3 : decode cL_hold 3 = .ok (.iload_n 1, 1) := by decide +kernel
theorem dL_hold_4 : decode cL_hold 4 = .ok (.iload_n 2, 1) := by decide +kernel
theorem dL_hold_5 : decode cL_hold 5 = .ok (.invokevirtual 40, 3) := by decide +kernel
theorem dL_hold_8 : decode cL_hold 8 = .ok (.i2l, 1) := by decide +kernel
theorem dL_hold_9 : decode cL_hold 9 = .ok (.lastore, 1) := by decide +kernel
theorem dL_hold_10 : decode cL_hold 10 = .ok (.goto 7, 3) := by decide +kernel
theorem dL_hold_13 : decode cL_hold 13 = .ok (.astore 4, 2) := by decide +kernel
theorem dL_hold_15 : decode cL_hold 15 = .ok (.iconst 1, 1) := by decide +kernel
theorem dL_hold_16 : decode cL_hold 16 = .ok (.ireturn, 1) := by decide +kernel
theorem dL_hold_17 : decode cL_hold 17 = .ok (.iconst 0, 1) := by decide +kernel
theorem dL_hold_18 : decode cL_hold 18 = .ok (.ireturn, 1) := by decide +kernel
set_option maxRecDepth 20000 in
theorem ggL_cancel_X4_cancel : GoodIn wsL_cancel wsX4_cancel := goodIn_ca (goodIn_r _ [6, 7, 8, 9, 10, 11, 12, 13, 5, 14, 15, 16, 17, 18, 19, 20, 21, 22, 23, 24, 25, 26, 27, 28, 29, 30, 31, 32, 33, 34, 35, 36, 37, 38, 39, 40, 41, 42, 43, 44, 45, 46, 47, 48, 49, 50, 51, 52, 53, 54, 55, 56, 57, 58, 59] (by decide +kernel) (by decide +kernel)) (goodIn_sub (fun _ h => List.mem_cons_of_mem _ (List.mem_append_right _ h)) (by decide +kernel))
set_option maxRecDepth 20000 in
theorem gL_cancel_X4_cancel : GoodIn wsL_cancel (wsV RL 44 RX4 yX4_cancel wsX4_cancel) := goodIn_app (goodIn_of _ (by decide +kernel)) ggL_cancel_X4_cancel
theorem dL_cancel_0 : decode cL_cancel 0 = .ok (.aload_n 2, 1) := by decide +kernel
theorem dL_cancel_1 : decode cL_cancel 1 = .ok (.iconst 0, 1) := by decide +kernel
theorem dL_cancel_2 : decode cL_cancel 2 = .ok (.aload_n 0, 1) := by decide +kernel
theorem dL_cancel_3 : decode cL_cancel 3 = .ok (.iload_n 1, 1) := by decide +kernel
theorem dL_cancel_4 : decode cL_cancel 4 = .ok (.invokevirtual 44, 3) := by decide +kernel
theorem dL_cancel_7 : decode cL_cancel 7 = .ok (.i2l, 1) := by decide +kernel
theorem dL_cancel_8 : decode cL_cancel 8 = .ok (.lastore, 1) := by decide +kernel
theorem dL_cancel_9 : decode cL_cancel 9 = .ok (.goto 6, 3) := by decide +kernel
theorem dL_cancel_12 : decode cL_cancel 12 = .ok (.astore_n 3, 1) := by decide +kernel
theorem dL_cancel_13 : decode cL_cancel 13 = .ok (.iconst 1, 1) := by decide +kernel
theorem dL_cancel_14 : decode cL_cancel 14 = .ok (.ireturn, 1) := by decide +kernel
theorem dL_cancel_15 : decode cL_cancel 15 = .ok (.iconst 0, 1) := by decide +kernel
theorem dL_cancel_16 : decode cL_cancel 16 = .ok (.ireturn, 1) := by decide +kernel
set_option maxRecDepth 20000 in
theorem ggL_state_X4_state : GoodIn wsL_state wsX4_state := goodIn_ca (goodIn_ca (goodIn_r _ [7, 8, 9, 10, 11, 12, 13, 6, 14, 15, 16, 17, 18, 19, 20, 21, 22, 23, 24, 25, 26, 27, 28, 29, 30, 31, 32, 33, 34, 35, 36, 37, 38, 39, 40, 41, 42, 43, 44, 45, 46, 47, 48, 49, 50, 51, 52, 53, 54, 55, 56, 57, 58, 59, 60, 61, 62, 63, 64, 65, 66, 67, 68, 69, 70, 71, 72, 73, 74, 75, 76, 77] (by decide +kernel) (by decide +kernel)) (goodIn_sub (fun _ h => List.mem_cons_of_mem _ (List.mem_append_left _ (List.mem_append_right _ h))) (by decide +kernel))) (goodIn_sub (fun _ h => List.mem_cons_of_mem _ (List.mem_append_right _ h)) (by decide +kernel))
set_option maxRecDepth 20000 in
theorem gL_state_X4_state : GoodIn wsL_state (wsV RL 47 RX4 yX4_state wsX4_state) := goodIn_app (goodIn_of _ (by decide +kernel)) ggL_state_X4_state
theorem dL_state_0 : decode cL_state 0 = .ok (.aload_n 3, 1) := by decide +kernel
theorem dL_state_1 : decode cL_state 1 = .ok (.iconst 0, 1) := by decide +kernel
theorem dL_state_2 : decode cL_state 2 = .ok (.aload_n 0, 1) := by decide +kernel
theorem dL_state_3 : decode cL_state 3 = .ok (.iload_n 1, 1) := by decide +kernel
theorem dL_state_4 : decode cL_state 4 = .ok (.iload_n 2, 1) := by decide +kernel
theorem dL_state_5 : decode cL_state 5 = .ok (.invokevirtual 47, 3) := by decide +kernel
theorem dL_state_8 : decode cL_state 8 = .ok (.i2l, 1) := by decide +kernel
theorem dL_state_9 : decode cL_state 9 = .ok (.lastore, 1) := by decide +kernel
theorem dL_state_10 : decode cL_state 10 = .ok (.goto 11, 3) := by decide +kernel
theorem dL_state_13 : decode cL_state 13 = .ok (.astore 4, 2) := by decide +kernel
theorem dL_state_15 : decode cL_state 15 = .ok (.iconst 1, 1) := by decide +kernel
theorem dL_state_16 : decode cL_state 16 = .ok (.ireturn, 1) := by decide +kernel
theorem dL_state_17 : decode cL_state 17 = .ok (.astore 4, 2) := by decide +kernel
theorem dL_state_19 : decode cL_state 19 = .ok (.iconst 2, 1) := by decide +kernel
theorem dL_state_20 : decode cL_state 20 = .ok (.ireturn, 1) := by decide +kernel
theorem dL_state_21 : decode cL_state 21 = .ok (.iconst 0, 1) := by decide +kernel
theorem dL_state_22 : decode cL_state 22 = .ok (.ireturn, 1) := by decide +kernel
set_option maxRecDepth 20000 in
theorem ggL_doubled_X4_doubled : GoodIn wsL_doubled wsX4_doubled := goodIn_ca (goodIn_ca (goodIn_r _ [7, 8, 9, 10, 11, 12, 13, 14, 15, 16, 6, 17, 18, 19, 20, 21, 22, 23, 24, 25, 26, 27, 28, 29, 30, 31, 32, 33, 34, 35, 36, 37, 38, 39, 40, 41, 42] (by decide +kernel) (by decide +kernel)) (goodIn_sub (fun _ h => List.mem_cons_of_mem _ (List.mem_append_left _ (List.mem_append_right _ h))) (by decide +kernel))) (goodIn_sub (fun _ h => List.mem_cons_of_mem _ (List.mem_append_right _ h)) (by decide +kernel))
set_option maxRecDepth 20000 in
theorem gL_doubled_X4_doubled : GoodIn wsL_doubled (wsV RL 52 RX4 yX4_doubled wsX4_doubled) := goodIn_app (goodIn_of _ (by decide +kernel)) ggL_doubled_X4_doubled
theorem dL_doubled_0 : decode cL_doubled 0 = .ok (.aload_n 3, 1) := by decide +kernel
theorem dL_doubled_1 : decode cL_doubled 1 = .ok (.iconst 0, 1) := by decide +kernel
theorem dL_doubled_2 : decode cL_doubled 2 = .ok (.aload_n 0, 1) := by decide +kernel
theorem dL_doubled_3 : decode cL_doubled 3 = .ok (.iload_n 1, 1) := by decide +kernel
theorem dL_doubled_4 : decode cL_doubled 4 = .ok (.iload_n 2, 1) := by decide +kernel
theorem dL_doubled_5 : decode cL_doubled 5 = .ok (.invokevirtual 52, 3) := by decide +kernel
theorem dL_doubled_8 : decode cL_doubled 8 = .ok (.i2l, 1) := by decide +kernel
theorem dL_doubled_9 : decode cL_doubled 9 = .ok (.lastore, 1) := by decide +kernel
theorem dL_doubled_10 : decode cL_doubled 10 = .ok (.goto 11, 3) := by decide +kernel
theorem dL_doubled_13 : decode cL_doubled 13 = .ok (.astore 4, 2) := by decide +kernel
theorem dL_doubled_15 : decode cL_doubled 15 = .ok (.iconst 1, 1) := by decide +kernel
theorem dL_doubled_16 : decode cL_doubled 16 = .ok (.ireturn, 1) := by decide +kernel
theorem dL_doubled_17 : decode cL_doubled 17 = .ok (.astore 4, 2) := by decide +kernel
theorem dL_doubled_19 : decode cL_doubled 19 = .ok (.iconst 2, 1) := by decide +kernel
theorem dL_doubled_20 : decode cL_doubled 20 = .ok (.ireturn, 1) := by decide +kernel
theorem dL_doubled_21 : decode cL_doubled 21 = .ok (.iconst 0, 1) := by decide +kernel
theorem dL_doubled_22 : decode cL_doubled 22 = .ok (.ireturn, 1) := by decide +kernel
set_option maxRecDepth 20000 in
theorem ggL_account_X4_account : GoodIn wsL_account wsX4_account := goodIn_ca (goodIn_ca (goodIn_r _ [7, 8, 9, 10, 11, 12, 13, 14, 15, 16, 6, 17, 18, 19, 20, 21, 22, 23, 24, 25, 26, 27, 28, 29, 30, 31, 32, 33, 34, 35, 36, 37, 38, 39, 40] (by decide +kernel) (by decide +kernel)) (goodIn_sub (fun _ h => List.mem_cons_of_mem _ (List.mem_append_left _ (List.mem_append_right _ h))) (by decide +kernel))) (goodIn_sub (fun _ h => List.mem_cons_of_mem _ (List.mem_append_right _ h)) (by decide +kernel))
set_option maxRecDepth 20000 in
theorem gL_account_X4_account : GoodIn wsL_account (wsV RL 55 RX4 yX4_account wsX4_account) := goodIn_app (goodIn_of _ (by decide +kernel)) ggL_account_X4_account
theorem dL_account_0 : decode cL_account 0 = .ok (.aload_n 3, 1) := by decide +kernel
theorem dL_account_1 : decode cL_account 1 = .ok (.iconst 0, 1) := by decide +kernel
theorem dL_account_2 : decode cL_account 2 = .ok (.aload_n 0, 1) := by decide +kernel
theorem dL_account_3 : decode cL_account 3 = .ok (.iload_n 1, 1) := by decide +kernel
theorem dL_account_4 : decode cL_account 4 = .ok (.iload_n 2, 1) := by decide +kernel
theorem dL_account_5 : decode cL_account 5 = .ok (.invokevirtual 55, 3) := by decide +kernel
theorem dL_account_8 : decode cL_account 8 = .ok (.lastore, 1) := by decide +kernel
theorem dL_account_9 : decode cL_account 9 = .ok (.goto 11, 3) := by decide +kernel
theorem dL_account_12 : decode cL_account 12 = .ok (.astore 4, 2) := by decide +kernel
theorem dL_account_14 : decode cL_account 14 = .ok (.iconst 1, 1) := by decide +kernel
theorem dL_account_15 : decode cL_account 15 = .ok (.ireturn, 1) := by decide +kernel
theorem dL_account_16 : decode cL_account 16 = .ok (.astore 4, 2) := by decide +kernel
theorem dL_account_18 : decode cL_account 18 = .ok (.iconst 2, 1) := by decide +kernel
theorem dL_account_19 : decode cL_account 19 = .ok (.ireturn, 1) := by decide +kernel
theorem dL_account_20 : decode cL_account 20 = .ok (.iconst 0, 1) := by decide +kernel
theorem dL_account_21 : decode cL_account 21 = .ok (.ireturn, 1) := by decide +kernel
set_option maxRecDepth 20000 in
theorem ggL_reason_X4_reason : GoodIn wsL_reason wsX4_reason := goodIn_ca (goodIn_r _ [6, 7, 8, 9, 10, 11, 12, 5, 13, 14, 15, 16, 17, 18, 19, 20, 21, 22, 23, 24, 25, 26, 27, 28, 29, 30, 31, 32, 33, 34, 35, 36, 37, 38, 39, 40, 41, 42, 43, 44, 45, 46, 47, 48, 49, 50, 51, 52, 53, 54, 55, 56, 57, 58, 59, 60, 61, 62, 63, 64, 65, 66, 67, 68, 69, 70, 71, 72, 73, 74, 75, 76, 77, 78, 79, 80, 81, 82, 83, 84, 85, 86, 87, 88] (by decide +kernel) (by decide +kernel)) (goodIn_sub (fun _ h => List.mem_cons_of_mem _ (List.mem_append_right _ h)) (by decide +kernel))
set_option maxRecDepth 20000 in
theorem gL_reason_X4_reason : GoodIn wsL_reason (wsV RL 59 RX4 yX4_reason wsX4_reason) := goodIn_app (goodIn_of _ (by decide +kernel)) ggL_reason_X4_reason
theorem dL_reason_0 : decode cL_reason 0 = .ok (.aload_n 2, 1) := by decide +kernel
theorem dL_reason_1 : decode cL_reason 1 = .ok (.iconst 0, 1) := by decide +kernel
theorem dL_reason_2 : decode cL_reason 2 = .ok (.aload_n 0, 1) := by decide +kernel
theorem dL_reason_3 : decode cL_reason 3 = .ok (.iload_n 1, 1) := by decide +kernel
theorem dL_reason_4 : decode cL_reason 4 = .ok (.invokevirtual 59, 3) := by decide +kernel
theorem dL_reason_7 : decode cL_reason 7 = .ok (.i2l, 1) := by decide +kernel
theorem dL_reason_8 : decode cL_reason 8 = .ok (.lastore, 1) := by decide +kernel
theorem dL_reason_9 : decode cL_reason 9 = .ok (.goto 6, 3) := by decide +kernel
theorem dL_reason_12 : decode cL_reason 12 = .ok (.astore_n 3, 1) := by decide +kernel
theorem dL_reason_13 : decode cL_reason 13 = .ok (.iconst 1, 1) := by decide +kernel
theorem dL_reason_14 : decode cL_reason 14 = .ok (.ireturn, 1) := by decide +kernel
theorem dL_reason_15 : decode cL_reason 15 = .ok (.iconst 0, 1) := by decide +kernel
theorem dL_reason_16 : decode cL_reason 16 = .ok (.ireturn, 1) := by decide +kernel
set_option maxRecDepth 20000 in
theorem ggL_split_X4_split : GoodIn wsL_split wsX4_split := goodIn_ca (goodIn_r _ [6, 7, 8, 9, 10, 11, 12, 13, 14, 15, 16, 5, 17, 18, 19, 20, 21, 22, 23, 24, 25, 26, 27, 28, 29, 30, 31, 32, 33, 34, 35, 36, 37, 38, 39, 40, 41, 42, 43, 44, 45, 46, 47, 48, 49, 50, 51, 52, 53, 54, 55, 56, 57, 58, 59, 60, 61, 62, 63, 64, 65, 66, 67, 68, 69, 70, 71, 72, 73, 74, 75, 76, 77, 78, 79, 80] (by decide +kernel) (by decide +kernel)) (goodIn_sub (fun _ h => List.mem_cons_of_mem _ (List.mem_append_right _ h)) (by decide +kernel))
set_option maxRecDepth 20000 in
theorem gL_split_X4_split : GoodIn wsL_split (wsV RL 62 RX4 yX4_split wsX4_split) := goodIn_app (goodIn_of _ (by decide +kernel)) ggL_split_X4_split
theorem dL_split_0 : decode cL_split 0 = .ok (.aload 4, 2) := by decide +kernel
theorem dL_split_2 : decode cL_split 2 = .ok (.iconst 0, 1) := by decide +kernel
theorem dL_split_3 : decode cL_split 3 = .ok (.aload_n 0, 1) := by decide +kernel
theorem dL_split_4 : decode cL_split 4 = .ok (.iload_n 1, 1) := by decide +kernel
theorem dL_split_5 : decode cL_split 5 = .ok (.iload_n 2, 1) := by decide +kernel
theorem dL_split_6 : decode cL_split 6 = .ok (.iload_n 3, 1) := by decide +kernel
theorem dL_split_7 : decode cL_split 7 = .ok (.invokevirtual 62, 3) := by decide +kernel
theorem dL_split_10 : decode cL_split 10 = .ok (.i2l, 1) := by decide +kernel
theorem dL_split_11 : decode cL_split 11 = .ok (.lastore, 1) := by decide +kernel
theorem dL_split_12 : decode cL_split 12 = .ok (.goto 7, 3) := by decide +kernel
theorem dL_split_15 : decode cL_split 15 = .ok (.astore 5, 2) := by decide +kernel
theorem dL_split_17 : decode cL_split 17 = .ok (.iconst 1, 1) := by decide +kernel
theorem dL_split_18 : decode cL_split 18 = .ok (.ireturn, 1) := by decide +kernel
theorem dL_split_19 : decode cL_split 19 = .ok (.iconst 0, 1) := by decide +kernel
theorem dL_split_20 : decode cL_split 20 = .ok (.ireturn, 1) := by decide +kernel
set_option maxRecDepth 20000 in
theorem ggL_like_X4_like : GoodIn wsL_like wsX4_like := goodIn_ca (goodIn_r _ [6, 7, 8, 9, 10, 11, 5, 12, 13, 14, 15, 16, 17, 18, 19, 20, 21, 22, 23] (by decide +kernel) (by decide +kernel)) (goodIn_sub (fun _ h => List.mem_cons_of_mem _ (List.mem_append_right _ h)) (by decide +kernel))
set_option maxRecDepth 20000 in
theorem gL_like_X4_like : GoodIn wsL_like (wsV RL 65 RX4 yX4_like wsX4_like) := goodIn_app (goodIn_of _ (by decide +kernel)) ggL_like_X4_like
theorem dL_like_0 : decode cL_like 0 = .ok (.aload_n 2, 1) := by decide +kernel
theorem dL_like_1 : decode cL_like 1 = .ok (.iconst 0, 1) := by decide +kernel
theorem dL_like_2 : decode cL_like 2 = .ok (.aload_n 0, 1) := by decide +kernel
theorem dL_like_3 : decode cL_like 3 = .ok (.iload_n 1, 1) := by decide +kernel
theorem dL_like_4 : decode cL_like 4 = .ok (.invokevirtual 65, 3) := by decide +kernel
theorem dL_like_7 : decode cL_like 7 = .ok (.i2l, 1) := by decide +kernel
theorem dL_like_8 : decode cL_like 8 = .ok (.lastore, 1) := by decide +kernel
theorem dL_like_9 : decode cL_like 9 = .ok (.goto 6, 3) := by decide +kernel
theorem dL_like_12 : decode cL_like 12 = .ok (.astore_n 3, 1) := by decide +kernel
theorem dL_like_13 : decode cL_like 13 = .ok (.iconst 1, 1) := by decide +kernel
theorem dL_like_14 : decode cL_like 14 = .ok (.ireturn, 1) := by decide +kernel
theorem dL_like_15 : decode cL_like 15 = .ok (.iconst 0, 1) := by decide +kernel
theorem dL_like_16 : decode cL_like 16 = .ok (.ireturn, 1) := by decide +kernel
theorem f_X4_printer {n : Nat → Nat} {ad : Nat → Nat → Nat} {C : q_S} {a b : Int} {r : Int32} {u : q_U} (h : tX4_printer n ad C a b r u) : u.2.1 4 0 = ad 4 0 ∧ u.2.1 5 0 = ad 5 0 ∧ u.2.1 50 0 = ad 50 0 ∧ ∀ k, 4 ≤ k → u.1 k = n k := by
  rcases h with ⟨ad1, p0_h_1, p1_h_3, p2_h_6, p3_hpr1, rfl, -⟩
  · exact ⟨(p3_hpr1 4 0 (fun q => absurd q.1 (by decide))), (p3_hpr1 5 0 (fun q => absurd q.1 (by decide))), (p3_hpr1 50 0 (fun q => absurd q.1 (by decide))), fun k hk => (by simp only [q_bump]; split <;> omega)⟩
def pL_printer (n : Nat → Nat) (ad : Nat → Nat → Nat) (C : q_S) (a b : Int) (r : Int32) (u : q_U) : Prop :=
  (∃ (v : q_U) (z : Int), R32 z ∧ tX4_printer n ad C a b (iI z) v ∧ u = (v.1, v.2.1, q_up v.2.2 50 0 0 z) ∧ r = iI 0) ∨
  (xX4_printer n C a b "java/lang/IllegalArgumentException" ∧ u = (n, ad, C) ∧ r = iI 1) ∨
  (xX4_printer n C a b "java/lang/UnsupportedOperationException" ∧ u = (n, ad, C) ∧ r = iI 2)
set_option maxHeartbeats 4000000 in
set_option maxRecDepth 100000 in
theorem c_L_printer (l : Launch) (htr : l.stackTraces = false) (g : q_G) (s0 : Nat) (n : Nat → Nat) (ad : Nat → Nat → Nat) (C : q_S) (c0 : Nat) (hC : c_S C n) (hR : c_R C n c0) (hc0 : c0 ≤ 511) (h50 : 0 < n 50) (a b : Int) (ha : R32 a) (hb : R32 b) : Met l yL_printer wsL_printer ({ frames := 7, cells := 1, slots := 6, locals := 112 }) (va_Pc [.ref (ad 4 0), .int (iI a), .int (iI b), .ref (ad 50 0)] (q_B g s0 (n, ad, C))) (va_Qi (pL_printer n ad C a b) (q_B g s0) (q_A s0)) 1 6 (q_A s0) := by
  refine va_MetW (cc := cL_printer) (maxL := 5) (ret := (some .int)) (hh := [(0, 10, 13, 13), (0, 10, 17, 15)]) (by decide) rfl ?_
  intro p e s m args below meth c s₁ B hml hv
  obtain ⟨rfl, hv⟩ := hv
  have hr := B.returns
  have hlocks := B.notSynchronized
  obtain ⟨X, hP⟩ := q_start B.exec B.bytes hml (show s.vm.findClass RL = some m.cls from findClass_of_methodNamed B.named) (atoms_spec (ws := wsL_printer) B.pre) hv
  have hP : q_P g s0 n ad C s.heap := hP
  have hS : va_S (q_A s0) s.heap s.heap [] := va_S.rf
  have h4 : 0 < n 4 := c_v4 hC
  have htb : c.exceptionTable.toList = [⟨0, 10, 13, 13⟩, ⟨0, 10, 17, 15⟩] := vx_table (x := yL_printer) (hh := [(0, 10, 13, 13), (0, 10, 17, 15)]) B (X.2.2.2.2.1 _ List.mem_cons_self)
  have hl := lv_entry ([.ref (ad 4 0), .int (iI a), .int (iI b), .ref (ad 50 0)]) (n := 5) (Nat.le_of_ble_eq_true rfl)
  rw [lg_entry_eq]
  generalize (lg_sl ([.ref (ad 4 0), .int (iI a), .int (iI b), .ref (ad 50 0)]) ++ List.replicate (5 - (lg_sl ([.ref (ad 4 0), .int (iI a), .int (iI b), .ref (ad 50 0)])).length) Slot.unset).toArray = ls at hl ⊢
  have hl : lv_has ls 5 [(0, .ref (ad 4 0)), (1, .int (iI a)), (2, .int (iI b)), (3, .ref (ad 50 0))] := hl
  refine lv_aload_n X.1 X.2.1 dL_printer_0 rfl (lv_at hl 3 rfl) ?_
  refine lv_iconst (v := iI (0)) X.1 X.2.1 dL_printer_1 rfl ?_
  refine lv_aload_n X.1 X.2.1 dL_printer_2 rfl (lv_at hl 0 rfl) ?_
  refine lv_iload_n X.1 X.2.1 dL_printer_3 rfl (lv_at hl 1 rfl) ?_
  refine lv_iload_n X.1 X.2.1 dL_printer_4 rfl (lv_at hl 2 rfl) ?_
  refine vx_calli (vx_runV (As := [.int (iI a), .int (iI b)]) (rest := [.int (iI (0)), .ref (ad 50 0)]) X.fix (c_X4_printer l htr g s0 n ad C c0 hC hR hc0 a b ha hb) (cwV 2 X.2.2.2.2.1 gL_printer_X4_printer rfl rfl rfl (by decide +kernel) ⟨Nat.le_of_ble_eq_true rfl, Nat.le_of_ble_eq_true rfl⟩) (q_preV X hP hS [.int (iI a), .int (iI b)] (kd := 4) (by decide) rfl h4) rfl rfl hl.1 rfl (lv_room (Nat.le_of_ble_eq_true rfl)) dL_printer_5 ⟨Nat.le_of_ble_eq_true rfl, Nat.le_of_ble_eq_true rfl⟩) hS q_id q_id1 q_id ?_ (fun r u t H locs ht hvm hw hB hz1 hk1 hS => ?_)
  · intro E ce q9 u t H locs ht hvm hpx hBX hz1 hk1 hS hce hcv hcl
    have hP : q_P g s0 n ad C H := q_back hBX.2 ht
    have hZW := X.2.2.2.2.2.2.1.2.2
    have hE : (E = "java/lang/IllegalArgumentException" ∧ xX4_printer n C a b "java/lang/IllegalArgumentException") ∨ (E = "java/lang/UnsupportedOperationException" ∧ xX4_printer n C a b "java/lang/UnsupportedOperationException") := by
      have hx := hBX.1
      unfold xX4_printer at hx ⊢
      rcases hx with hx | hx | hx
      · exact Or.inr (⟨hx.1, Or.inl ⟨rfl, hx.2⟩⟩)
      · exact Or.inl ⟨hx.1, Or.inr (Or.inl ⟨rfl, hx.2⟩)⟩
      · exact Or.inl ⟨hx.1, Or.inr (Or.inr (⟨rfl, hx.2⟩))⟩
    rcases hE with ⟨rfl, hE⟩ | ⟨rfl, hE⟩
    · refine vx_catch (own := RL) (name := "java/lang/IllegalArgumentException") X.2.2.2.1 [] ⟨0, 10, 13, 13⟩ [⟨0, 10, 17, 15⟩] htb (fun z hz => absurd hz List.not_mem_nil) (by decide) (by decide) (X.2.2.2.2.1 _ (by decide +kernel)) (va_Nw.use rfl (hZW.2.1 _ (by decide))) hce hcv hcl ?_
      refine lv_astore (lv' := [(4, .ref q9), (0, .ref (ad 4 0)), (1, .int (iI a)), (2, .int (iI b)), (3, .ref (ad 50 0))]) X.1 X.2.1 dL_printer_13 hl (by decide) rfl (fun ls hl => ?_)
      refine lv_iconst (v := iI (1)) X.1 X.2.1 dL_printer_15 rfl ?_
      exact q_iret X hr hlocks hP hS (Or.inr (Or.inl ⟨hE, rfl, rfl⟩)) (Nat.le_of_ble_eq_true rfl) (Nat.le_of_ble_eq_true rfl) dL_printer_16
    · refine vx_catch (own := RL) (name := "java/lang/UnsupportedOperationException") X.2.2.2.1 [⟨0, 10, 13, 13⟩] ⟨0, 10, 17, 15⟩ [] htb (fun z hz => by simp only [List.mem_cons, List.not_mem_nil, or_false] at hz; subst hz; exact Or.inr ⟨by decide, "java/lang/IllegalArgumentException", X.2.2.2.2.1 _ (by decide +kernel), hZW.2.2 _ (by decide) _ (by decide) (by decide)⟩) (by decide) (by decide) (X.2.2.2.2.1 _ (by decide +kernel)) (va_Nw.use rfl (hZW.2.1 _ (by decide))) hce hcv hcl ?_
      refine lv_astore (lv' := [(4, .ref q9), (0, .ref (ad 4 0)), (1, .int (iI a)), (2, .int (iI b)), (3, .ref (ad 50 0))]) X.1 X.2.1 dL_printer_17 hl (by decide) rfl (fun ls hl => ?_)
      refine lv_iconst (v := iI (2)) X.1 X.2.1 dL_printer_19 rfl ?_
      exact q_iret X hr hlocks hP hS (Or.inr (Or.inr (⟨hE, rfl, rfl⟩))) (Nat.le_of_ble_eq_true rfl) (Nat.le_of_ble_eq_true rfl) dL_printer_20
  · obtain ⟨n1, ad1, C1⟩ := u
    have hf := f_X4_printer hw
    have hP : q_P g s0 n1 ad1 C1 H := q_back hB ht
    obtain ⟨z, hzr, rfl⟩ := iI_of r
    have e50 : ad 50 0 = ad1 50 0 := hf.2.2.1.symm
    have h51 : 0 < n1 50 := by have := hf.2.2.2 50 (by decide); dsimp only at this; omega
    refine W.eq (g2 := F0 m 8 ls [.int (iI z), .int (iI (0)), .ref (ad1 50 0)]) (by rw [e50]; first | done | rfl) ?_
    have hl : lv_has ls 5 [(1, .int (iI a)), (2, .int (iI b))] := lv_sub hl [1, 2] rfl
    refine q_i2l X hzr dL_printer_8 ?_
    refine q_lstv (len := 1) (x := z) (z := (0)) X hP hS 50 0 (by decide) rfl rfl h51 rfl (by decide) (by decide) (q_3264 hzr) dL_printer_9 (fun H locs hP hS => ?_)
    have hP : q_P g s0 n1 ad1 (q_up C1 50 0 0 z) H := hP
    refine lv_goto (tgt := 21) X.1 X.2.1 dL_printer_10 (by decide) ?_
    refine lv_iconst (v := iI (0)) X.1 X.2.1 dL_printer_21 rfl ?_
    exact q_iret X hr hlocks hP hS (Or.inl ⟨_, z, hzr, hw, rfl, rfl⟩) (Nat.le_of_ble_eq_true rfl) (Nat.le_of_ble_eq_true rfl) dL_printer_22
theorem f_X4_ticket {n : Nat → Nat} {ad : Nat → Nat → Nat} {C : q_S} {a b d : Int} {r : Int32} {u : q_U} (h : tX4_ticket n ad C a b d r u) : u.2.1 4 0 = ad 4 0 ∧ u.2.1 5 0 = ad 5 0 ∧ u.2.1 50 0 = ad 50 0 ∧ ∀ k, 4 ≤ k → u.1 k = n k := by
  rcases h with ⟨ad1, p0_h_1, p1_h_3, p2_h_5, p3_h_8, p4_hpr1, rfl, -⟩
  · exact ⟨(p4_hpr1 4 0 (fun q => absurd q.1 (by decide))), (p4_hpr1 5 0 (fun q => absurd q.1 (by decide))), (p4_hpr1 50 0 (fun q => absurd q.1 (by decide))), fun k hk => (by simp only [q_bump]; split <;> omega)⟩
def pL_ticket (n : Nat → Nat) (ad : Nat → Nat → Nat) (C : q_S) (a b d : Int) (r : Int32) (u : q_U) : Prop :=
  (∃ (v : q_U) (z : Int), R32 z ∧ tX4_ticket n ad C a b d (iI z) v ∧ u = (v.1, v.2.1, q_up v.2.2 50 0 0 z) ∧ r = iI 0) ∨
  (xX4_ticket n C a b d "java/lang/IllegalArgumentException" ∧ u = (n, ad, C) ∧ r = iI 1) ∨
  (xX4_ticket n C a b d "java/lang/UnsupportedOperationException" ∧ u = (n, ad, C) ∧ r = iI 2)
set_option maxHeartbeats 4000000 in
set_option maxRecDepth 100000 in
theorem c_L_ticket (l : Launch) (htr : l.stackTraces = false) (g : q_G) (s0 : Nat) (n : Nat → Nat) (ad : Nat → Nat → Nat) (C : q_S) (c0 : Nat) (hC : c_S C n) (hR : c_R C n c0) (hc0 : c0 ≤ 511) (h50 : 0 < n 50) (a b d : Int) (ha : R32 a) (hb : R32 b) (hd : R32 d) : Met l yL_ticket wsL_ticket ({ frames := 7, cells := 1, slots := 6, locals := 113 }) (va_Pc [.ref (ad 4 0), .int (iI a), .int (iI b), .int (iI d), .ref (ad 50 0)] (q_B g s0 (n, ad, C))) (va_Qi (pL_ticket n ad C a b d) (q_B g s0) (q_A s0)) 1 6 (q_A s0) := by
  refine va_MetW (cc := cL_ticket) (maxL := 6) (ret := (some .int)) (hh := [(0, 12, 15, 13), (0, 12, 19, 15)]) (by decide) rfl ?_
  intro p e s m args below meth c s₁ B hml hv
  obtain ⟨rfl, hv⟩ := hv
  have hr := B.returns
  have hlocks := B.notSynchronized
  obtain ⟨X, hP⟩ := q_start B.exec B.bytes hml (show s.vm.findClass RL = some m.cls from findClass_of_methodNamed B.named) (atoms_spec (ws := wsL_ticket) B.pre) hv
  have hP : q_P g s0 n ad C s.heap := hP
  have hS : va_S (q_A s0) s.heap s.heap [] := va_S.rf
  have h4 : 0 < n 4 := c_v4 hC
  have htb : c.exceptionTable.toList = [⟨0, 12, 15, 13⟩, ⟨0, 12, 19, 15⟩] := vx_table (x := yL_ticket) (hh := [(0, 12, 15, 13), (0, 12, 19, 15)]) B (X.2.2.2.2.1 _ List.mem_cons_self)
  have hl := lv_entry ([.ref (ad 4 0), .int (iI a), .int (iI b), .int (iI d), .ref (ad 50 0)]) (n := 6) (Nat.le_of_ble_eq_true rfl)
  rw [lg_entry_eq]
  generalize (lg_sl ([.ref (ad 4 0), .int (iI a), .int (iI b), .int (iI d), .ref (ad 50 0)]) ++ List.replicate (6 - (lg_sl ([.ref (ad 4 0), .int (iI a), .int (iI b), .int (iI d), .ref (ad 50 0)])).length) Slot.unset).toArray = ls at hl ⊢
  have hl : lv_has ls 6 [(0, .ref (ad 4 0)), (1, .int (iI a)), (2, .int (iI b)), (3, .int (iI d)), (4, .ref (ad 50 0))] := hl
  refine lv_aload X.1 X.2.1 dL_ticket_0 (lv_at hl 4 rfl) ?_
  refine lv_iconst (v := iI (0)) X.1 X.2.1 dL_ticket_2 rfl ?_
  refine lv_aload_n X.1 X.2.1 dL_ticket_3 rfl (lv_at hl 0 rfl) ?_
  refine lv_iload_n X.1 X.2.1 dL_ticket_4 rfl (lv_at hl 1 rfl) ?_
  refine lv_iload_n X.1 X.2.1 dL_ticket_5 rfl (lv_at hl 2 rfl) ?_
  refine lv_iload_n X.1 X.2.1 dL_ticket_6 rfl (lv_at hl 3 rfl) ?_
  refine vx_calli (vx_runV (As := [.int (iI a), .int (iI b), .int (iI d)]) (rest := [.int (iI (0)), .ref (ad 50 0)]) X.fix (c_X4_ticket l htr g s0 n ad C c0 hC hR hc0 a b d ha hb hd) (cwV 3 X.2.2.2.2.1 gL_ticket_X4_ticket rfl rfl rfl (by decide +kernel) ⟨Nat.le_of_ble_eq_true rfl, Nat.le_of_ble_eq_true rfl⟩) (q_preV X hP hS [.int (iI a), .int (iI b), .int (iI d)] (kd := 4) (by decide) rfl h4) rfl rfl hl.1 rfl (lv_room (Nat.le_of_ble_eq_true rfl)) dL_ticket_7 ⟨Nat.le_of_ble_eq_true rfl, Nat.le_of_ble_eq_true rfl⟩) hS q_id q_id1 q_id ?_ (fun r u t H locs ht hvm hw hB hz1 hk1 hS => ?_)
  · intro E ce q9 u t H locs ht hvm hpx hBX hz1 hk1 hS hce hcv hcl
    have hP : q_P g s0 n ad C H := q_back hBX.2 ht
    have hZW := X.2.2.2.2.2.2.1.2.2
    have hE : (E = "java/lang/IllegalArgumentException" ∧ xX4_ticket n C a b d "java/lang/IllegalArgumentException") ∨ (E = "java/lang/UnsupportedOperationException" ∧ xX4_ticket n C a b d "java/lang/UnsupportedOperationException") := by
      have hx := hBX.1
      unfold xX4_ticket at hx ⊢
      rcases hx with hx | hx | hx | hx
      · exact Or.inr (⟨hx.1, Or.inl ⟨rfl, hx.2⟩⟩)
      · exact Or.inl ⟨hx.1, Or.inr (Or.inl ⟨rfl, hx.2⟩)⟩
      · exact Or.inl ⟨hx.1, Or.inr (Or.inr (Or.inl ⟨rfl, hx.2⟩))⟩
      · exact Or.inl ⟨hx.1, Or.inr (Or.inr (Or.inr (⟨rfl, hx.2⟩)))⟩
    rcases hE with ⟨rfl, hE⟩ | ⟨rfl, hE⟩
    · refine vx_catch (own := RL) (name := "java/lang/IllegalArgumentException") X.2.2.2.1 [] ⟨0, 12, 15, 13⟩ [⟨0, 12, 19, 15⟩] htb (fun z hz => absurd hz List.not_mem_nil) (by decide) (by decide) (X.2.2.2.2.1 _ (by decide +kernel)) (va_Nw.use rfl (hZW.2.1 _ (by decide))) hce hcv hcl ?_
      refine lv_astore (lv' := [(5, .ref q9), (0, .ref (ad 4 0)), (1, .int (iI a)), (2, .int (iI b)), (3, .int (iI d)), (4, .ref (ad 50 0))]) X.1 X.2.1 dL_ticket_15 hl (by decide) rfl (fun ls hl => ?_)
      refine lv_iconst (v := iI (1)) X.1 X.2.1 dL_ticket_17 rfl ?_
      exact q_iret X hr hlocks hP hS (Or.inr (Or.inl ⟨hE, rfl, rfl⟩)) (Nat.le_of_ble_eq_true rfl) (Nat.le_of_ble_eq_true rfl) dL_ticket_18
    · refine vx_catch (own := RL) (name := "java/lang/UnsupportedOperationException") X.2.2.2.1 [⟨0, 12, 15, 13⟩] ⟨0, 12, 19, 15⟩ [] htb (fun z hz => by simp only [List.mem_cons, List.not_mem_nil, or_false] at hz; subst hz; exact Or.inr ⟨by decide, "java/lang/IllegalArgumentException", X.2.2.2.2.1 _ (by decide +kernel), hZW.2.2 _ (by decide) _ (by decide) (by decide)⟩) (by decide) (by decide) (X.2.2.2.2.1 _ (by decide +kernel)) (va_Nw.use rfl (hZW.2.1 _ (by decide))) hce hcv hcl ?_
      refine lv_astore (lv' := [(5, .ref q9), (0, .ref (ad 4 0)), (1, .int (iI a)), (2, .int (iI b)), (3, .int (iI d)), (4, .ref (ad 50 0))]) X.1 X.2.1 dL_ticket_19 hl (by decide) rfl (fun ls hl => ?_)
      refine lv_iconst (v := iI (2)) X.1 X.2.1 dL_ticket_21 rfl ?_
      exact q_iret X hr hlocks hP hS (Or.inr (Or.inr (⟨hE, rfl, rfl⟩))) (Nat.le_of_ble_eq_true rfl) (Nat.le_of_ble_eq_true rfl) dL_ticket_22
  · obtain ⟨n1, ad1, C1⟩ := u
    have hf := f_X4_ticket hw
    have hP : q_P g s0 n1 ad1 C1 H := q_back hB ht
    obtain ⟨z, hzr, rfl⟩ := iI_of r
    have e50 : ad 50 0 = ad1 50 0 := hf.2.2.1.symm
    have h51 : 0 < n1 50 := by have := hf.2.2.2 50 (by decide); dsimp only at this; omega
    refine W.eq (g2 := F0 m 10 ls [.int (iI z), .int (iI (0)), .ref (ad1 50 0)]) (by rw [e50]; first | done | rfl) ?_
    have hl : lv_has ls 6 [(1, .int (iI a)), (2, .int (iI b)), (3, .int (iI d))] := lv_sub hl [1, 2, 3] rfl
    refine q_i2l X hzr dL_ticket_10 ?_
    refine q_lstv (len := 1) (x := z) (z := (0)) X hP hS 50 0 (by decide) rfl rfl h51 rfl (by decide) (by decide) (q_3264 hzr) dL_ticket_11 (fun H locs hP hS => ?_)
    have hP : q_P g s0 n1 ad1 (q_up C1 50 0 0 z) H := hP
    refine lv_goto (tgt := 23) X.1 X.2.1 dL_ticket_12 (by decide) ?_
    refine lv_iconst (v := iI (0)) X.1 X.2.1 dL_ticket_23 rfl ?_
    exact q_iret X hr hlocks hP hS (Or.inl ⟨_, z, hzr, hw, rfl, rfl⟩) (Nat.le_of_ble_eq_true rfl) (Nat.le_of_ble_eq_true rfl) dL_ticket_24
theorem f_X4_job {n : Nat → Nat} {ad : Nat → Nat → Nat} {C : q_S} {a b d f y : Int} {r : Int32} {u : q_U} (h : tX4_job n ad C a b d f y r u) : u.2.1 4 0 = ad 4 0 ∧ u.2.1 5 0 = ad 5 0 ∧ u.2.1 50 0 = ad 50 0 ∧ ∀ k, 4 ≤ k → u.1 k = n k := by
  rcases h with ⟨ad1, ad2, p0_h_1, p1_h_2, p2_h_4, p3_h_6, p4_h_8, p5_h_10, p6_hpr1, p7_hpr2, rfl, -⟩
  · exact ⟨((p7_hpr2 4 0 (fun q => absurd q.1 (by decide))).trans (p6_hpr1 4 0 (fun q => absurd q.1 (by decide)))), ((p7_hpr2 5 0 (fun q => absurd q.1 (by decide))).trans (p6_hpr1 5 0 (fun q => absurd q.1 (by decide)))), ((p7_hpr2 50 0 (fun q => absurd q.1 (by decide))).trans (p6_hpr1 50 0 (fun q => absurd q.1 (by decide)))), fun k hk => (by simp only [q_bump]; split <;> first | omega | (split <;> omega))⟩
def pL_job (n : Nat → Nat) (ad : Nat → Nat → Nat) (C : q_S) (a b d f y : Int) (r : Int32) (u : q_U) : Prop :=
  (∃ (v : q_U) (z : Int), R32 z ∧ tX4_job n ad C a b d f y (iI z) v ∧ u = (v.1, v.2.1, q_up v.2.2 50 0 0 z) ∧ r = iI 0) ∨
  (xX4_job n C a b d f y "java/util/NoSuchElementException" ∧ u = (n, ad, C) ∧ r = iI 1) ∨
  (xX4_job n C a b d f y "java/lang/IllegalArgumentException" ∧ u = (n, ad, C) ∧ r = iI 2) ∨
  (xX4_job n C a b d f y "java/lang/UnsupportedOperationException" ∧ u = (n, ad, C) ∧ r = iI 3)
set_option maxHeartbeats 4000000 in
set_option maxRecDepth 100000 in
theorem c_L_job (l : Launch) (htr : l.stackTraces = false) (g : q_G) (s0 : Nat) (n : Nat → Nat) (ad : Nat → Nat → Nat) (C : q_S) (c0 : Nat) (hC : c_S C n) (hR : c_R C n c0) (hc0 : c0 ≤ 511) (h50 : 0 < n 50) (a b d f y : Int) (ha : R32 a) (hb : R32 b) (hd : R32 d) (hf : R32 f) (hy : R64 y) : Met l yL_job wsL_job ({ frames := 8, cells := 3, slots := 21, locals := 140 }) (va_Pc [.ref (ad 4 0), .int (iI a), .int (iI b), .int (iI d), .int (iI f), .long (jI y), .ref (ad 50 0)] (q_B g s0 (n, ad, C))) (va_Qi (pL_job n ad C a b d f y) (q_B g s0) (q_A s0)) 3 21 (q_A s0) := by
  refine va_MetW (cc := cL_job) (maxL := 9) (ret := (some .int)) (hh := [(0, 16, 19, 25), (0, 16, 23, 13), (0, 16, 27, 15)]) (by decide) rfl ?_
  intro p e s m args below meth c s₁ B hml hv
  obtain ⟨rfl, hv⟩ := hv
  have hr := B.returns
  have hlocks := B.notSynchronized
  obtain ⟨X, hP⟩ := q_start B.exec B.bytes hml (show s.vm.findClass RL = some m.cls from findClass_of_methodNamed B.named) (atoms_spec (ws := wsL_job) B.pre) hv
  have hP : q_P g s0 n ad C s.heap := hP
  have hS : va_S (q_A s0) s.heap s.heap [] := va_S.rf
  have h4 : 0 < n 4 := c_v4 hC
  have htb : c.exceptionTable.toList = [⟨0, 16, 19, 25⟩, ⟨0, 16, 23, 13⟩, ⟨0, 16, 27, 15⟩] := vx_table (x := yL_job) (hh := [(0, 16, 19, 25), (0, 16, 23, 13), (0, 16, 27, 15)]) B (X.2.2.2.2.1 _ List.mem_cons_self)
  have hl := lv_entry ([.ref (ad 4 0), .int (iI a), .int (iI b), .int (iI d), .int (iI f), .long (jI y), .ref (ad 50 0)]) (n := 9) (Nat.le_of_ble_eq_true rfl)
  rw [lg_entry_eq]
  generalize (lg_sl ([.ref (ad 4 0), .int (iI a), .int (iI b), .int (iI d), .int (iI f), .long (jI y), .ref (ad 50 0)]) ++ List.replicate (9 - (lg_sl ([.ref (ad 4 0), .int (iI a), .int (iI b), .int (iI d), .int (iI f), .long (jI y), .ref (ad 50 0)])).length) Slot.unset).toArray = ls at hl ⊢
  have hl : lv_has ls 9 [(0, .ref (ad 4 0)), (1, .int (iI a)), (2, .int (iI b)), (3, .int (iI d)), (4, .int (iI f)), (5, .long (jI y)), (7, .ref (ad 50 0))] := hl
  refine lv_aload X.1 X.2.1 dL_job_0 (lv_at hl 6 rfl) ?_
  refine lv_iconst (v := iI (0)) X.1 X.2.1 dL_job_2 rfl ?_
  refine lv_aload_n X.1 X.2.1 dL_job_3 rfl (lv_at hl 0 rfl) ?_
  refine lv_iload_n X.1 X.2.1 dL_job_4 rfl (lv_at hl 1 rfl) ?_
  refine lv_iload_n X.1 X.2.1 dL_job_5 rfl (lv_at hl 2 rfl) ?_
  refine lv_iload_n X.1 X.2.1 dL_job_6 rfl (lv_at hl 3 rfl) ?_
  refine lv_iload X.1 X.2.1 dL_job_7 (lv_at hl 4 rfl) ?_
  refine lv_lload X.1 X.2.1 dL_job_9 (lv_at hl 5 rfl) ?_
  refine vx_calli (vx_runV (As := [.int (iI a), .int (iI b), .int (iI d), .int (iI f), .long (jI y)]) (rest := [.int (iI (0)), .ref (ad 50 0)]) X.fix (c_X4_job l htr g s0 n ad C c0 hC hR hc0 a b d f y ha hb hd hf hy) (cwV 5 X.2.2.2.2.1 gL_job_X4_job rfl rfl rfl (by decide +kernel) ⟨Nat.le_of_ble_eq_true rfl, Nat.le_of_ble_eq_true rfl⟩) (q_preV X hP hS [.int (iI a), .int (iI b), .int (iI d), .int (iI f), .long (jI y)] (kd := 4) (by decide) rfl h4) rfl rfl hl.1 rfl (lv_room (Nat.le_of_ble_eq_true rfl)) dL_job_11 ⟨Nat.le_of_ble_eq_true rfl, Nat.le_of_ble_eq_true rfl⟩) hS q_id q_id1 q_id ?_ (fun r u t H locs ht hvm hw hB hz1 hk1 hS => ?_)
  · intro E ce q9 u t H locs ht hvm hpx hBX hz1 hk1 hS hce hcv hcl
    have hP : q_P g s0 n ad C H := q_back hBX.2 ht
    have hZW := X.2.2.2.2.2.2.1.2.2
    have hE : (E = "java/util/NoSuchElementException" ∧ xX4_job n C a b d f y "java/util/NoSuchElementException") ∨ (E = "java/lang/IllegalArgumentException" ∧ xX4_job n C a b d f y "java/lang/IllegalArgumentException") ∨ (E = "java/lang/UnsupportedOperationException" ∧ xX4_job n C a b d f y "java/lang/UnsupportedOperationException") := by
      have hx := hBX.1
      unfold xX4_job at hx ⊢
      rcases hx with hx | hx | hx | hx | hx | hx
      · exact Or.inl ⟨hx.1, Or.inl ⟨rfl, hx.2⟩⟩
      · exact Or.inr (Or.inr (⟨hx.1, Or.inr (Or.inl ⟨rfl, hx.2⟩)⟩))
      · exact Or.inr (Or.inl ⟨hx.1, Or.inr (Or.inr (Or.inl ⟨rfl, hx.2⟩))⟩)
      · exact Or.inr (Or.inl ⟨hx.1, Or.inr (Or.inr (Or.inr (Or.inl ⟨rfl, hx.2⟩)))⟩)
      · exact Or.inr (Or.inl ⟨hx.1, Or.inr (Or.inr (Or.inr (Or.inr (Or.inl ⟨rfl, hx.2⟩))))⟩)
      · exact Or.inr (Or.inl ⟨hx.1, Or.inr (Or.inr (Or.inr (Or.inr (Or.inr (⟨rfl, hx.2⟩)))))⟩)
    rcases hE with ⟨rfl, hE⟩ | ⟨rfl, hE⟩ | ⟨rfl, hE⟩
    · refine vx_catch (own := RL) (name := "java/util/NoSuchElementException") X.2.2.2.1 [] ⟨0, 16, 19, 25⟩ [⟨0, 16, 23, 13⟩, ⟨0, 16, 27, 15⟩] htb (fun z hz => absurd hz List.not_mem_nil) (by decide) (by decide) (X.2.2.2.2.1 _ (by decide +kernel)) (va_Nw.use rfl (hZW.2.1 _ (by decide))) hce hcv hcl ?_
      refine lv_astore (lv' := [(8, .ref q9), (0, .ref (ad 4 0)), (1, .int (iI a)), (2, .int (iI b)), (3, .int (iI d)), (4, .int (iI f)), (5, .long (jI y)), (7, .ref (ad 50 0))]) X.1 X.2.1 dL_job_19 hl (by decide) rfl (fun ls hl => ?_)
      refine lv_iconst (v := iI (1)) X.1 X.2.1 dL_job_21 rfl ?_
      exact q_iret X hr hlocks hP hS (Or.inr (Or.inl ⟨hE, rfl, rfl⟩)) (Nat.le_of_ble_eq_true rfl) (Nat.le_of_ble_eq_true rfl) dL_job_22
    · refine vx_catch (own := RL) (name := "java/lang/IllegalArgumentException") X.2.2.2.1 [⟨0, 16, 19, 25⟩] ⟨0, 16, 23, 13⟩ [⟨0, 16, 27, 15⟩] htb (fun z hz => by simp only [List.mem_cons, List.not_mem_nil, or_false] at hz; subst hz; exact Or.inr ⟨by decide, "java/util/NoSuchElementException", X.2.2.2.2.1 _ (by decide +kernel), hZW.2.2 _ (by decide) _ (by decide) (by decide)⟩) (by decide) (by decide) (X.2.2.2.2.1 _ (by decide +kernel)) (va_Nw.use rfl (hZW.2.1 _ (by decide))) hce hcv hcl ?_
      refine lv_astore (lv' := [(8, .ref q9), (0, .ref (ad 4 0)), (1, .int (iI a)), (2, .int (iI b)), (3, .int (iI d)), (4, .int (iI f)), (5, .long (jI y)), (7, .ref (ad 50 0))]) X.1 X.2.1 dL_job_23 hl (by decide) rfl (fun ls hl => ?_)
      refine lv_iconst (v := iI (2)) X.1 X.2.1 dL_job_25 rfl ?_
      exact q_iret X hr hlocks hP hS (Or.inr (Or.inr (Or.inl ⟨hE, rfl, rfl⟩))) (Nat.le_of_ble_eq_true rfl) (Nat.le_of_ble_eq_true rfl) dL_job_26
    · refine vx_catch (own := RL) (name := "java/lang/UnsupportedOperationException") X.2.2.2.1 [⟨0, 16, 19, 25⟩, ⟨0, 16, 23, 13⟩] ⟨0, 16, 27, 15⟩ [] htb (fun z hz => by simp only [List.mem_cons, List.not_mem_nil, or_false] at hz; exact hz.elim (fun e => by subst e; exact Or.inr ⟨by decide, "java/util/NoSuchElementException", X.2.2.2.2.1 _ (by decide +kernel), hZW.2.2 _ (by decide) _ (by decide) (by decide)⟩) (fun e => by subst e; exact Or.inr ⟨by decide, "java/lang/IllegalArgumentException", X.2.2.2.2.1 _ (by decide +kernel), hZW.2.2 _ (by decide) _ (by decide) (by decide)⟩)) (by decide) (by decide) (X.2.2.2.2.1 _ (by decide +kernel)) (va_Nw.use rfl (hZW.2.1 _ (by decide))) hce hcv hcl ?_
      refine lv_astore (lv' := [(8, .ref q9), (0, .ref (ad 4 0)), (1, .int (iI a)), (2, .int (iI b)), (3, .int (iI d)), (4, .int (iI f)), (5, .long (jI y)), (7, .ref (ad 50 0))]) X.1 X.2.1 dL_job_27 hl (by decide) rfl (fun ls hl => ?_)
      refine lv_iconst (v := iI (3)) X.1 X.2.1 dL_job_29 rfl ?_
      exact q_iret X hr hlocks hP hS (Or.inr (Or.inr (Or.inr (⟨hE, rfl, rfl⟩)))) (Nat.le_of_ble_eq_true rfl) (Nat.le_of_ble_eq_true rfl) dL_job_30
  · obtain ⟨n1, ad1, C1⟩ := u
    have hf := f_X4_job hw
    have hP : q_P g s0 n1 ad1 C1 H := q_back hB ht
    obtain ⟨z, hzr, rfl⟩ := iI_of r
    have e50 : ad 50 0 = ad1 50 0 := hf.2.2.1.symm
    have h51 : 0 < n1 50 := by have := hf.2.2.2 50 (by decide); dsimp only at this; omega
    refine W.eq (g2 := F0 m 14 ls [.int (iI z), .int (iI (0)), .ref (ad1 50 0)]) (by rw [e50]; first | done | rfl) ?_
    have hl : lv_has ls 9 [(1, .int (iI a)), (2, .int (iI b)), (3, .int (iI d)), (4, .int (iI f)), (5, .long (jI y))] := lv_sub hl [1, 2, 3, 4, 5] rfl
    refine q_i2l X hzr dL_job_14 ?_
    refine q_lstv (len := 1) (x := z) (z := (0)) X hP hS 50 0 (by decide) rfl rfl h51 rfl (by decide) (by decide) (q_3264 hzr) dL_job_15 (fun H locs hP hS => ?_)
    have hP : q_P g s0 n1 ad1 (q_up C1 50 0 0 z) H := hP
    refine lv_goto (tgt := 31) X.1 X.2.1 dL_job_16 (by decide) ?_
    refine lv_iconst (v := iI (0)) X.1 X.2.1 dL_job_31 rfl ?_
    exact q_iret X hr hlocks hP hS (Or.inl ⟨_, z, hzr, hw, rfl, rfl⟩) (Nat.le_of_ble_eq_true rfl) (Nat.le_of_ble_eq_true rfl) dL_job_32
theorem f_X4_take {n : Nat → Nat} {ad : Nat → Nat → Nat} {C : q_S} {a y : Int} {r : Int32} {u : q_U} (h : tX4_take n ad C a y r u) : u.2.1 4 0 = ad 4 0 ∧ u.2.1 5 0 = ad 5 0 ∧ u.2.1 50 0 = ad 50 0 ∧ ∀ k, 4 ≤ k → u.1 k = n k := by
  rcases h with ⟨p0_h_1, p1_h_3, p2_h_4, p3_h_5, rfl, -⟩ | ⟨p0_h_1, p1_h_3, p2_h_4, p3_h_5, p4_h_6_0, rfl, -⟩ | ⟨p0_h_1, p1_h_3, p2_h_4, p3_h_5, p4_h_6_0, rfl, -⟩
  · exact ⟨rfl, rfl, rfl, fun k hk => rfl⟩
  · exact ⟨rfl, rfl, rfl, fun k hk => rfl⟩
  · exact ⟨rfl, rfl, rfl, fun k hk => rfl⟩
def pL_take (n : Nat → Nat) (ad : Nat → Nat → Nat) (C : q_S) (a y : Int) (r : Int32) (u : q_U) : Prop :=
  (∃ (v : q_U) (z : Int), R32 z ∧ tX4_take n ad C a y (iI z) v ∧ u = (v.1, v.2.1, q_up v.2.2 50 0 0 z) ∧ r = iI 0) ∨
  (xX4_take n C a y "java/util/NoSuchElementException" ∧ u = (n, ad, C) ∧ r = iI 1) ∨
  (xX4_take n C a y "java/lang/IllegalArgumentException" ∧ u = (n, ad, C) ∧ r = iI 2) ∨
  (xX4_take n C a y "java/lang/IllegalStateException" ∧ u = (n, ad, C) ∧ r = iI 3)
set_option maxHeartbeats 4000000 in
set_option maxRecDepth 100000 in
theorem c_L_take (l : Launch) (htr : l.stackTraces = false) (g : q_G) (s0 : Nat) (n : Nat → Nat) (ad : Nat → Nat → Nat) (C : q_S) (c0 : Nat) (hC : c_S C n) (hR : c_R C n c0) (hc0 : c0 ≤ 511) (h50 : 0 < n 50) (a y : Int) (ha : R32 a) (hy : R64 y) : Met l yL_take wsL_take ({ frames := 8, cells := 2, slots := 12, locals := 137 }) (va_Pc [.ref (ad 4 0), .int (iI a), .long (jI y), .ref (ad 50 0)] (q_B g s0 (n, ad, C))) (va_Qi (pL_take n ad C a y) (q_B g s0) (q_A s0)) 2 12 (q_A s0) := by
  refine va_MetW (cc := cL_take) (maxL := 6) (ret := (some .int)) (hh := [(0, 11, 14, 25), (0, 11, 18, 13), (0, 11, 22, 31)]) (by decide) rfl ?_
  intro p e s m args below meth c s₁ B hml hv
  obtain ⟨rfl, hv⟩ := hv
  have hr := B.returns
  have hlocks := B.notSynchronized
  obtain ⟨X, hP⟩ := q_start B.exec B.bytes hml (show s.vm.findClass RL = some m.cls from findClass_of_methodNamed B.named) (atoms_spec (ws := wsL_take) B.pre) hv
  have hP : q_P g s0 n ad C s.heap := hP
  have hS : va_S (q_A s0) s.heap s.heap [] := va_S.rf
  have h4 : 0 < n 4 := c_v4 hC
  have htb : c.exceptionTable.toList = [⟨0, 11, 14, 25⟩, ⟨0, 11, 18, 13⟩, ⟨0, 11, 22, 31⟩] := vx_table (x := yL_take) (hh := [(0, 11, 14, 25), (0, 11, 18, 13), (0, 11, 22, 31)]) B (X.2.2.2.2.1 _ List.mem_cons_self)
  have hl := lv_entry ([.ref (ad 4 0), .int (iI a), .long (jI y), .ref (ad 50 0)]) (n := 6) (Nat.le_of_ble_eq_true rfl)
  rw [lg_entry_eq]
  generalize (lg_sl ([.ref (ad 4 0), .int (iI a), .long (jI y), .ref (ad 50 0)]) ++ List.replicate (6 - (lg_sl ([.ref (ad 4 0), .int (iI a), .long (jI y), .ref (ad 50 0)])).length) Slot.unset).toArray = ls at hl ⊢
  have hl : lv_has ls 6 [(0, .ref (ad 4 0)), (1, .int (iI a)), (2, .long (jI y)), (4, .ref (ad 50 0))] := hl
  refine lv_aload X.1 X.2.1 dL_take_0 (lv_at hl 3 rfl) ?_
  refine lv_iconst (v := iI (0)) X.1 X.2.1 dL_take_2 rfl ?_
  refine lv_aload_n X.1 X.2.1 dL_take_3 rfl (lv_at hl 0 rfl) ?_
  refine lv_iload_n X.1 X.2.1 dL_take_4 rfl (lv_at hl 1 rfl) ?_
  refine lv_lload_n X.1 X.2.1 dL_take_5 rfl (lv_at hl 2 rfl) ?_
  refine vx_calli (vx_runV (As := [.int (iI a), .long (jI y)]) (rest := [.int (iI (0)), .ref (ad 50 0)]) X.fix (c_X4_take l htr g s0 n ad C c0 hC hR hc0 a y ha hy) (cwV 2 X.2.2.2.2.1 gL_take_X4_take rfl rfl rfl (by decide +kernel) ⟨Nat.le_of_ble_eq_true rfl, Nat.le_of_ble_eq_true rfl⟩) (q_preV X hP hS [.int (iI a), .long (jI y)] (kd := 4) (by decide) rfl h4) rfl rfl hl.1 rfl (lv_room (Nat.le_of_ble_eq_true rfl)) dL_take_6 ⟨Nat.le_of_ble_eq_true rfl, Nat.le_of_ble_eq_true rfl⟩) hS q_id q_id1 q_id ?_ (fun r u t H locs ht hvm hw hB hz1 hk1 hS => ?_)
  · intro E ce q9 u t H locs ht hvm hpx hBX hz1 hk1 hS hce hcv hcl
    have hP : q_P g s0 n ad C H := q_back hBX.2 ht
    have hZW := X.2.2.2.2.2.2.1.2.2
    have hE : (E = "java/util/NoSuchElementException" ∧ xX4_take n C a y "java/util/NoSuchElementException") ∨ (E = "java/lang/IllegalArgumentException" ∧ xX4_take n C a y "java/lang/IllegalArgumentException") ∨ (E = "java/lang/IllegalStateException" ∧ xX4_take n C a y "java/lang/IllegalStateException") := by
      have hx := hBX.1
      unfold xX4_take at hx ⊢
      rcases hx with hx | hx | hx
      · exact Or.inl ⟨hx.1, Or.inl ⟨rfl, hx.2⟩⟩
      · exact Or.inr (Or.inr (⟨hx.1, Or.inr (Or.inl ⟨rfl, hx.2⟩)⟩))
      · exact Or.inr (Or.inl ⟨hx.1, Or.inr (Or.inr (⟨rfl, hx.2⟩))⟩)
    rcases hE with ⟨rfl, hE⟩ | ⟨rfl, hE⟩ | ⟨rfl, hE⟩
    · refine vx_catch (own := RL) (name := "java/util/NoSuchElementException") X.2.2.2.1 [] ⟨0, 11, 14, 25⟩ [⟨0, 11, 18, 13⟩, ⟨0, 11, 22, 31⟩] htb (fun z hz => absurd hz List.not_mem_nil) (by decide) (by decide) (X.2.2.2.2.1 _ (by decide +kernel)) (va_Nw.use rfl (hZW.2.1 _ (by decide))) hce hcv hcl ?_
      refine lv_astore (lv' := [(5, .ref q9), (0, .ref (ad 4 0)), (1, .int (iI a)), (2, .long (jI y)), (4, .ref (ad 50 0))]) X.1 X.2.1 dL_take_14 hl (by decide) rfl (fun ls hl => ?_)
      refine lv_iconst (v := iI (1)) X.1 X.2.1 dL_take_16 rfl ?_
      exact q_iret X hr hlocks hP hS (Or.inr (Or.inl ⟨hE, rfl, rfl⟩)) (Nat.le_of_ble_eq_true rfl) (Nat.le_of_ble_eq_true rfl) dL_take_17
    · refine vx_catch (own := RL) (name := "java/lang/IllegalArgumentException") X.2.2.2.1 [⟨0, 11, 14, 25⟩] ⟨0, 11, 18, 13⟩ [⟨0, 11, 22, 31⟩] htb (fun z hz => by simp only [List.mem_cons, List.not_mem_nil, or_false] at hz; subst hz; exact Or.inr ⟨by decide, "java/util/NoSuchElementException", X.2.2.2.2.1 _ (by decide +kernel), hZW.2.2 _ (by decide) _ (by decide) (by decide)⟩) (by decide) (by decide) (X.2.2.2.2.1 _ (by decide +kernel)) (va_Nw.use rfl (hZW.2.1 _ (by decide))) hce hcv hcl ?_
      refine lv_astore (lv' := [(5, .ref q9), (0, .ref (ad 4 0)), (1, .int (iI a)), (2, .long (jI y)), (4, .ref (ad 50 0))]) X.1 X.2.1 dL_take_18 hl (by decide) rfl (fun ls hl => ?_)
      refine lv_iconst (v := iI (2)) X.1 X.2.1 dL_take_20 rfl ?_
      exact q_iret X hr hlocks hP hS (Or.inr (Or.inr (Or.inl ⟨hE, rfl, rfl⟩))) (Nat.le_of_ble_eq_true rfl) (Nat.le_of_ble_eq_true rfl) dL_take_21
    · refine vx_catch (own := RL) (name := "java/lang/IllegalStateException") X.2.2.2.1 [⟨0, 11, 14, 25⟩, ⟨0, 11, 18, 13⟩] ⟨0, 11, 22, 31⟩ [] htb (fun z hz => by simp only [List.mem_cons, List.not_mem_nil, or_false] at hz; exact hz.elim (fun e => by subst e; exact Or.inr ⟨by decide, "java/util/NoSuchElementException", X.2.2.2.2.1 _ (by decide +kernel), hZW.2.2 _ (by decide) _ (by decide) (by decide)⟩) (fun e => by subst e; exact Or.inr ⟨by decide, "java/lang/IllegalArgumentException", X.2.2.2.2.1 _ (by decide +kernel), hZW.2.2 _ (by decide) _ (by decide) (by decide)⟩)) (by decide) (by decide) (X.2.2.2.2.1 _ (by decide +kernel)) (va_Nw.use rfl (hZW.2.1 _ (by decide))) hce hcv hcl ?_
      refine lv_astore (lv' := [(5, .ref q9), (0, .ref (ad 4 0)), (1, .int (iI a)), (2, .long (jI y)), (4, .ref (ad 50 0))]) X.1 X.2.1 dL_take_22 hl (by decide) rfl (fun ls hl => ?_)
      refine lv_iconst (v := iI (3)) X.1 X.2.1 dL_take_24 rfl ?_
      exact q_iret X hr hlocks hP hS (Or.inr (Or.inr (Or.inr (⟨hE, rfl, rfl⟩)))) (Nat.le_of_ble_eq_true rfl) (Nat.le_of_ble_eq_true rfl) dL_take_25
  · obtain ⟨n1, ad1, C1⟩ := u
    have hf := f_X4_take hw
    have hP : q_P g s0 n1 ad1 C1 H := q_back hB ht
    obtain ⟨z, hzr, rfl⟩ := iI_of r
    have e50 : ad 50 0 = ad1 50 0 := hf.2.2.1.symm
    have h51 : 0 < n1 50 := by have := hf.2.2.2 50 (by decide); dsimp only at this; omega
    refine W.eq (g2 := F0 m 9 ls [.int (iI z), .int (iI (0)), .ref (ad1 50 0)]) (by rw [e50]; first | done | rfl) ?_
    have hl : lv_has ls 6 [(1, .int (iI a)), (2, .long (jI y))] := lv_sub hl [1, 2] rfl
    refine q_i2l X hzr dL_take_9 ?_
    refine q_lstv (len := 1) (x := z) (z := (0)) X hP hS 50 0 (by decide) rfl rfl h51 rfl (by decide) (by decide) (q_3264 hzr) dL_take_10 (fun H locs hP hS => ?_)
    have hP : q_P g s0 n1 ad1 (q_up C1 50 0 0 z) H := hP
    refine lv_goto (tgt := 26) X.1 X.2.1 dL_take_11 (by decide) ?_
    refine lv_iconst (v := iI (0)) X.1 X.2.1 dL_take_26 rfl ?_
    exact q_iret X hr hlocks hP hS (Or.inl ⟨_, z, hzr, hw, rfl, rfl⟩) (Nat.le_of_ble_eq_true rfl) (Nat.le_of_ble_eq_true rfl) dL_take_27
theorem f_X4_print {n : Nat → Nat} {ad : Nat → Nat → Nat} {C : q_S} {a b : Int} {r : Int32} {u : q_U} (h : tX4_print n ad C a b r u) : u.2.1 4 0 = ad 4 0 ∧ u.2.1 5 0 = ad 5 0 ∧ u.2.1 50 0 = ad 50 0 ∧ ∀ k, 4 ≤ k → u.1 k = n k := by
  rcases h with ⟨p0_h_1, p1_h_2, p2_h_4, rfl, -⟩ | ⟨p0_h_1, p1_h_2, p2_h_4, p3_h_8, rfl, -⟩ | ⟨p0_h_1, p1_h_2, p2_h_4, p3_h_8, rfl, -⟩
  · exact ⟨rfl, rfl, rfl, fun k hk => rfl⟩
  · exact ⟨rfl, rfl, rfl, fun k hk => rfl⟩
  · exact ⟨rfl, rfl, rfl, fun k hk => rfl⟩
def pL_print (n : Nat → Nat) (ad : Nat → Nat → Nat) (C : q_S) (a b : Int) (r : Int32) (u : q_U) : Prop :=
  (∃ (v : q_U) (z : Int), R32 z ∧ tX4_print n ad C a b (iI z) v ∧ u = (v.1, v.2.1, q_up v.2.2 50 0 0 z) ∧ r = iI 0) ∨
  (xX4_print n C a b "java/util/NoSuchElementException" ∧ u = (n, ad, C) ∧ r = iI 1) ∨
  (xX4_print n C a b "java/lang/IllegalArgumentException" ∧ u = (n, ad, C) ∧ r = iI 2)
set_option maxHeartbeats 4000000 in
set_option maxRecDepth 100000 in
theorem c_L_print (l : Launch) (htr : l.stackTraces = false) (g : q_G) (s0 : Nat) (n : Nat → Nat) (ad : Nat → Nat → Nat) (C : q_S) (c0 : Nat) (hC : c_S C n) (hR : c_R C n c0) (hc0 : c0 ≤ 511) (h50 : 0 < n 50) (a b : Int) (ha : R32 a) (hb : R32 b) (hI : c_I C n) : Met l yL_print wsL_print ({ frames := 8, cells := 2, slots := 12, locals := 138 }) (va_Pc [.ref (ad 4 0), .int (iI a), .int (iI b), .ref (ad 50 0)] (q_B g s0 (n, ad, C))) (va_Qi (pL_print n ad C a b) (q_B g s0) (q_A s0)) 2 12 (q_A s0) := by
  refine va_MetW (cc := cL_print) (maxL := 5) (ret := (some .int)) (hh := [(0, 10, 13, 25), (0, 10, 17, 13)]) (by decide) rfl ?_
  intro p e s m args below meth c s₁ B hml hv
  obtain ⟨rfl, hv⟩ := hv
  have hr := B.returns
  have hlocks := B.notSynchronized
  obtain ⟨X, hP⟩ := q_start B.exec B.bytes hml (show s.vm.findClass RL = some m.cls from findClass_of_methodNamed B.named) (atoms_spec (ws := wsL_print) B.pre) hv
  have hP : q_P g s0 n ad C s.heap := hP
  have hS : va_S (q_A s0) s.heap s.heap [] := va_S.rf
  have h4 : 0 < n 4 := c_v4 hC
  have htb : c.exceptionTable.toList = [⟨0, 10, 13, 25⟩, ⟨0, 10, 17, 13⟩] := vx_table (x := yL_print) (hh := [(0, 10, 13, 25), (0, 10, 17, 13)]) B (X.2.2.2.2.1 _ List.mem_cons_self)
  have hl := lv_entry ([.ref (ad 4 0), .int (iI a), .int (iI b), .ref (ad 50 0)]) (n := 5) (Nat.le_of_ble_eq_true rfl)
  rw [lg_entry_eq]
  generalize (lg_sl ([.ref (ad 4 0), .int (iI a), .int (iI b), .ref (ad 50 0)]) ++ List.replicate (5 - (lg_sl ([.ref (ad 4 0), .int (iI a), .int (iI b), .ref (ad 50 0)])).length) Slot.unset).toArray = ls at hl ⊢
  have hl : lv_has ls 5 [(0, .ref (ad 4 0)), (1, .int (iI a)), (2, .int (iI b)), (3, .ref (ad 50 0))] := hl
  refine lv_aload_n X.1 X.2.1 dL_print_0 rfl (lv_at hl 3 rfl) ?_
  refine lv_iconst (v := iI (0)) X.1 X.2.1 dL_print_1 rfl ?_
  refine lv_aload_n X.1 X.2.1 dL_print_2 rfl (lv_at hl 0 rfl) ?_
  refine lv_iload_n X.1 X.2.1 dL_print_3 rfl (lv_at hl 1 rfl) ?_
  refine lv_iload_n X.1 X.2.1 dL_print_4 rfl (lv_at hl 2 rfl) ?_
  refine vx_calli (vx_runV (As := [.int (iI a), .int (iI b)]) (rest := [.int (iI (0)), .ref (ad 50 0)]) X.fix (c_X4_print l htr g s0 n ad C c0 hC hR hc0 a b ha hb hI) (cwV 2 X.2.2.2.2.1 gL_print_X4_print rfl rfl rfl (by decide +kernel) ⟨Nat.le_of_ble_eq_true rfl, Nat.le_of_ble_eq_true rfl⟩) (q_preV X hP hS [.int (iI a), .int (iI b)] (kd := 4) (by decide) rfl h4) rfl rfl hl.1 rfl (lv_room (Nat.le_of_ble_eq_true rfl)) dL_print_5 ⟨Nat.le_of_ble_eq_true rfl, Nat.le_of_ble_eq_true rfl⟩) hS q_id q_id1 q_id ?_ (fun r u t H locs ht hvm hw hB hz1 hk1 hS => ?_)
  · intro E ce q9 u t H locs ht hvm hpx hBX hz1 hk1 hS hce hcv hcl
    have hP : q_P g s0 n ad C H := q_back hBX.2 ht
    have hZW := X.2.2.2.2.2.2.1.2.2
    have hE : (E = "java/util/NoSuchElementException" ∧ xX4_print n C a b "java/util/NoSuchElementException") ∨ (E = "java/lang/IllegalArgumentException" ∧ xX4_print n C a b "java/lang/IllegalArgumentException") := by
      have hx := hBX.1
      unfold xX4_print at hx ⊢
      rcases hx with hx | hx
      · exact Or.inl ⟨hx.1, Or.inl ⟨rfl, hx.2⟩⟩
      · exact Or.inr (⟨hx.1, Or.inr (⟨rfl, hx.2⟩)⟩)
    rcases hE with ⟨rfl, hE⟩ | ⟨rfl, hE⟩
    · refine vx_catch (own := RL) (name := "java/util/NoSuchElementException") X.2.2.2.1 [] ⟨0, 10, 13, 25⟩ [⟨0, 10, 17, 13⟩] htb (fun z hz => absurd hz List.not_mem_nil) (by decide) (by decide) (X.2.2.2.2.1 _ (by decide +kernel)) (va_Nw.use rfl (hZW.2.1 _ (by decide))) hce hcv hcl ?_
      refine lv_astore (lv' := [(4, .ref q9), (0, .ref (ad 4 0)), (1, .int (iI a)), (2, .int (iI b)), (3, .ref (ad 50 0))]) X.1 X.2.1 dL_print_13 hl (by decide) rfl (fun ls hl => ?_)
      refine lv_iconst (v := iI (1)) X.1 X.2.1 dL_print_15 rfl ?_
      exact q_iret X hr hlocks hP hS (Or.inr (Or.inl ⟨hE, rfl, rfl⟩)) (Nat.le_of_ble_eq_true rfl) (Nat.le_of_ble_eq_true rfl) dL_print_16
    · refine vx_catch (own := RL) (name := "java/lang/IllegalArgumentException") X.2.2.2.1 [⟨0, 10, 13, 25⟩] ⟨0, 10, 17, 13⟩ [] htb (fun z hz => by simp only [List.mem_cons, List.not_mem_nil, or_false] at hz; subst hz; exact Or.inr ⟨by decide, "java/util/NoSuchElementException", X.2.2.2.2.1 _ (by decide +kernel), hZW.2.2 _ (by decide) _ (by decide) (by decide)⟩) (by decide) (by decide) (X.2.2.2.2.1 _ (by decide +kernel)) (va_Nw.use rfl (hZW.2.1 _ (by decide))) hce hcv hcl ?_
      refine lv_astore (lv' := [(4, .ref q9), (0, .ref (ad 4 0)), (1, .int (iI a)), (2, .int (iI b)), (3, .ref (ad 50 0))]) X.1 X.2.1 dL_print_17 hl (by decide) rfl (fun ls hl => ?_)
      refine lv_iconst (v := iI (2)) X.1 X.2.1 dL_print_19 rfl ?_
      exact q_iret X hr hlocks hP hS (Or.inr (Or.inr (⟨hE, rfl, rfl⟩))) (Nat.le_of_ble_eq_true rfl) (Nat.le_of_ble_eq_true rfl) dL_print_20
  · obtain ⟨n1, ad1, C1⟩ := u
    have hf := f_X4_print hw
    have hP : q_P g s0 n1 ad1 C1 H := q_back hB ht
    obtain ⟨z, hzr, rfl⟩ := iI_of r
    have e50 : ad 50 0 = ad1 50 0 := hf.2.2.1.symm
    have h51 : 0 < n1 50 := by have := hf.2.2.2 50 (by decide); dsimp only at this; omega
    refine W.eq (g2 := F0 m 8 ls [.int (iI z), .int (iI (0)), .ref (ad1 50 0)]) (by rw [e50]; first | done | rfl) ?_
    have hl : lv_has ls 5 [(1, .int (iI a)), (2, .int (iI b))] := lv_sub hl [1, 2] rfl
    refine q_i2l X hzr dL_print_8 ?_
    refine q_lstv (len := 1) (x := z) (z := (0)) X hP hS 50 0 (by decide) rfl rfl h51 rfl (by decide) (by decide) (q_3264 hzr) dL_print_9 (fun H locs hP hS => ?_)
    have hP : q_P g s0 n1 ad1 (q_up C1 50 0 0 z) H := hP
    refine lv_goto (tgt := 21) X.1 X.2.1 dL_print_10 (by decide) ?_
    refine lv_iconst (v := iI (0)) X.1 X.2.1 dL_print_21 rfl ?_
    exact q_iret X hr hlocks hP hS (Or.inl ⟨_, z, hzr, hw, rfl, rfl⟩) (Nat.le_of_ble_eq_true rfl) (Nat.le_of_ble_eq_true rfl) dL_print_22
theorem f_X4_fault {n : Nat → Nat} {ad : Nat → Nat → Nat} {C : q_S} {a : Int} {r : Int32} {u : q_U} (h : tX4_fault n ad C a r u) : u.2.1 4 0 = ad 4 0 ∧ u.2.1 5 0 = ad 5 0 ∧ u.2.1 50 0 = ad 50 0 ∧ ∀ k, 4 ≤ k → u.1 k = n k := by
  rcases h with ⟨p0_h_1, p1_h_2, rfl, -⟩ | ⟨p0_h_1, p1_h_2, p2_h_4, rfl, -⟩ | ⟨p0_h_1, p1_h_2, p2_h_4, p3_h_5_0, rfl, -⟩ | ⟨p0_h_1, p1_h_2, p2_h_4, p3_h_5_0, rfl, -⟩
  · exact ⟨rfl, rfl, rfl, fun k hk => rfl⟩
  · exact ⟨rfl, rfl, rfl, fun k hk => rfl⟩
  · exact ⟨rfl, rfl, rfl, fun k hk => rfl⟩
  · exact ⟨rfl, rfl, rfl, fun k hk => rfl⟩
def pL_fault (n : Nat → Nat) (ad : Nat → Nat → Nat) (C : q_S) (a : Int) (r : Int32) (u : q_U) : Prop :=
  (∃ (v : q_U) (z : Int), R32 z ∧ tX4_fault n ad C a (iI z) v ∧ u = (v.1, v.2.1, q_up v.2.2 50 0 0 z) ∧ r = iI 0) ∨
  (xX4_fault n C a "java/util/NoSuchElementException" ∧ u = (n, ad, C) ∧ r = iI 1)
set_option maxHeartbeats 4000000 in
set_option maxRecDepth 100000 in
theorem c_L_fault (l : Launch) (htr : l.stackTraces = false) (g : q_G) (s0 : Nat) (n : Nat → Nat) (ad : Nat → Nat → Nat) (C : q_S) (c0 : Nat) (hC : c_S C n) (hR : c_R C n c0) (hc0 : c0 ≤ 511) (h50 : 0 < n 50) (a : Int) (ha : R32 a) : Met l yL_fault wsL_fault ({ frames := 8, cells := 1, slots := 6, locals := 135 }) (va_Pc [.ref (ad 4 0), .int (iI a), .ref (ad 50 0)] (q_B g s0 (n, ad, C))) (va_Qi (pL_fault n ad C a) (q_B g s0) (q_A s0)) 1 6 (q_A s0) := by
  refine va_MetW (cc := cL_fault) (maxL := 4) (ret := (some .int)) (hh := [(0, 9, 12, 25)]) (by decide) rfl ?_
  intro p e s m args below meth c s₁ B hml hv
  obtain ⟨rfl, hv⟩ := hv
  have hr := B.returns
  have hlocks := B.notSynchronized
  obtain ⟨X, hP⟩ := q_start B.exec B.bytes hml (show s.vm.findClass RL = some m.cls from findClass_of_methodNamed B.named) (atoms_spec (ws := wsL_fault) B.pre) hv
  have hP : q_P g s0 n ad C s.heap := hP
  have hS : va_S (q_A s0) s.heap s.heap [] := va_S.rf
  have h4 : 0 < n 4 := c_v4 hC
  have htb : c.exceptionTable.toList = [⟨0, 9, 12, 25⟩] := vx_table (x := yL_fault) (hh := [(0, 9, 12, 25)]) B (X.2.2.2.2.1 _ List.mem_cons_self)
  have hl := lv_entry ([.ref (ad 4 0), .int (iI a), .ref (ad 50 0)]) (n := 4) (Nat.le_of_ble_eq_true rfl)
  rw [lg_entry_eq]
  generalize (lg_sl ([.ref (ad 4 0), .int (iI a), .ref (ad 50 0)]) ++ List.replicate (4 - (lg_sl ([.ref (ad 4 0), .int (iI a), .ref (ad 50 0)])).length) Slot.unset).toArray = ls at hl ⊢
  have hl : lv_has ls 4 [(0, .ref (ad 4 0)), (1, .int (iI a)), (2, .ref (ad 50 0))] := hl
  refine lv_aload_n X.1 X.2.1 dL_fault_0 rfl (lv_at hl 2 rfl) ?_
  refine lv_iconst (v := iI (0)) X.1 X.2.1 dL_fault_1 rfl ?_
  refine lv_aload_n X.1 X.2.1 dL_fault_2 rfl (lv_at hl 0 rfl) ?_
  refine lv_iload_n X.1 X.2.1 dL_fault_3 rfl (lv_at hl 1 rfl) ?_
  refine vx_calli (vx_runV (As := [.int (iI a)]) (rest := [.int (iI (0)), .ref (ad 50 0)]) X.fix (c_X4_fault l htr g s0 n ad C c0 hC hR hc0 a ha) (cwV 1 X.2.2.2.2.1 gL_fault_X4_fault rfl rfl rfl (by decide +kernel) ⟨Nat.le_of_ble_eq_true rfl, Nat.le_of_ble_eq_true rfl⟩) (q_preV X hP hS [.int (iI a)] (kd := 4) (by decide) rfl h4) rfl rfl hl.1 rfl (lv_room (Nat.le_of_ble_eq_true rfl)) dL_fault_4 ⟨Nat.le_of_ble_eq_true rfl, Nat.le_of_ble_eq_true rfl⟩) hS q_id q_id1 q_id ?_ (fun r u t H locs ht hvm hw hB hz1 hk1 hS => ?_)
  · intro E ce q9 u t H locs ht hvm hpx hBX hz1 hk1 hS hce hcv hcl
    have hP : q_P g s0 n ad C H := q_back hBX.2 ht
    have hZW := X.2.2.2.2.2.2.1.2.2
    have hE : (E = "java/util/NoSuchElementException" ∧ xX4_fault n C a "java/util/NoSuchElementException") := by
      have hx := hBX.1
      unfold xX4_fault at hx ⊢
      rcases hx with hx
      · exact ⟨hx.1, ⟨rfl, hx.2⟩⟩
    obtain ⟨rfl, hE⟩ := hE
    refine vx_catch (own := RL) (name := "java/util/NoSuchElementException") X.2.2.2.1 [] ⟨0, 9, 12, 25⟩ [] htb (fun z hz => absurd hz List.not_mem_nil) (by decide) (by decide) (X.2.2.2.2.1 _ (by decide +kernel)) (va_Nw.use rfl (hZW.2.1 _ (by decide))) hce hcv hcl ?_
    refine lv_astore_n (lv' := [(3, .ref q9), (0, .ref (ad 4 0)), (1, .int (iI a)), (2, .ref (ad 50 0))]) X.1 X.2.1 dL_fault_12 rfl hl (by decide) rfl (fun ls hl => ?_)
    refine lv_iconst (v := iI (1)) X.1 X.2.1 dL_fault_13 rfl ?_
    exact q_iret X hr hlocks hP hS (Or.inr (⟨hE, rfl, rfl⟩)) (Nat.le_of_ble_eq_true rfl) (Nat.le_of_ble_eq_true rfl) dL_fault_14
  · obtain ⟨n1, ad1, C1⟩ := u
    have hf := f_X4_fault hw
    have hP : q_P g s0 n1 ad1 C1 H := q_back hB ht
    obtain ⟨z, hzr, rfl⟩ := iI_of r
    have e50 : ad 50 0 = ad1 50 0 := hf.2.2.1.symm
    have h51 : 0 < n1 50 := by have := hf.2.2.2 50 (by decide); dsimp only at this; omega
    refine W.eq (g2 := F0 m 7 ls [.int (iI z), .int (iI (0)), .ref (ad1 50 0)]) (by rw [e50]; first | done | rfl) ?_
    have hl : lv_has ls 4 [(1, .int (iI a))] := lv_sub hl [1] rfl
    refine q_i2l X hzr dL_fault_7 ?_
    refine q_lstv (len := 1) (x := z) (z := (0)) X hP hS 50 0 (by decide) rfl rfl h51 rfl (by decide) (by decide) (q_3264 hzr) dL_fault_8 (fun H locs hP hS => ?_)
    have hP : q_P g s0 n1 ad1 (q_up C1 50 0 0 z) H := hP
    refine lv_goto (tgt := 15) X.1 X.2.1 dL_fault_9 (by decide) ?_
    refine lv_iconst (v := iI (0)) X.1 X.2.1 dL_fault_15 rfl ?_
    exact q_iret X hr hlocks hP hS (Or.inl ⟨_, z, hzr, hw, rfl, rfl⟩) (Nat.le_of_ble_eq_true rfl) (Nat.le_of_ble_eq_true rfl) dL_fault_16
theorem f_X4_hold {n : Nat → Nat} {ad : Nat → Nat → Nat} {C : q_S} {a b : Int} {r : Int32} {u : q_U} (h : tX4_hold n ad C a b r u) : u.2.1 4 0 = ad 4 0 ∧ u.2.1 5 0 = ad 5 0 ∧ u.2.1 50 0 = ad 50 0 ∧ ∀ k, 4 ≤ k → u.1 k = n k := by
  rcases h with ⟨p0_h_1, rfl, -⟩
  · exact ⟨rfl, rfl, rfl, fun k hk => rfl⟩
def pL_hold (n : Nat → Nat) (ad : Nat → Nat → Nat) (C : q_S) (a b : Int) (r : Int32) (u : q_U) : Prop :=
  (∃ (v : q_U) (z : Int), R32 z ∧ tX4_hold n ad C a b (iI z) v ∧ u = (v.1, v.2.1, q_up v.2.2 50 0 0 z) ∧ r = iI 0) ∨
  (xX4_hold n C a b "java/util/NoSuchElementException" ∧ u = (n, ad, C) ∧ r = iI 1)
set_option maxHeartbeats 4000000 in
set_option maxRecDepth 100000 in
theorem c_L_hold (l : Launch) (htr : l.stackTraces = false) (g : q_G) (s0 : Nat) (n : Nat → Nat) (ad : Nat → Nat → Nat) (C : q_S) (c0 : Nat) (hC : c_S C n) (hR : c_R C n c0) (hc0 : c0 ≤ 511) (h50 : 0 < n 50) (a b : Int) (ha : R32 a) (hb : R32 b) (hz : b = 0 ∨ b = 1) : Met l yL_hold wsL_hold ({ frames := 8, cells := 1, slots := 6, locals := 136 }) (va_Pc [.ref (ad 4 0), .int (iI a), .int (iI b), .ref (ad 50 0)] (q_B g s0 (n, ad, C))) (va_Qi (pL_hold n ad C a b) (q_B g s0) (q_A s0)) 1 6 (q_A s0) := by
  refine va_MetW (cc := cL_hold) (maxL := 5) (ret := (some .int)) (hh := [(0, 10, 13, 25)]) (by decide) rfl ?_
  intro p e s m args below meth c s₁ B hml hv
  obtain ⟨rfl, hv⟩ := hv
  have hr := B.returns
  have hlocks := B.notSynchronized
  obtain ⟨X, hP⟩ := q_start B.exec B.bytes hml (show s.vm.findClass RL = some m.cls from findClass_of_methodNamed B.named) (atoms_spec (ws := wsL_hold) B.pre) hv
  have hP : q_P g s0 n ad C s.heap := hP
  have hS : va_S (q_A s0) s.heap s.heap [] := va_S.rf
  have h4 : 0 < n 4 := c_v4 hC
  have htb : c.exceptionTable.toList = [⟨0, 10, 13, 25⟩] := vx_table (x := yL_hold) (hh := [(0, 10, 13, 25)]) B (X.2.2.2.2.1 _ List.mem_cons_self)
  have hl := lv_entry ([.ref (ad 4 0), .int (iI a), .int (iI b), .ref (ad 50 0)]) (n := 5) (Nat.le_of_ble_eq_true rfl)
  rw [lg_entry_eq]
  generalize (lg_sl ([.ref (ad 4 0), .int (iI a), .int (iI b), .ref (ad 50 0)]) ++ List.replicate (5 - (lg_sl ([.ref (ad 4 0), .int (iI a), .int (iI b), .ref (ad 50 0)])).length) Slot.unset).toArray = ls at hl ⊢
  have hl : lv_has ls 5 [(0, .ref (ad 4 0)), (1, .int (iI a)), (2, .int (iI b)), (3, .ref (ad 50 0))] := hl
  refine lv_aload_n X.1 X.2.1 dL_hold_0 rfl (lv_at hl 3 rfl) ?_
  refine lv_iconst (v := iI (0)) X.1 X.2.1 dL_hold_1 rfl ?_
  refine lv_aload_n X.1 X.2.1 dL_hold_2 rfl (lv_at hl 0 rfl) ?_
  refine lv_iload_n X.1 X.2.1 dL_hold_3 rfl (lv_at hl 1 rfl) ?_
  refine lv_iload_n X.1 X.2.1 dL_hold_4 rfl (lv_at hl 2 rfl) ?_
  refine vx_calli (vx_runV (As := [.int (iI a), .int (iI b)]) (rest := [.int (iI (0)), .ref (ad 50 0)]) X.fix (c_X4_hold l htr g s0 n ad C c0 hC hR hc0 a b ha hb hz) (cwV 2 X.2.2.2.2.1 gL_hold_X4_hold rfl rfl rfl (by decide +kernel) ⟨Nat.le_of_ble_eq_true rfl, Nat.le_of_ble_eq_true rfl⟩) (q_preV X hP hS [.int (iI a), .int (iI b)] (kd := 4) (by decide) rfl h4) rfl rfl hl.1 rfl (lv_room (Nat.le_of_ble_eq_true rfl)) dL_hold_5 ⟨Nat.le_of_ble_eq_true rfl, Nat.le_of_ble_eq_true rfl⟩) hS q_id q_id1 q_id ?_ (fun r u t H locs ht hvm hw hB hz1 hk1 hS => ?_)
  · intro E ce q9 u t H locs ht hvm hpx hBX hz1 hk1 hS hce hcv hcl
    have hP : q_P g s0 n ad C H := q_back hBX.2 ht
    have hZW := X.2.2.2.2.2.2.1.2.2
    have hE : (E = "java/util/NoSuchElementException" ∧ xX4_hold n C a b "java/util/NoSuchElementException") := by
      have hx := hBX.1
      unfold xX4_hold at hx ⊢
      rcases hx with hx
      · exact ⟨hx.1, ⟨rfl, hx.2⟩⟩
    obtain ⟨rfl, hE⟩ := hE
    refine vx_catch (own := RL) (name := "java/util/NoSuchElementException") X.2.2.2.1 [] ⟨0, 10, 13, 25⟩ [] htb (fun z hz => absurd hz List.not_mem_nil) (by decide) (by decide) (X.2.2.2.2.1 _ (by decide +kernel)) (va_Nw.use rfl (hZW.2.1 _ (by decide))) hce hcv hcl ?_
    refine lv_astore (lv' := [(4, .ref q9), (0, .ref (ad 4 0)), (1, .int (iI a)), (2, .int (iI b)), (3, .ref (ad 50 0))]) X.1 X.2.1 dL_hold_13 hl (by decide) rfl (fun ls hl => ?_)
    refine lv_iconst (v := iI (1)) X.1 X.2.1 dL_hold_15 rfl ?_
    exact q_iret X hr hlocks hP hS (Or.inr (⟨hE, rfl, rfl⟩)) (Nat.le_of_ble_eq_true rfl) (Nat.le_of_ble_eq_true rfl) dL_hold_16
  · obtain ⟨n1, ad1, C1⟩ := u
    have hf := f_X4_hold hw
    have hP : q_P g s0 n1 ad1 C1 H := q_back hB ht
    obtain ⟨z, hzr, rfl⟩ := iI_of r
    have e50 : ad 50 0 = ad1 50 0 := hf.2.2.1.symm
    have h51 : 0 < n1 50 := by have := hf.2.2.2 50 (by decide); dsimp only at this; omega
    refine W.eq (g2 := F0 m 8 ls [.int (iI z), .int (iI (0)), .ref (ad1 50 0)]) (by rw [e50]; first | done | rfl) ?_
    have hl : lv_has ls 5 [(1, .int (iI a)), (2, .int (iI b))] := lv_sub hl [1, 2] rfl
    refine q_i2l X hzr dL_hold_8 ?_
    refine q_lstv (len := 1) (x := z) (z := (0)) X hP hS 50 0 (by decide) rfl rfl h51 rfl (by decide) (by decide) (q_3264 hzr) dL_hold_9 (fun H locs hP hS => ?_)
    have hP : q_P g s0 n1 ad1 (q_up C1 50 0 0 z) H := hP
    refine lv_goto (tgt := 17) X.1 X.2.1 dL_hold_10 (by decide) ?_
    refine lv_iconst (v := iI (0)) X.1 X.2.1 dL_hold_17 rfl ?_
    exact q_iret X hr hlocks hP hS (Or.inl ⟨_, z, hzr, hw, rfl, rfl⟩) (Nat.le_of_ble_eq_true rfl) (Nat.le_of_ble_eq_true rfl) dL_hold_18
theorem f_X4_cancel {n : Nat → Nat} {ad : Nat → Nat → Nat} {C : q_S} {a : Int} {r : Int32} {u : q_U} (h : tX4_cancel n ad C a r u) : u.2.1 4 0 = ad 4 0 ∧ u.2.1 5 0 = ad 5 0 ∧ u.2.1 50 0 = ad 50 0 ∧ ∀ k, 4 ≤ k → u.1 k = n k := by
  rcases h with ⟨p0_h_1, p1_h_4, rfl, -⟩ | ⟨p0_h_1, p1_h_4, rfl, -⟩
  · exact ⟨rfl, rfl, rfl, fun k hk => rfl⟩
  · exact ⟨rfl, rfl, rfl, fun k hk => rfl⟩
def pL_cancel (n : Nat → Nat) (ad : Nat → Nat → Nat) (C : q_S) (a : Int) (r : Int32) (u : q_U) : Prop :=
  (∃ (v : q_U) (z : Int), R32 z ∧ tX4_cancel n ad C a (iI z) v ∧ u = (v.1, v.2.1, q_up v.2.2 50 0 0 z) ∧ r = iI 0) ∨
  (xX4_cancel n C a "java/util/NoSuchElementException" ∧ u = (n, ad, C) ∧ r = iI 1)
set_option maxHeartbeats 4000000 in
set_option maxRecDepth 100000 in
theorem c_L_cancel (l : Launch) (htr : l.stackTraces = false) (g : q_G) (s0 : Nat) (n : Nat → Nat) (ad : Nat → Nat → Nat) (C : q_S) (c0 : Nat) (hC : c_S C n) (hR : c_R C n c0) (hc0 : c0 ≤ 511) (h50 : 0 < n 50) (a : Int) (ha : R32 a) : Met l yL_cancel wsL_cancel ({ frames := 8, cells := 1, slots := 6, locals := 136 }) (va_Pc [.ref (ad 4 0), .int (iI a), .ref (ad 50 0)] (q_B g s0 (n, ad, C))) (va_Qi (pL_cancel n ad C a) (q_B g s0) (q_A s0)) 1 6 (q_A s0) := by
  refine va_MetW (cc := cL_cancel) (maxL := 4) (ret := (some .int)) (hh := [(0, 9, 12, 25)]) (by decide) rfl ?_
  intro p e s m args below meth c s₁ B hml hv
  obtain ⟨rfl, hv⟩ := hv
  have hr := B.returns
  have hlocks := B.notSynchronized
  obtain ⟨X, hP⟩ := q_start B.exec B.bytes hml (show s.vm.findClass RL = some m.cls from findClass_of_methodNamed B.named) (atoms_spec (ws := wsL_cancel) B.pre) hv
  have hP : q_P g s0 n ad C s.heap := hP
  have hS : va_S (q_A s0) s.heap s.heap [] := va_S.rf
  have h4 : 0 < n 4 := c_v4 hC
  have htb : c.exceptionTable.toList = [⟨0, 9, 12, 25⟩] := vx_table (x := yL_cancel) (hh := [(0, 9, 12, 25)]) B (X.2.2.2.2.1 _ List.mem_cons_self)
  have hl := lv_entry ([.ref (ad 4 0), .int (iI a), .ref (ad 50 0)]) (n := 4) (Nat.le_of_ble_eq_true rfl)
  rw [lg_entry_eq]
  generalize (lg_sl ([.ref (ad 4 0), .int (iI a), .ref (ad 50 0)]) ++ List.replicate (4 - (lg_sl ([.ref (ad 4 0), .int (iI a), .ref (ad 50 0)])).length) Slot.unset).toArray = ls at hl ⊢
  have hl : lv_has ls 4 [(0, .ref (ad 4 0)), (1, .int (iI a)), (2, .ref (ad 50 0))] := hl
  refine lv_aload_n X.1 X.2.1 dL_cancel_0 rfl (lv_at hl 2 rfl) ?_
  refine lv_iconst (v := iI (0)) X.1 X.2.1 dL_cancel_1 rfl ?_
  refine lv_aload_n X.1 X.2.1 dL_cancel_2 rfl (lv_at hl 0 rfl) ?_
  refine lv_iload_n X.1 X.2.1 dL_cancel_3 rfl (lv_at hl 1 rfl) ?_
  refine vx_calli (vx_runV (As := [.int (iI a)]) (rest := [.int (iI (0)), .ref (ad 50 0)]) X.fix (c_X4_cancel l htr g s0 n ad C c0 hC hR hc0 a ha) (cwV 1 X.2.2.2.2.1 gL_cancel_X4_cancel rfl rfl rfl (by decide +kernel) ⟨Nat.le_of_ble_eq_true rfl, Nat.le_of_ble_eq_true rfl⟩) (q_preV X hP hS [.int (iI a)] (kd := 4) (by decide) rfl h4) rfl rfl hl.1 rfl (lv_room (Nat.le_of_ble_eq_true rfl)) dL_cancel_4 ⟨Nat.le_of_ble_eq_true rfl, Nat.le_of_ble_eq_true rfl⟩) hS q_id q_id1 q_id ?_ (fun r u t H locs ht hvm hw hB hz1 hk1 hS => ?_)
  · intro E ce q9 u t H locs ht hvm hpx hBX hz1 hk1 hS hce hcv hcl
    have hP : q_P g s0 n ad C H := q_back hBX.2 ht
    have hZW := X.2.2.2.2.2.2.1.2.2
    have hE : (E = "java/util/NoSuchElementException" ∧ xX4_cancel n C a "java/util/NoSuchElementException") := by
      have hx := hBX.1
      unfold xX4_cancel at hx ⊢
      rcases hx with hx
      · exact ⟨hx.1, ⟨rfl, hx.2⟩⟩
    obtain ⟨rfl, hE⟩ := hE
    refine vx_catch (own := RL) (name := "java/util/NoSuchElementException") X.2.2.2.1 [] ⟨0, 9, 12, 25⟩ [] htb (fun z hz => absurd hz List.not_mem_nil) (by decide) (by decide) (X.2.2.2.2.1 _ (by decide +kernel)) (va_Nw.use rfl (hZW.2.1 _ (by decide))) hce hcv hcl ?_
    refine lv_astore_n (lv' := [(3, .ref q9), (0, .ref (ad 4 0)), (1, .int (iI a)), (2, .ref (ad 50 0))]) X.1 X.2.1 dL_cancel_12 rfl hl (by decide) rfl (fun ls hl => ?_)
    refine lv_iconst (v := iI (1)) X.1 X.2.1 dL_cancel_13 rfl ?_
    exact q_iret X hr hlocks hP hS (Or.inr (⟨hE, rfl, rfl⟩)) (Nat.le_of_ble_eq_true rfl) (Nat.le_of_ble_eq_true rfl) dL_cancel_14
  · obtain ⟨n1, ad1, C1⟩ := u
    have hf := f_X4_cancel hw
    have hP : q_P g s0 n1 ad1 C1 H := q_back hB ht
    obtain ⟨z, hzr, rfl⟩ := iI_of r
    have e50 : ad 50 0 = ad1 50 0 := hf.2.2.1.symm
    have h51 : 0 < n1 50 := by have := hf.2.2.2 50 (by decide); dsimp only at this; omega
    refine W.eq (g2 := F0 m 7 ls [.int (iI z), .int (iI (0)), .ref (ad1 50 0)]) (by rw [e50]; first | done | rfl) ?_
    have hl : lv_has ls 4 [(1, .int (iI a))] := lv_sub hl [1] rfl
    refine q_i2l X hzr dL_cancel_7 ?_
    refine q_lstv (len := 1) (x := z) (z := (0)) X hP hS 50 0 (by decide) rfl rfl h51 rfl (by decide) (by decide) (q_3264 hzr) dL_cancel_8 (fun H locs hP hS => ?_)
    have hP : q_P g s0 n1 ad1 (q_up C1 50 0 0 z) H := hP
    refine lv_goto (tgt := 15) X.1 X.2.1 dL_cancel_9 (by decide) ?_
    refine lv_iconst (v := iI (0)) X.1 X.2.1 dL_cancel_15 rfl ?_
    exact q_iret X hr hlocks hP hS (Or.inl ⟨_, z, hzr, hw, rfl, rfl⟩) (Nat.le_of_ble_eq_true rfl) (Nat.le_of_ble_eq_true rfl) dL_cancel_16
theorem f_X4_state {n : Nat → Nat} {ad : Nat → Nat → Nat} {C : q_S} {a b : Int} {r : Int32} {u : q_U} (h : tX4_state n ad C a b r u) : u.2.1 4 0 = ad 4 0 ∧ u.2.1 5 0 = ad 5 0 ∧ u.2.1 50 0 = ad 50 0 ∧ ∀ k, 4 ≤ k → u.1 k = n k := by
  rcases h with ⟨p0_h_1, p1_h_2, rfl, -⟩ | ⟨p0_h_1, p1_h_2, p2_h_3, rfl, -⟩ | ⟨p0_h_1, p1_h_2, p2_h_3, p3_h_4, rfl, -⟩ | ⟨p0_h_1, p1_h_2, p2_h_3, p3_h_4, p4_h_5, rfl, -⟩ | ⟨p0_h_1, p1_h_2, p2_h_3, p3_h_4, p4_h_5, p5_h_6, rfl, -⟩
  · exact ⟨rfl, rfl, rfl, fun k hk => rfl⟩
  · exact ⟨rfl, rfl, rfl, fun k hk => rfl⟩
  · exact ⟨rfl, rfl, rfl, fun k hk => rfl⟩
  · exact ⟨rfl, rfl, rfl, fun k hk => rfl⟩
  · exact ⟨rfl, rfl, rfl, fun k hk => rfl⟩
def pL_state (n : Nat → Nat) (ad : Nat → Nat → Nat) (C : q_S) (a b : Int) (r : Int32) (u : q_U) : Prop :=
  (∃ (v : q_U) (z : Int), R32 z ∧ tX4_state n ad C a b (iI z) v ∧ u = (v.1, v.2.1, q_up v.2.2 50 0 0 z) ∧ r = iI 0) ∨
  (xX4_state n C a b "java/util/NoSuchElementException" ∧ u = (n, ad, C) ∧ r = iI 1) ∨
  (xX4_state n C a b "java/lang/IndexOutOfBoundsException" ∧ u = (n, ad, C) ∧ r = iI 2)
set_option maxHeartbeats 4000000 in
set_option maxRecDepth 100000 in
theorem c_L_state (l : Launch) (htr : l.stackTraces = false) (g : q_G) (s0 : Nat) (n : Nat → Nat) (ad : Nat → Nat → Nat) (C : q_S) (c0 : Nat) (hC : c_S C n) (hR : c_R C n c0) (hc0 : c0 ≤ 511) (h50 : 0 < n 50) (a b : Int) (ha : R32 a) (hb : R32 b) : Met l yL_state wsL_state ({ frames := 8, cells := 2, slots := 12, locals := 135 }) (va_Pc [.ref (ad 4 0), .int (iI a), .int (iI b), .ref (ad 50 0)] (q_B g s0 (n, ad, C))) (va_Qi (pL_state n ad C a b) (q_B g s0) (q_A s0)) 2 12 (q_A s0) := by
  refine va_MetW (cc := cL_state) (maxL := 5) (ret := (some .int)) (hh := [(0, 10, 13, 25), (0, 10, 17, 50)]) (by decide) rfl ?_
  intro p e s m args below meth c s₁ B hml hv
  obtain ⟨rfl, hv⟩ := hv
  have hr := B.returns
  have hlocks := B.notSynchronized
  obtain ⟨X, hP⟩ := q_start B.exec B.bytes hml (show s.vm.findClass RL = some m.cls from findClass_of_methodNamed B.named) (atoms_spec (ws := wsL_state) B.pre) hv
  have hP : q_P g s0 n ad C s.heap := hP
  have hS : va_S (q_A s0) s.heap s.heap [] := va_S.rf
  have h4 : 0 < n 4 := c_v4 hC
  have htb : c.exceptionTable.toList = [⟨0, 10, 13, 25⟩, ⟨0, 10, 17, 50⟩] := vx_table (x := yL_state) (hh := [(0, 10, 13, 25), (0, 10, 17, 50)]) B (X.2.2.2.2.1 _ List.mem_cons_self)
  have hl := lv_entry ([.ref (ad 4 0), .int (iI a), .int (iI b), .ref (ad 50 0)]) (n := 5) (Nat.le_of_ble_eq_true rfl)
  rw [lg_entry_eq]
  generalize (lg_sl ([.ref (ad 4 0), .int (iI a), .int (iI b), .ref (ad 50 0)]) ++ List.replicate (5 - (lg_sl ([.ref (ad 4 0), .int (iI a), .int (iI b), .ref (ad 50 0)])).length) Slot.unset).toArray = ls at hl ⊢
  have hl : lv_has ls 5 [(0, .ref (ad 4 0)), (1, .int (iI a)), (2, .int (iI b)), (3, .ref (ad 50 0))] := hl
  refine lv_aload_n X.1 X.2.1 dL_state_0 rfl (lv_at hl 3 rfl) ?_
  refine lv_iconst (v := iI (0)) X.1 X.2.1 dL_state_1 rfl ?_
  refine lv_aload_n X.1 X.2.1 dL_state_2 rfl (lv_at hl 0 rfl) ?_
  refine lv_iload_n X.1 X.2.1 dL_state_3 rfl (lv_at hl 1 rfl) ?_
  refine lv_iload_n X.1 X.2.1 dL_state_4 rfl (lv_at hl 2 rfl) ?_
  refine vx_calli (vx_runV (As := [.int (iI a), .int (iI b)]) (rest := [.int (iI (0)), .ref (ad 50 0)]) X.fix (c_X4_state l htr g s0 n ad C c0 hC hR hc0 a b ha hb) (cwV 2 X.2.2.2.2.1 gL_state_X4_state rfl rfl rfl (by decide +kernel) ⟨Nat.le_of_ble_eq_true rfl, Nat.le_of_ble_eq_true rfl⟩) (q_preV X hP hS [.int (iI a), .int (iI b)] (kd := 4) (by decide) rfl h4) rfl rfl hl.1 rfl (lv_room (Nat.le_of_ble_eq_true rfl)) dL_state_5 ⟨Nat.le_of_ble_eq_true rfl, Nat.le_of_ble_eq_true rfl⟩) hS q_id q_id1 q_id ?_ (fun r u t H locs ht hvm hw hB hz1 hk1 hS => ?_)
  · intro E ce q9 u t H locs ht hvm hpx hBX hz1 hk1 hS hce hcv hcl
    have hP : q_P g s0 n ad C H := q_back hBX.2 ht
    have hZW := X.2.2.2.2.2.2.1.2.2
    have hE : (E = "java/util/NoSuchElementException" ∧ xX4_state n C a b "java/util/NoSuchElementException") ∨ (E = "java/lang/IndexOutOfBoundsException" ∧ xX4_state n C a b "java/lang/IndexOutOfBoundsException") := by
      have hx := hBX.1
      unfold xX4_state at hx ⊢
      rcases hx with hx | hx
      · exact Or.inl ⟨hx.1, Or.inl ⟨rfl, hx.2⟩⟩
      · exact Or.inr (⟨hx.1, Or.inr (⟨rfl, hx.2⟩)⟩)
    rcases hE with ⟨rfl, hE⟩ | ⟨rfl, hE⟩
    · refine vx_catch (own := RL) (name := "java/util/NoSuchElementException") X.2.2.2.1 [] ⟨0, 10, 13, 25⟩ [⟨0, 10, 17, 50⟩] htb (fun z hz => absurd hz List.not_mem_nil) (by decide) (by decide) (X.2.2.2.2.1 _ (by decide +kernel)) (va_Nw.use rfl (hZW.2.1 _ (by decide))) hce hcv hcl ?_
      refine lv_astore (lv' := [(4, .ref q9), (0, .ref (ad 4 0)), (1, .int (iI a)), (2, .int (iI b)), (3, .ref (ad 50 0))]) X.1 X.2.1 dL_state_13 hl (by decide) rfl (fun ls hl => ?_)
      refine lv_iconst (v := iI (1)) X.1 X.2.1 dL_state_15 rfl ?_
      exact q_iret X hr hlocks hP hS (Or.inr (Or.inl ⟨hE, rfl, rfl⟩)) (Nat.le_of_ble_eq_true rfl) (Nat.le_of_ble_eq_true rfl) dL_state_16
    · refine vx_catch (own := RL) (name := "java/lang/IndexOutOfBoundsException") X.2.2.2.1 [⟨0, 10, 13, 25⟩] ⟨0, 10, 17, 50⟩ [] htb (fun z hz => by simp only [List.mem_cons, List.not_mem_nil, or_false] at hz; subst hz; exact Or.inr ⟨by decide, "java/util/NoSuchElementException", X.2.2.2.2.1 _ (by decide +kernel), hZW.2.2 _ (by decide) _ (by decide) (by decide)⟩) (by decide) (by decide) (X.2.2.2.2.1 _ (by decide +kernel)) (va_Nw.use rfl (hZW.2.1 _ (by decide))) hce hcv hcl ?_
      refine lv_astore (lv' := [(4, .ref q9), (0, .ref (ad 4 0)), (1, .int (iI a)), (2, .int (iI b)), (3, .ref (ad 50 0))]) X.1 X.2.1 dL_state_17 hl (by decide) rfl (fun ls hl => ?_)
      refine lv_iconst (v := iI (2)) X.1 X.2.1 dL_state_19 rfl ?_
      exact q_iret X hr hlocks hP hS (Or.inr (Or.inr (⟨hE, rfl, rfl⟩))) (Nat.le_of_ble_eq_true rfl) (Nat.le_of_ble_eq_true rfl) dL_state_20
  · obtain ⟨n1, ad1, C1⟩ := u
    have hf := f_X4_state hw
    have hP : q_P g s0 n1 ad1 C1 H := q_back hB ht
    obtain ⟨z, hzr, rfl⟩ := iI_of r
    have e50 : ad 50 0 = ad1 50 0 := hf.2.2.1.symm
    have h51 : 0 < n1 50 := by have := hf.2.2.2 50 (by decide); dsimp only at this; omega
    refine W.eq (g2 := F0 m 8 ls [.int (iI z), .int (iI (0)), .ref (ad1 50 0)]) (by rw [e50]; first | done | rfl) ?_
    have hl : lv_has ls 5 [(1, .int (iI a)), (2, .int (iI b))] := lv_sub hl [1, 2] rfl
    refine q_i2l X hzr dL_state_8 ?_
    refine q_lstv (len := 1) (x := z) (z := (0)) X hP hS 50 0 (by decide) rfl rfl h51 rfl (by decide) (by decide) (q_3264 hzr) dL_state_9 (fun H locs hP hS => ?_)
    have hP : q_P g s0 n1 ad1 (q_up C1 50 0 0 z) H := hP
    refine lv_goto (tgt := 21) X.1 X.2.1 dL_state_10 (by decide) ?_
    refine lv_iconst (v := iI (0)) X.1 X.2.1 dL_state_21 rfl ?_
    exact q_iret X hr hlocks hP hS (Or.inl ⟨_, z, hzr, hw, rfl, rfl⟩) (Nat.le_of_ble_eq_true rfl) (Nat.le_of_ble_eq_true rfl) dL_state_22
theorem f_X4_doubled {n : Nat → Nat} {ad : Nat → Nat → Nat} {C : q_S} {a b : Int} {r : Int32} {u : q_U} (h : tX4_doubled n ad C a b r u) : u.2.1 4 0 = ad 4 0 ∧ u.2.1 5 0 = ad 5 0 ∧ u.2.1 50 0 = ad 50 0 ∧ ∀ k, 4 ≤ k → u.1 k = n k := by
  rcases h with ⟨p0_h_1, p1_hf, p2_h_4, rfl, -⟩ | ⟨k, p0_h_1, p1_hk, p2_hf1, p3_hf2, rfl, -⟩
  · exact ⟨rfl, rfl, rfl, fun k hk => rfl⟩
  · exact ⟨rfl, rfl, rfl, fun k hk => rfl⟩
def pL_doubled (n : Nat → Nat) (ad : Nat → Nat → Nat) (C : q_S) (a b : Int) (r : Int32) (u : q_U) : Prop :=
  (∃ (v : q_U) (z : Int), R32 z ∧ tX4_doubled n ad C a b (iI z) v ∧ u = (v.1, v.2.1, q_up v.2.2 50 0 0 z) ∧ r = iI 0) ∨
  (xX4_doubled n C a b "java/util/NoSuchElementException" ∧ u = (n, ad, C) ∧ r = iI 1) ∨
  (xX4_doubled n C a b "java/lang/IndexOutOfBoundsException" ∧ u = (n, ad, C) ∧ r = iI 2)
set_option maxHeartbeats 4000000 in
set_option maxRecDepth 100000 in
theorem c_L_doubled (l : Launch) (htr : l.stackTraces = false) (g : q_G) (s0 : Nat) (n : Nat → Nat) (ad : Nat → Nat → Nat) (C : q_S) (c0 : Nat) (hC : c_S C n) (hR : c_R C n c0) (hc0 : c0 ≤ 511) (h50 : 0 < n 50) (a b : Int) (ha : R32 a) (hb : R32 b) : Met l yL_doubled wsL_doubled ({ frames := 8, cells := 2, slots := 12, locals := 137 }) (va_Pc [.ref (ad 4 0), .int (iI a), .int (iI b), .ref (ad 50 0)] (q_B g s0 (n, ad, C))) (va_Qi (pL_doubled n ad C a b) (q_B g s0) (q_A s0)) 2 12 (q_A s0) := by
  refine va_MetW (cc := cL_doubled) (maxL := 5) (ret := (some .int)) (hh := [(0, 10, 13, 25), (0, 10, 17, 50)]) (by decide) rfl ?_
  intro p e s m args below meth c s₁ B hml hv
  obtain ⟨rfl, hv⟩ := hv
  have hr := B.returns
  have hlocks := B.notSynchronized
  obtain ⟨X, hP⟩ := q_start B.exec B.bytes hml (show s.vm.findClass RL = some m.cls from findClass_of_methodNamed B.named) (atoms_spec (ws := wsL_doubled) B.pre) hv
  have hP : q_P g s0 n ad C s.heap := hP
  have hS : va_S (q_A s0) s.heap s.heap [] := va_S.rf
  have h4 : 0 < n 4 := c_v4 hC
  have htb : c.exceptionTable.toList = [⟨0, 10, 13, 25⟩, ⟨0, 10, 17, 50⟩] := vx_table (x := yL_doubled) (hh := [(0, 10, 13, 25), (0, 10, 17, 50)]) B (X.2.2.2.2.1 _ List.mem_cons_self)
  have hl := lv_entry ([.ref (ad 4 0), .int (iI a), .int (iI b), .ref (ad 50 0)]) (n := 5) (Nat.le_of_ble_eq_true rfl)
  rw [lg_entry_eq]
  generalize (lg_sl ([.ref (ad 4 0), .int (iI a), .int (iI b), .ref (ad 50 0)]) ++ List.replicate (5 - (lg_sl ([.ref (ad 4 0), .int (iI a), .int (iI b), .ref (ad 50 0)])).length) Slot.unset).toArray = ls at hl ⊢
  have hl : lv_has ls 5 [(0, .ref (ad 4 0)), (1, .int (iI a)), (2, .int (iI b)), (3, .ref (ad 50 0))] := hl
  refine lv_aload_n X.1 X.2.1 dL_doubled_0 rfl (lv_at hl 3 rfl) ?_
  refine lv_iconst (v := iI (0)) X.1 X.2.1 dL_doubled_1 rfl ?_
  refine lv_aload_n X.1 X.2.1 dL_doubled_2 rfl (lv_at hl 0 rfl) ?_
  refine lv_iload_n X.1 X.2.1 dL_doubled_3 rfl (lv_at hl 1 rfl) ?_
  refine lv_iload_n X.1 X.2.1 dL_doubled_4 rfl (lv_at hl 2 rfl) ?_
  refine vx_calli (vx_runV (As := [.int (iI a), .int (iI b)]) (rest := [.int (iI (0)), .ref (ad 50 0)]) X.fix (c_X4_doubled l htr g s0 n ad C c0 hC hR hc0 a b ha hb) (cwV 2 X.2.2.2.2.1 gL_doubled_X4_doubled rfl rfl rfl (by decide +kernel) ⟨Nat.le_of_ble_eq_true rfl, Nat.le_of_ble_eq_true rfl⟩) (q_preV X hP hS [.int (iI a), .int (iI b)] (kd := 4) (by decide) rfl h4) rfl rfl hl.1 rfl (lv_room (Nat.le_of_ble_eq_true rfl)) dL_doubled_5 ⟨Nat.le_of_ble_eq_true rfl, Nat.le_of_ble_eq_true rfl⟩) hS q_id q_id1 q_id ?_ (fun r u t H locs ht hvm hw hB hz1 hk1 hS => ?_)
  · intro E ce q9 u t H locs ht hvm hpx hBX hz1 hk1 hS hce hcv hcl
    have hP : q_P g s0 n ad C H := q_back hBX.2 ht
    have hZW := X.2.2.2.2.2.2.1.2.2
    have hE : (E = "java/util/NoSuchElementException" ∧ xX4_doubled n C a b "java/util/NoSuchElementException") ∨ (E = "java/lang/IndexOutOfBoundsException" ∧ xX4_doubled n C a b "java/lang/IndexOutOfBoundsException") := by
      have hx := hBX.1
      unfold xX4_doubled at hx ⊢
      rcases hx with hx | hx
      · exact Or.inl ⟨hx.1, Or.inl ⟨rfl, hx.2⟩⟩
      · exact Or.inr (⟨hx.1, Or.inr (⟨rfl, hx.2⟩)⟩)
    rcases hE with ⟨rfl, hE⟩ | ⟨rfl, hE⟩
    · refine vx_catch (own := RL) (name := "java/util/NoSuchElementException") X.2.2.2.1 [] ⟨0, 10, 13, 25⟩ [⟨0, 10, 17, 50⟩] htb (fun z hz => absurd hz List.not_mem_nil) (by decide) (by decide) (X.2.2.2.2.1 _ (by decide +kernel)) (va_Nw.use rfl (hZW.2.1 _ (by decide))) hce hcv hcl ?_
      refine lv_astore (lv' := [(4, .ref q9), (0, .ref (ad 4 0)), (1, .int (iI a)), (2, .int (iI b)), (3, .ref (ad 50 0))]) X.1 X.2.1 dL_doubled_13 hl (by decide) rfl (fun ls hl => ?_)
      refine lv_iconst (v := iI (1)) X.1 X.2.1 dL_doubled_15 rfl ?_
      exact q_iret X hr hlocks hP hS (Or.inr (Or.inl ⟨hE, rfl, rfl⟩)) (Nat.le_of_ble_eq_true rfl) (Nat.le_of_ble_eq_true rfl) dL_doubled_16
    · refine vx_catch (own := RL) (name := "java/lang/IndexOutOfBoundsException") X.2.2.2.1 [⟨0, 10, 13, 25⟩] ⟨0, 10, 17, 50⟩ [] htb (fun z hz => by simp only [List.mem_cons, List.not_mem_nil, or_false] at hz; subst hz; exact Or.inr ⟨by decide, "java/util/NoSuchElementException", X.2.2.2.2.1 _ (by decide +kernel), hZW.2.2 _ (by decide) _ (by decide) (by decide)⟩) (by decide) (by decide) (X.2.2.2.2.1 _ (by decide +kernel)) (va_Nw.use rfl (hZW.2.1 _ (by decide))) hce hcv hcl ?_
      refine lv_astore (lv' := [(4, .ref q9), (0, .ref (ad 4 0)), (1, .int (iI a)), (2, .int (iI b)), (3, .ref (ad 50 0))]) X.1 X.2.1 dL_doubled_17 hl (by decide) rfl (fun ls hl => ?_)
      refine lv_iconst (v := iI (2)) X.1 X.2.1 dL_doubled_19 rfl ?_
      exact q_iret X hr hlocks hP hS (Or.inr (Or.inr (⟨hE, rfl, rfl⟩))) (Nat.le_of_ble_eq_true rfl) (Nat.le_of_ble_eq_true rfl) dL_doubled_20
  · obtain ⟨n1, ad1, C1⟩ := u
    have hf := f_X4_doubled hw
    have hP : q_P g s0 n1 ad1 C1 H := q_back hB ht
    obtain ⟨z, hzr, rfl⟩ := iI_of r
    have e50 : ad 50 0 = ad1 50 0 := hf.2.2.1.symm
    have h51 : 0 < n1 50 := by have := hf.2.2.2 50 (by decide); dsimp only at this; omega
    refine W.eq (g2 := F0 m 8 ls [.int (iI z), .int (iI (0)), .ref (ad1 50 0)]) (by rw [e50]; first | done | rfl) ?_
    have hl : lv_has ls 5 [(1, .int (iI a)), (2, .int (iI b))] := lv_sub hl [1, 2] rfl
    refine q_i2l X hzr dL_doubled_8 ?_
    refine q_lstv (len := 1) (x := z) (z := (0)) X hP hS 50 0 (by decide) rfl rfl h51 rfl (by decide) (by decide) (q_3264 hzr) dL_doubled_9 (fun H locs hP hS => ?_)
    have hP : q_P g s0 n1 ad1 (q_up C1 50 0 0 z) H := hP
    refine lv_goto (tgt := 21) X.1 X.2.1 dL_doubled_10 (by decide) ?_
    refine lv_iconst (v := iI (0)) X.1 X.2.1 dL_doubled_21 rfl ?_
    exact q_iret X hr hlocks hP hS (Or.inl ⟨_, z, hzr, hw, rfl, rfl⟩) (Nat.le_of_ble_eq_true rfl) (Nat.le_of_ble_eq_true rfl) dL_doubled_22
theorem f_X4_account {n : Nat → Nat} {ad : Nat → Nat → Nat} {C : q_S} {a b : Int} {r : Int64} {u : q_U} (h : tX4_account n ad C a b r u) : u.2.1 4 0 = ad 4 0 ∧ u.2.1 5 0 = ad 5 0 ∧ u.2.1 50 0 = ad 50 0 ∧ ∀ k, 4 ≤ k → u.1 k = n k := by
  rcases h with ⟨p0_h_1, p1_h_2, rfl, -⟩ | ⟨p0_h_1, p1_h_2, p2_h_4, rfl, -⟩ | ⟨p0_h_1, p1_h_2, p2_h_4, p3_h_6, rfl, -⟩ | ⟨p0_h_1, p1_h_2, p2_h_4, p3_h_6, p4_h_8, rfl, -⟩
  · exact ⟨rfl, rfl, rfl, fun k hk => rfl⟩
  · exact ⟨rfl, rfl, rfl, fun k hk => rfl⟩
  · exact ⟨rfl, rfl, rfl, fun k hk => rfl⟩
  · exact ⟨rfl, rfl, rfl, fun k hk => rfl⟩
def pL_account (n : Nat → Nat) (ad : Nat → Nat → Nat) (C : q_S) (a b : Int) (r : Int32) (u : q_U) : Prop :=
  (∃ (v : q_U) (z : Int), R64 z ∧ tX4_account n ad C a b (jI z) v ∧ u = (v.1, v.2.1, q_up v.2.2 50 0 0 z) ∧ r = iI 0) ∨
  (xX4_account n C a b "java/util/NoSuchElementException" ∧ u = (n, ad, C) ∧ r = iI 1) ∨
  (xX4_account n C a b "java/lang/IndexOutOfBoundsException" ∧ u = (n, ad, C) ∧ r = iI 2)
set_option maxHeartbeats 4000000 in
set_option maxRecDepth 100000 in
theorem c_L_account (l : Launch) (htr : l.stackTraces = false) (g : q_G) (s0 : Nat) (n : Nat → Nat) (ad : Nat → Nat → Nat) (C : q_S) (c0 : Nat) (hC : c_S C n) (hR : c_R C n c0) (hc0 : c0 ≤ 511) (h50 : 0 < n 50) (a b : Int) (ha : R32 a) (hb : R32 b) : Met l yL_account wsL_account ({ frames := 8, cells := 2, slots := 12, locals := 135 }) (va_Pc [.ref (ad 4 0), .int (iI a), .int (iI b), .ref (ad 50 0)] (q_B g s0 (n, ad, C))) (va_Qi (pL_account n ad C a b) (q_B g s0) (q_A s0)) 2 12 (q_A s0) := by
  refine va_MetW (cc := cL_account) (maxL := 5) (ret := (some .int)) (hh := [(0, 9, 12, 25), (0, 9, 16, 50)]) (by decide) rfl ?_
  intro p e s m args below meth c s₁ B hml hv
  obtain ⟨rfl, hv⟩ := hv
  have hr := B.returns
  have hlocks := B.notSynchronized
  obtain ⟨X, hP⟩ := q_start B.exec B.bytes hml (show s.vm.findClass RL = some m.cls from findClass_of_methodNamed B.named) (atoms_spec (ws := wsL_account) B.pre) hv
  have hP : q_P g s0 n ad C s.heap := hP
  have hS : va_S (q_A s0) s.heap s.heap [] := va_S.rf
  have h4 : 0 < n 4 := c_v4 hC
  have htb : c.exceptionTable.toList = [⟨0, 9, 12, 25⟩, ⟨0, 9, 16, 50⟩] := vx_table (x := yL_account) (hh := [(0, 9, 12, 25), (0, 9, 16, 50)]) B (X.2.2.2.2.1 _ List.mem_cons_self)
  have hl := lv_entry ([.ref (ad 4 0), .int (iI a), .int (iI b), .ref (ad 50 0)]) (n := 5) (Nat.le_of_ble_eq_true rfl)
  rw [lg_entry_eq]
  generalize (lg_sl ([.ref (ad 4 0), .int (iI a), .int (iI b), .ref (ad 50 0)]) ++ List.replicate (5 - (lg_sl ([.ref (ad 4 0), .int (iI a), .int (iI b), .ref (ad 50 0)])).length) Slot.unset).toArray = ls at hl ⊢
  have hl : lv_has ls 5 [(0, .ref (ad 4 0)), (1, .int (iI a)), (2, .int (iI b)), (3, .ref (ad 50 0))] := hl
  refine lv_aload_n X.1 X.2.1 dL_account_0 rfl (lv_at hl 3 rfl) ?_
  refine lv_iconst (v := iI (0)) X.1 X.2.1 dL_account_1 rfl ?_
  refine lv_aload_n X.1 X.2.1 dL_account_2 rfl (lv_at hl 0 rfl) ?_
  refine lv_iload_n X.1 X.2.1 dL_account_3 rfl (lv_at hl 1 rfl) ?_
  refine lv_iload_n X.1 X.2.1 dL_account_4 rfl (lv_at hl 2 rfl) ?_
  refine vx_calll (vx_runV (As := [.int (iI a), .int (iI b)]) (rest := [.int (iI (0)), .ref (ad 50 0)]) X.fix (c_X4_account l htr g s0 n ad C c0 hC hR hc0 a b ha hb) (cwV 2 X.2.2.2.2.1 gL_account_X4_account rfl rfl rfl (by decide +kernel) ⟨Nat.le_of_ble_eq_true rfl, Nat.le_of_ble_eq_true rfl⟩) (q_preV X hP hS [.int (iI a), .int (iI b)] (kd := 4) (by decide) rfl h4) rfl rfl hl.1 rfl (lv_room (Nat.le_of_ble_eq_true rfl)) dL_account_5 ⟨Nat.le_of_ble_eq_true rfl, Nat.le_of_ble_eq_true rfl⟩) hS q_id q_id1 q_id ?_ (fun r u t H locs ht hvm hw hB hz1 hk1 hS => ?_)
  · intro E ce q9 u t H locs ht hvm hpx hBX hz1 hk1 hS hce hcv hcl
    have hP : q_P g s0 n ad C H := q_back hBX.2 ht
    have hZW := X.2.2.2.2.2.2.1.2.2
    have hE : (E = "java/util/NoSuchElementException" ∧ xX4_account n C a b "java/util/NoSuchElementException") ∨ (E = "java/lang/IndexOutOfBoundsException" ∧ xX4_account n C a b "java/lang/IndexOutOfBoundsException") := by
      have hx := hBX.1
      unfold xX4_account at hx ⊢
      rcases hx with hx | hx
      · exact Or.inl ⟨hx.1, Or.inl ⟨rfl, hx.2⟩⟩
      · exact Or.inr (⟨hx.1, Or.inr (⟨rfl, hx.2⟩)⟩)
    rcases hE with ⟨rfl, hE⟩ | ⟨rfl, hE⟩
    · refine vx_catch (own := RL) (name := "java/util/NoSuchElementException") X.2.2.2.1 [] ⟨0, 9, 12, 25⟩ [⟨0, 9, 16, 50⟩] htb (fun z hz => absurd hz List.not_mem_nil) (by decide) (by decide) (X.2.2.2.2.1 _ (by decide +kernel)) (va_Nw.use rfl (hZW.2.1 _ (by decide))) hce hcv hcl ?_
      refine lv_astore (lv' := [(4, .ref q9), (0, .ref (ad 4 0)), (1, .int (iI a)), (2, .int (iI b)), (3, .ref (ad 50 0))]) X.1 X.2.1 dL_account_12 hl (by decide) rfl (fun ls hl => ?_)
      refine lv_iconst (v := iI (1)) X.1 X.2.1 dL_account_14 rfl ?_
      exact q_iret X hr hlocks hP hS (Or.inr (Or.inl ⟨hE, rfl, rfl⟩)) (Nat.le_of_ble_eq_true rfl) (Nat.le_of_ble_eq_true rfl) dL_account_15
    · refine vx_catch (own := RL) (name := "java/lang/IndexOutOfBoundsException") X.2.2.2.1 [⟨0, 9, 12, 25⟩] ⟨0, 9, 16, 50⟩ [] htb (fun z hz => by simp only [List.mem_cons, List.not_mem_nil, or_false] at hz; subst hz; exact Or.inr ⟨by decide, "java/util/NoSuchElementException", X.2.2.2.2.1 _ (by decide +kernel), hZW.2.2 _ (by decide) _ (by decide) (by decide)⟩) (by decide) (by decide) (X.2.2.2.2.1 _ (by decide +kernel)) (va_Nw.use rfl (hZW.2.1 _ (by decide))) hce hcv hcl ?_
      refine lv_astore (lv' := [(4, .ref q9), (0, .ref (ad 4 0)), (1, .int (iI a)), (2, .int (iI b)), (3, .ref (ad 50 0))]) X.1 X.2.1 dL_account_16 hl (by decide) rfl (fun ls hl => ?_)
      refine lv_iconst (v := iI (2)) X.1 X.2.1 dL_account_18 rfl ?_
      exact q_iret X hr hlocks hP hS (Or.inr (Or.inr (⟨hE, rfl, rfl⟩))) (Nat.le_of_ble_eq_true rfl) (Nat.le_of_ble_eq_true rfl) dL_account_19
  · obtain ⟨n1, ad1, C1⟩ := u
    have hf := f_X4_account hw
    have hP : q_P g s0 n1 ad1 C1 H := q_back hB ht
    obtain ⟨z, hzr, rfl⟩ := jI_of r
    have e50 : ad 50 0 = ad1 50 0 := hf.2.2.1.symm
    have h51 : 0 < n1 50 := by have := hf.2.2.2 50 (by decide); dsimp only at this; omega
    refine W.eq (g2 := F0 m 8 ls [.long (jI z), .int (iI (0)), .ref (ad1 50 0)]) (by rw [e50]; first | done | rfl) ?_
    have hl : lv_has ls 5 [(1, .int (iI a)), (2, .int (iI b))] := lv_sub hl [1, 2] rfl
    refine q_lstv (len := 1) (x := z) (z := (0)) X hP hS 50 0 (by decide) rfl rfl h51 rfl (by decide) (by decide) hzr dL_account_8 (fun H locs hP hS => ?_)
    have hP : q_P g s0 n1 ad1 (q_up C1 50 0 0 z) H := hP
    refine lv_goto (tgt := 20) X.1 X.2.1 dL_account_9 (by decide) ?_
    refine lv_iconst (v := iI (0)) X.1 X.2.1 dL_account_20 rfl ?_
    exact q_iret X hr hlocks hP hS (Or.inl ⟨_, z, hzr, hw, rfl, rfl⟩) (Nat.le_of_ble_eq_true rfl) (Nat.le_of_ble_eq_true rfl) dL_account_21
theorem f_X4_reason {n : Nat → Nat} {ad : Nat → Nat → Nat} {C : q_S} {a : Int} {r : Int32} {u : q_U} (h : tX4_reason n ad C a r u) : u.2.1 4 0 = ad 4 0 ∧ u.2.1 5 0 = ad 5 0 ∧ u.2.1 50 0 = ad 50 0 ∧ ∀ k, 4 ≤ k → u.1 k = n k := by
  rcases h with ⟨p0_h_1, p1_h_2, p2_h_4, p3_h_6, p4_h_7_0, p5_h_7_1, rfl, -⟩ | ⟨p0_h_1, p1_h_2, p2_h_4, p3_h_6, p4_h_7_0, p5_h_7_1, rfl, -⟩ | ⟨p0_h_1, p1_h_2, p2_h_4, p3_h_6, p4_h_7_0, rfl, -⟩ | ⟨p0_h_1, p1_h_2, p2_h_4, p3_h_6, rfl, -⟩ | ⟨p0_h_1, p1_h_2, p2_h_4, rfl, -⟩ | ⟨p0_h_1, p1_h_2, rfl, -⟩
  · exact ⟨rfl, rfl, rfl, fun k hk => rfl⟩
  · exact ⟨rfl, rfl, rfl, fun k hk => rfl⟩
  · exact ⟨rfl, rfl, rfl, fun k hk => rfl⟩
  · exact ⟨rfl, rfl, rfl, fun k hk => rfl⟩
  · exact ⟨rfl, rfl, rfl, fun k hk => rfl⟩
  · exact ⟨rfl, rfl, rfl, fun k hk => rfl⟩
def pL_reason (n : Nat → Nat) (ad : Nat → Nat → Nat) (C : q_S) (a : Int) (r : Int32) (u : q_U) : Prop :=
  (∃ (v : q_U) (z : Int), R32 z ∧ tX4_reason n ad C a (iI z) v ∧ u = (v.1, v.2.1, q_up v.2.2 50 0 0 z) ∧ r = iI 0) ∨
  (xX4_reason n C a "java/util/NoSuchElementException" ∧ u = (n, ad, C) ∧ r = iI 1)
set_option maxHeartbeats 4000000 in
set_option maxRecDepth 100000 in
theorem c_L_reason (l : Launch) (htr : l.stackTraces = false) (g : q_G) (s0 : Nat) (n : Nat → Nat) (ad : Nat → Nat → Nat) (C : q_S) (c0 : Nat) (hC : c_S C n) (hR : c_R C n c0) (hc0 : c0 ≤ 511) (h50 : 0 < n 50) (a : Int) (ha : R32 a) : Met l yL_reason wsL_reason ({ frames := 8, cells := 1, slots := 6, locals := 134 }) (va_Pc [.ref (ad 4 0), .int (iI a), .ref (ad 50 0)] (q_B g s0 (n, ad, C))) (va_Qi (pL_reason n ad C a) (q_B g s0) (q_A s0)) 1 6 (q_A s0) := by
  refine va_MetW (cc := cL_reason) (maxL := 4) (ret := (some .int)) (hh := [(0, 9, 12, 25)]) (by decide) rfl ?_
  intro p e s m args below meth c s₁ B hml hv
  obtain ⟨rfl, hv⟩ := hv
  have hr := B.returns
  have hlocks := B.notSynchronized
  obtain ⟨X, hP⟩ := q_start B.exec B.bytes hml (show s.vm.findClass RL = some m.cls from findClass_of_methodNamed B.named) (atoms_spec (ws := wsL_reason) B.pre) hv
  have hP : q_P g s0 n ad C s.heap := hP
  have hS : va_S (q_A s0) s.heap s.heap [] := va_S.rf
  have h4 : 0 < n 4 := c_v4 hC
  have htb : c.exceptionTable.toList = [⟨0, 9, 12, 25⟩] := vx_table (x := yL_reason) (hh := [(0, 9, 12, 25)]) B (X.2.2.2.2.1 _ List.mem_cons_self)
  have hl := lv_entry ([.ref (ad 4 0), .int (iI a), .ref (ad 50 0)]) (n := 4) (Nat.le_of_ble_eq_true rfl)
  rw [lg_entry_eq]
  generalize (lg_sl ([.ref (ad 4 0), .int (iI a), .ref (ad 50 0)]) ++ List.replicate (4 - (lg_sl ([.ref (ad 4 0), .int (iI a), .ref (ad 50 0)])).length) Slot.unset).toArray = ls at hl ⊢
  have hl : lv_has ls 4 [(0, .ref (ad 4 0)), (1, .int (iI a)), (2, .ref (ad 50 0))] := hl
  refine lv_aload_n X.1 X.2.1 dL_reason_0 rfl (lv_at hl 2 rfl) ?_
  refine lv_iconst (v := iI (0)) X.1 X.2.1 dL_reason_1 rfl ?_
  refine lv_aload_n X.1 X.2.1 dL_reason_2 rfl (lv_at hl 0 rfl) ?_
  refine lv_iload_n X.1 X.2.1 dL_reason_3 rfl (lv_at hl 1 rfl) ?_
  refine vx_calli (vx_runV (As := [.int (iI a)]) (rest := [.int (iI (0)), .ref (ad 50 0)]) X.fix (c_X4_reason l htr g s0 n ad C c0 hC hR hc0 a ha) (cwV 1 X.2.2.2.2.1 gL_reason_X4_reason rfl rfl rfl (by decide +kernel) ⟨Nat.le_of_ble_eq_true rfl, Nat.le_of_ble_eq_true rfl⟩) (q_preV X hP hS [.int (iI a)] (kd := 4) (by decide) rfl h4) rfl rfl hl.1 rfl (lv_room (Nat.le_of_ble_eq_true rfl)) dL_reason_4 ⟨Nat.le_of_ble_eq_true rfl, Nat.le_of_ble_eq_true rfl⟩) hS q_id q_id1 q_id ?_ (fun r u t H locs ht hvm hw hB hz1 hk1 hS => ?_)
  · intro E ce q9 u t H locs ht hvm hpx hBX hz1 hk1 hS hce hcv hcl
    have hP : q_P g s0 n ad C H := q_back hBX.2 ht
    have hZW := X.2.2.2.2.2.2.1.2.2
    have hE : (E = "java/util/NoSuchElementException" ∧ xX4_reason n C a "java/util/NoSuchElementException") := by
      have hx := hBX.1
      unfold xX4_reason at hx ⊢
      rcases hx with hx
      · exact ⟨hx.1, ⟨rfl, hx.2⟩⟩
    obtain ⟨rfl, hE⟩ := hE
    refine vx_catch (own := RL) (name := "java/util/NoSuchElementException") X.2.2.2.1 [] ⟨0, 9, 12, 25⟩ [] htb (fun z hz => absurd hz List.not_mem_nil) (by decide) (by decide) (X.2.2.2.2.1 _ (by decide +kernel)) (va_Nw.use rfl (hZW.2.1 _ (by decide))) hce hcv hcl ?_
    refine lv_astore_n (lv' := [(3, .ref q9), (0, .ref (ad 4 0)), (1, .int (iI a)), (2, .ref (ad 50 0))]) X.1 X.2.1 dL_reason_12 rfl hl (by decide) rfl (fun ls hl => ?_)
    refine lv_iconst (v := iI (1)) X.1 X.2.1 dL_reason_13 rfl ?_
    exact q_iret X hr hlocks hP hS (Or.inr (⟨hE, rfl, rfl⟩)) (Nat.le_of_ble_eq_true rfl) (Nat.le_of_ble_eq_true rfl) dL_reason_14
  · obtain ⟨n1, ad1, C1⟩ := u
    have hf := f_X4_reason hw
    have hP : q_P g s0 n1 ad1 C1 H := q_back hB ht
    obtain ⟨z, hzr, rfl⟩ := iI_of r
    have e50 : ad 50 0 = ad1 50 0 := hf.2.2.1.symm
    have h51 : 0 < n1 50 := by have := hf.2.2.2 50 (by decide); dsimp only at this; omega
    refine W.eq (g2 := F0 m 7 ls [.int (iI z), .int (iI (0)), .ref (ad1 50 0)]) (by rw [e50]; first | done | rfl) ?_
    have hl : lv_has ls 4 [(1, .int (iI a))] := lv_sub hl [1] rfl
    refine q_i2l X hzr dL_reason_7 ?_
    refine q_lstv (len := 1) (x := z) (z := (0)) X hP hS 50 0 (by decide) rfl rfl h51 rfl (by decide) (by decide) (q_3264 hzr) dL_reason_8 (fun H locs hP hS => ?_)
    have hP : q_P g s0 n1 ad1 (q_up C1 50 0 0 z) H := hP
    refine lv_goto (tgt := 15) X.1 X.2.1 dL_reason_9 (by decide) ?_
    refine lv_iconst (v := iI (0)) X.1 X.2.1 dL_reason_15 rfl ?_
    exact q_iret X hr hlocks hP hS (Or.inl ⟨_, z, hzr, hw, rfl, rfl⟩) (Nat.le_of_ble_eq_true rfl) (Nat.le_of_ble_eq_true rfl) dL_reason_16
theorem f_X4_split {n : Nat → Nat} {ad : Nat → Nat → Nat} {C : q_S} {a b d : Int} {r : Int32} {u : q_U} (h : tX4_split n ad C a b d r u) : u.2.1 4 0 = ad 4 0 ∧ u.2.1 5 0 = ad 5 0 ∧ u.2.1 50 0 = ad 50 0 ∧ ∀ k, 4 ≤ k → u.1 k = n k := by
  rcases h with ⟨p0_h_1, p1_h_2, p2_h_3, p3_hb2, rfl, -⟩ | ⟨ad1, p0_h_1, p1_h_2, p2_h_3, p3_hb2, p4_hpr1, rfl, -⟩ | ⟨p0_h_1, p1_h_2, p2_h_3, rfl, -⟩
  · exact ⟨rfl, rfl, rfl, fun k hk => rfl⟩
  · exact ⟨(p4_hpr1 4 0 (fun q => absurd q.1 (by decide))), (p4_hpr1 5 0 (fun q => absurd q.1 (by decide))), (p4_hpr1 50 0 (fun q => absurd q.1 (by decide))), fun k hk => (by simp only [q_bump]; split <;> omega)⟩
  · exact ⟨rfl, rfl, rfl, fun k hk => rfl⟩
def pL_split (n : Nat → Nat) (ad : Nat → Nat → Nat) (C : q_S) (a b d : Int) (r : Int32) (u : q_U) : Prop :=
  (∃ (v : q_U) (z : Int), R32 z ∧ tX4_split n ad C a b d (iI z) v ∧ u = (v.1, v.2.1, q_up v.2.2 50 0 0 z) ∧ r = iI 0) ∨
  (xX4_split n C a b d "java/util/NoSuchElementException" ∧ u = (n, ad, C) ∧ r = iI 1)
set_option maxHeartbeats 4000000 in
set_option maxRecDepth 100000 in
theorem c_L_split (l : Launch) (htr : l.stackTraces = false) (g : q_G) (s0 : Nat) (n : Nat → Nat) (ad : Nat → Nat → Nat) (C : q_S) (c0 : Nat) (hC : c_S C n) (hR : c_R C n c0) (hc0 : c0 ≤ 511) (h50 : 0 < n 50) (a b d : Int) (ha : R32 a) (hb : R32 b) (hd : R32 d) : Met l yL_split wsL_split ({ frames := 8, cells := 3, slots := 19, locals := 140 }) (va_Pc [.ref (ad 4 0), .int (iI a), .int (iI b), .int (iI d), .ref (ad 50 0)] (q_B g s0 (n, ad, C))) (va_Qi (pL_split n ad C a b d) (q_B g s0) (q_A s0)) 3 19 (q_A s0) := by
  refine va_MetW (cc := cL_split) (maxL := 6) (ret := (some .int)) (hh := [(0, 12, 15, 25)]) (by decide) rfl ?_
  intro p e s m args below meth c s₁ B hml hv
  obtain ⟨rfl, hv⟩ := hv
  have hr := B.returns
  have hlocks := B.notSynchronized
  obtain ⟨X, hP⟩ := q_start B.exec B.bytes hml (show s.vm.findClass RL = some m.cls from findClass_of_methodNamed B.named) (atoms_spec (ws := wsL_split) B.pre) hv
  have hP : q_P g s0 n ad C s.heap := hP
  have hS : va_S (q_A s0) s.heap s.heap [] := va_S.rf
  have h4 : 0 < n 4 := c_v4 hC
  have htb : c.exceptionTable.toList = [⟨0, 12, 15, 25⟩] := vx_table (x := yL_split) (hh := [(0, 12, 15, 25)]) B (X.2.2.2.2.1 _ List.mem_cons_self)
  have hl := lv_entry ([.ref (ad 4 0), .int (iI a), .int (iI b), .int (iI d), .ref (ad 50 0)]) (n := 6) (Nat.le_of_ble_eq_true rfl)
  rw [lg_entry_eq]
  generalize (lg_sl ([.ref (ad 4 0), .int (iI a), .int (iI b), .int (iI d), .ref (ad 50 0)]) ++ List.replicate (6 - (lg_sl ([.ref (ad 4 0), .int (iI a), .int (iI b), .int (iI d), .ref (ad 50 0)])).length) Slot.unset).toArray = ls at hl ⊢
  have hl : lv_has ls 6 [(0, .ref (ad 4 0)), (1, .int (iI a)), (2, .int (iI b)), (3, .int (iI d)), (4, .ref (ad 50 0))] := hl
  refine lv_aload X.1 X.2.1 dL_split_0 (lv_at hl 4 rfl) ?_
  refine lv_iconst (v := iI (0)) X.1 X.2.1 dL_split_2 rfl ?_
  refine lv_aload_n X.1 X.2.1 dL_split_3 rfl (lv_at hl 0 rfl) ?_
  refine lv_iload_n X.1 X.2.1 dL_split_4 rfl (lv_at hl 1 rfl) ?_
  refine lv_iload_n X.1 X.2.1 dL_split_5 rfl (lv_at hl 2 rfl) ?_
  refine lv_iload_n X.1 X.2.1 dL_split_6 rfl (lv_at hl 3 rfl) ?_
  refine vx_calli (vx_runV (As := [.int (iI a), .int (iI b), .int (iI d)]) (rest := [.int (iI (0)), .ref (ad 50 0)]) X.fix (c_X4_split l htr g s0 n ad C c0 hC hR hc0 a b d ha hb hd) (cwV 3 X.2.2.2.2.1 gL_split_X4_split rfl rfl rfl (by decide +kernel) ⟨Nat.le_of_ble_eq_true rfl, Nat.le_of_ble_eq_true rfl⟩) (q_preV X hP hS [.int (iI a), .int (iI b), .int (iI d)] (kd := 4) (by decide) rfl h4) rfl rfl hl.1 rfl (lv_room (Nat.le_of_ble_eq_true rfl)) dL_split_7 ⟨Nat.le_of_ble_eq_true rfl, Nat.le_of_ble_eq_true rfl⟩) hS q_id q_id1 q_id ?_ (fun r u t H locs ht hvm hw hB hz1 hk1 hS => ?_)
  · intro E ce q9 u t H locs ht hvm hpx hBX hz1 hk1 hS hce hcv hcl
    have hP : q_P g s0 n ad C H := q_back hBX.2 ht
    have hZW := X.2.2.2.2.2.2.1.2.2
    have hE : (E = "java/util/NoSuchElementException" ∧ xX4_split n C a b d "java/util/NoSuchElementException") := by
      have hx := hBX.1
      unfold xX4_split at hx ⊢
      rcases hx with hx | hx
      · exact ⟨hx.1, Or.inl ⟨rfl, hx.2⟩⟩
      · exact ⟨hx.1.1, Or.inr (⟨⟨rfl, hx.1.2⟩, hx.2⟩)⟩
    obtain ⟨rfl, hE⟩ := hE
    refine vx_catch (own := RL) (name := "java/util/NoSuchElementException") X.2.2.2.1 [] ⟨0, 12, 15, 25⟩ [] htb (fun z hz => absurd hz List.not_mem_nil) (by decide) (by decide) (X.2.2.2.2.1 _ (by decide +kernel)) (va_Nw.use rfl (hZW.2.1 _ (by decide))) hce hcv hcl ?_
    refine lv_astore (lv' := [(5, .ref q9), (0, .ref (ad 4 0)), (1, .int (iI a)), (2, .int (iI b)), (3, .int (iI d)), (4, .ref (ad 50 0))]) X.1 X.2.1 dL_split_15 hl (by decide) rfl (fun ls hl => ?_)
    refine lv_iconst (v := iI (1)) X.1 X.2.1 dL_split_17 rfl ?_
    exact q_iret X hr hlocks hP hS (Or.inr (⟨hE, rfl, rfl⟩)) (Nat.le_of_ble_eq_true rfl) (Nat.le_of_ble_eq_true rfl) dL_split_18
  · obtain ⟨n1, ad1, C1⟩ := u
    have hf := f_X4_split hw
    have hP : q_P g s0 n1 ad1 C1 H := q_back hB ht
    obtain ⟨z, hzr, rfl⟩ := iI_of r
    have e50 : ad 50 0 = ad1 50 0 := hf.2.2.1.symm
    have h51 : 0 < n1 50 := by have := hf.2.2.2 50 (by decide); dsimp only at this; omega
    refine W.eq (g2 := F0 m 10 ls [.int (iI z), .int (iI (0)), .ref (ad1 50 0)]) (by rw [e50]; first | done | rfl) ?_
    have hl : lv_has ls 6 [(1, .int (iI a)), (2, .int (iI b)), (3, .int (iI d))] := lv_sub hl [1, 2, 3] rfl
    refine q_i2l X hzr dL_split_10 ?_
    refine q_lstv (len := 1) (x := z) (z := (0)) X hP hS 50 0 (by decide) rfl rfl h51 rfl (by decide) (by decide) (q_3264 hzr) dL_split_11 (fun H locs hP hS => ?_)
    have hP : q_P g s0 n1 ad1 (q_up C1 50 0 0 z) H := hP
    refine lv_goto (tgt := 19) X.1 X.2.1 dL_split_12 (by decide) ?_
    refine lv_iconst (v := iI (0)) X.1 X.2.1 dL_split_19 rfl ?_
    exact q_iret X hr hlocks hP hS (Or.inl ⟨_, z, hzr, hw, rfl, rfl⟩) (Nat.le_of_ble_eq_true rfl) (Nat.le_of_ble_eq_true rfl) dL_split_20
theorem f_X4_like {n : Nat → Nat} {ad : Nat → Nat → Nat} {C : q_S} {a : Int} {r : Int32} {u : q_U} (h : tX4_like n ad C a r u) : u.2.1 4 0 = ad 4 0 ∧ u.2.1 5 0 = ad 5 0 ∧ u.2.1 50 0 = ad 50 0 ∧ ∀ k, 4 ≤ k → u.1 k = n k := by
  rcases h with ⟨p0_h_1, rfl, -⟩
  · exact ⟨rfl, rfl, rfl, fun k hk => rfl⟩
def pL_like (n : Nat → Nat) (ad : Nat → Nat → Nat) (C : q_S) (a : Int) (r : Int32) (u : q_U) : Prop :=
  (∃ (v : q_U) (z : Int), R32 z ∧ tX4_like n ad C a (iI z) v ∧ u = (v.1, v.2.1, q_up v.2.2 50 0 0 z) ∧ r = iI 0) ∨
  (xX4_like n C a "java/lang/IllegalArgumentException" ∧ u = (n, ad, C) ∧ r = iI 1)
set_option maxHeartbeats 4000000 in
set_option maxRecDepth 100000 in
theorem c_L_like (l : Launch) (htr : l.stackTraces = false) (g : q_G) (s0 : Nat) (n : Nat → Nat) (ad : Nat → Nat → Nat) (C : q_S) (c0 : Nat) (hC : c_S C n) (hR : c_R C n c0) (hc0 : c0 ≤ 511) (h50 : 0 < n 50) (a : Int) (ha : R32 a) : Met l yL_like wsL_like ({ frames := 7, cells := 1, slots := 6, locals := 112 }) (va_Pc [.ref (ad 4 0), .int (iI a), .ref (ad 50 0)] (q_B g s0 (n, ad, C))) (va_Qi (pL_like n ad C a) (q_B g s0) (q_A s0)) 1 6 (q_A s0) := by
  refine va_MetW (cc := cL_like) (maxL := 4) (ret := (some .int)) (hh := [(0, 9, 12, 13)]) (by decide) rfl ?_
  intro p e s m args below meth c s₁ B hml hv
  obtain ⟨rfl, hv⟩ := hv
  have hr := B.returns
  have hlocks := B.notSynchronized
  obtain ⟨X, hP⟩ := q_start B.exec B.bytes hml (show s.vm.findClass RL = some m.cls from findClass_of_methodNamed B.named) (atoms_spec (ws := wsL_like) B.pre) hv
  have hP : q_P g s0 n ad C s.heap := hP
  have hS : va_S (q_A s0) s.heap s.heap [] := va_S.rf
  have h4 : 0 < n 4 := c_v4 hC
  have htb : c.exceptionTable.toList = [⟨0, 9, 12, 13⟩] := vx_table (x := yL_like) (hh := [(0, 9, 12, 13)]) B (X.2.2.2.2.1 _ List.mem_cons_self)
  have hl := lv_entry ([.ref (ad 4 0), .int (iI a), .ref (ad 50 0)]) (n := 4) (Nat.le_of_ble_eq_true rfl)
  rw [lg_entry_eq]
  generalize (lg_sl ([.ref (ad 4 0), .int (iI a), .ref (ad 50 0)]) ++ List.replicate (4 - (lg_sl ([.ref (ad 4 0), .int (iI a), .ref (ad 50 0)])).length) Slot.unset).toArray = ls at hl ⊢
  have hl : lv_has ls 4 [(0, .ref (ad 4 0)), (1, .int (iI a)), (2, .ref (ad 50 0))] := hl
  refine lv_aload_n X.1 X.2.1 dL_like_0 rfl (lv_at hl 2 rfl) ?_
  refine lv_iconst (v := iI (0)) X.1 X.2.1 dL_like_1 rfl ?_
  refine lv_aload_n X.1 X.2.1 dL_like_2 rfl (lv_at hl 0 rfl) ?_
  refine lv_iload_n X.1 X.2.1 dL_like_3 rfl (lv_at hl 1 rfl) ?_
  refine vx_calli (vx_runV (As := [.int (iI a)]) (rest := [.int (iI (0)), .ref (ad 50 0)]) X.fix (c_X4_like l htr g s0 n ad C c0 hC hR hc0 a ha) (cwV 1 X.2.2.2.2.1 gL_like_X4_like rfl rfl rfl (by decide +kernel) ⟨Nat.le_of_ble_eq_true rfl, Nat.le_of_ble_eq_true rfl⟩) (q_preV X hP hS [.int (iI a)] (kd := 4) (by decide) rfl h4) rfl rfl hl.1 rfl (lv_room (Nat.le_of_ble_eq_true rfl)) dL_like_4 ⟨Nat.le_of_ble_eq_true rfl, Nat.le_of_ble_eq_true rfl⟩) hS q_id q_id1 q_id ?_ (fun r u t H locs ht hvm hw hB hz1 hk1 hS => ?_)
  · intro E ce q9 u t H locs ht hvm hpx hBX hz1 hk1 hS hce hcv hcl
    have hP : q_P g s0 n ad C H := q_back hBX.2 ht
    have hZW := X.2.2.2.2.2.2.1.2.2
    have hE : (E = "java/lang/IllegalArgumentException" ∧ xX4_like n C a "java/lang/IllegalArgumentException") := by
      have hx := hBX.1
      unfold xX4_like at hx ⊢
      rcases hx with hx
      · exact ⟨hx.1, ⟨rfl, hx.2⟩⟩
    obtain ⟨rfl, hE⟩ := hE
    refine vx_catch (own := RL) (name := "java/lang/IllegalArgumentException") X.2.2.2.1 [] ⟨0, 9, 12, 13⟩ [] htb (fun z hz => absurd hz List.not_mem_nil) (by decide) (by decide) (X.2.2.2.2.1 _ (by decide +kernel)) (va_Nw.use rfl (hZW.2.1 _ (by decide))) hce hcv hcl ?_
    refine lv_astore_n (lv' := [(3, .ref q9), (0, .ref (ad 4 0)), (1, .int (iI a)), (2, .ref (ad 50 0))]) X.1 X.2.1 dL_like_12 rfl hl (by decide) rfl (fun ls hl => ?_)
    refine lv_iconst (v := iI (1)) X.1 X.2.1 dL_like_13 rfl ?_
    exact q_iret X hr hlocks hP hS (Or.inr (⟨hE, rfl, rfl⟩)) (Nat.le_of_ble_eq_true rfl) (Nat.le_of_ble_eq_true rfl) dL_like_14
  · obtain ⟨n1, ad1, C1⟩ := u
    have hf := f_X4_like hw
    have hP : q_P g s0 n1 ad1 C1 H := q_back hB ht
    obtain ⟨z, hzr, rfl⟩ := iI_of r
    have e50 : ad 50 0 = ad1 50 0 := hf.2.2.1.symm
    have h51 : 0 < n1 50 := by have := hf.2.2.2 50 (by decide); dsimp only at this; omega
    refine W.eq (g2 := F0 m 7 ls [.int (iI z), .int (iI (0)), .ref (ad1 50 0)]) (by rw [e50]; first | done | rfl) ?_
    have hl : lv_has ls 4 [(1, .int (iI a))] := lv_sub hl [1] rfl
    refine q_i2l X hzr dL_like_7 ?_
    refine q_lstv (len := 1) (x := z) (z := (0)) X hP hS 50 0 (by decide) rfl rfl h51 rfl (by decide) (by decide) (q_3264 hzr) dL_like_8 (fun H locs hP hS => ?_)
    have hP : q_P g s0 n1 ad1 (q_up C1 50 0 0 z) H := hP
    refine lv_goto (tgt := 15) X.1 X.2.1 dL_like_9 (by decide) ?_
    refine lv_iconst (v := iI (0)) X.1 X.2.1 dL_like_15 rfl ?_
    exact q_iret X hr hlocks hP hS (Or.inl ⟨_, z, hzr, hw, rfl, rfl⟩) (Nat.le_of_ble_eq_true rfl) (Nat.le_of_ble_eq_true rfl) dL_like_16
