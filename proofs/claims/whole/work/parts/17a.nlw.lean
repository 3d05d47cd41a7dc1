set_option maxRecDepth 20000 in
theorem ggL_append_X5_append : GoodIn wsL_append wsX5_append := goodIn_ca (goodIn_ca (goodIn_r _ [7, 8, 9, 10, 11, 12, 13, 14, 15, 16, 17, 18, 19, 20, 21, 22, 23, 24, 25, 26, 27, 28, 29, 30, 31, 32, 33, 34, 35, 36, 37, 38] (by decide +kernel) (by decide +kernel)) (goodIn_sub (fun _ h => List.mem_cons_of_mem _ (List.mem_append_left _ (List.mem_append_right _ h))) (by decide +kernel))) (goodIn_sub (fun _ h => List.mem_cons_of_mem _ (List.mem_append_right _ h)) (by decide +kernel))
set_option maxRecDepth 20000 in
theorem gL_append_X5_append : GoodIn wsL_append (wsV RL 7 RX5 yX5_append wsX5_append) := goodIn_app (goodIn_of _ (by decide +kernel)) ggL_append_X5_append
theorem dL_append_0 : decode cL_append 0 = .ok (.aload_n 2, 1) := by decide +kernel
theorem dL_append_1 : decode cL_append 1 = .ok (.iconst 0, 1) := by decide +kernel
theorem dL_append_2 : decode cL_append 2 = .ok (.aload_n 0, 1) := by decide +kernel
theorem dL_append_3 : decode cL_append 3 = .ok (.iload_n 1, 1) := by decide +kernel
theorem dL_append_4 : decode cL_append 4 = .ok (.invokevirtual 7, 3) := by decide +kernel
theorem dL_append_7 : decode cL_append 7 = .ok (.i2l, 1) := by decide +kernel
theorem dL_append_8 : decode cL_append 8 = .ok (.lastore, 1) := by decide +kernel
theorem dL_append_9 : decode cL_append 9 = .ok (.goto 9, 3) := by decide +kernel
theorem dL_append_12 : decode cL_append 12 = .ok (.astore_n 3, 1) := by decide +kernel
theorem dL_append_13 : decode cL_append 13 = .ok (.iconst 1, 1) := by decide +kernel
theorem dL_append_14 : decode cL_append 14 = .ok (.ireturn, 1) := by decide +kernel
theorem dL_append_15 : decode cL_append 15 = .ok (.astore_n 3, 1) := by decide +kernel
theorem dL_append_16 : decode cL_append 16 = .ok (.iconst 2, 1) := by decide +kernel
theorem dL_append_17 : decode cL_append 17 = .ok (.ireturn, 1) := by decide +kernel
theorem dL_append_18 : decode cL_append 18 = .ok (.iconst 0, 1) := by decide +kernel
theorem dL_append_19 : decode cL_append 19 = .ok (.ireturn, 1) := by decide +kernel
set_option maxRecDepth 20000 in
theorem ggL_execute_X5_execute : GoodIn wsL_execute wsX5_execute := goodIn_ca (goodIn_r _ [6, 7, 8, 9, 10, 11, 12, 13, 14, 15, 16, 17, 18, 19, 20, 21, 22, 23, 24, 25, 26, 27, 28, 29, 30, 31, 32, 33, 34, 35, 36, 37, 38, 39, 40, 41, 42, 43, 44, 45, 46, 47, 48, 49, 50, 51, 52, 53, 54, 55, 56, 57, 58, 59, 60, 61, 62, 63, 64, 65, 66, 67, 68, 69, 70, 71, 72, 73, 74, 75, 76, 77, 78, 79, 80, 81, 82, 83, 84, 85, 86, 87, 88, 89, 90, 91, 92, 93, 94, 95, 96, 97, 98, 99, 100, 101, 102, 103, 104] (by decide +kernel) (by decide +kernel)) (goodIn_sub (fun _ h => List.mem_cons_of_mem _ (List.mem_append_right _ h)) (by decide +kernel))
set_option maxRecDepth 20000 in
theorem gL_execute_X5_execute : GoodIn wsL_execute (wsV RL 17 RX5 yX5_execute wsX5_execute) := goodIn_app (goodIn_of _ (by decide +kernel)) ggL_execute_X5_execute
theorem dL_execute_0 : decode cL_execute 0 = .ok (.aload_n 1, 1) := by decide +kernel
theorem dL_execute_1 : decode cL_execute 1 = .ok (.iconst 0, 1) := by decide +kernel
theorem dL_execute_2 : decode cL_execute 2 = .ok (.aload_n 0, 1) := by decide +kernel
theorem dL_execute_3 : decode cL_execute 3 = .ok (.invokevirtual 17, 3) := by decide +kernel
theorem dL_execute_6 : decode cL_execute 6 = .ok (.i2l, 1) := by decide +kernel
theorem dL_execute_7 : decode cL_execute 7 = .ok (.lastore, 1) := by decide +kernel
theorem dL_execute_8 : decode cL_execute 8 = .ok (.goto 6, 3) := by decide +kernel
theorem dL_execute_11 : decode cL_execute 11 = .ok (.astore_n 2, 1) := by decide +kernel
theorem dL_execute_12 : decode cL_execute 12 = .ok (.iconst 1, 1) := by decide +kernel
theorem dL_execute_13 : decode cL_execute 13 = .ok (.ireturn, 1) := by decide +kernel
theorem dL_execute_14 : decode cL_execute 14 = .ok (.iconst 0, 1) := by decide +kernel
theorem dL_execute_15 : decode cL_execute 15 = .ok (.ireturn, 1) := by decide +kernel
set_option maxRecDepth 20000 in
theorem ggL_setCost_X5_setCost : GoodIn wsL_setCost wsX5_setCost := goodIn_ca (goodIn_ca (goodIn_r _ [7, 8, 9, 10, 11, 12, 13, 14, 15, 16, 17, 18, 19, 20, 21, 22, 23, 24, 25, 26, 27, 28, 29, 30, 31, 32, 33, 34, 35, 36, 37, 38, 39] (by decide +kernel) (by decide +kernel)) (goodIn_sub (fun _ h => List.mem_cons_of_mem _ (List.mem_append_left _ (List.mem_append_right _ h))) (by decide +kernel))) (goodIn_sub (fun _ h => List.mem_cons_of_mem _ (List.mem_append_right _ h)) (by decide +kernel))
set_option maxRecDepth 20000 in
theorem gL_setCost_X5_setCost : GoodIn wsL_setCost (wsV RL 21 RX5 yX5_setCost wsX5_setCost) := goodIn_app (goodIn_of _ (by decide +kernel)) ggL_setCost_X5_setCost
theorem dL_setCost_0 : decode cL_setCost 0 = .ok (.aload_n 3, 1) := by decide +kernel
theorem dL_setCost_1 : decode cL_setCost 1 = .ok (.iconst 0, 1) := by decide +kernel
theorem dL_setCost_2 : decode cL_setCost 2 = .ok (.aload_n 0, 1) := by decide +kernel
theorem dL_setCost_3 : decode cL_setCost 3 = .ok (.iload_n 1, 1) := by decide +kernel
theorem dL_setCost_4 : decode cL_setCost 4 = .ok (.iload_n 2, 1) := by decide +kernel
theorem dL_setCost_5 : decode cL_setCost 5 = .ok (.invokevirtual 21, 3) := by decide +kernel
theorem dL_setCost_8 : decode cL_setCost 8 = .ok (.i2l, 1) := by decide +kernel
theorem dL_setCost_9 : decode cL_setCost 9 = .ok (.lastore, 1) := by decide +kernel
theorem dL_setCost_10 : decode cL_setCost 10 = .ok (.goto 11, 3) := by decide +kernel
theorem dL_setCost_13 : decode cL_setCost 13 = .ok (.astore 4, 2) := by decide +kernel
theorem dL_setCost_15 : decode cL_setCost 15 = .ok (.iconst 1, 1) := by decide +kernel
theorem dL_setCost_16 : decode cL_setCost 16 = .ok (.ireturn, 1) := by decide +kernel
theorem dL_setCost_17 : decode cL_setCost 17 = .ok (.astore 4, 2) := by decide +kernel
theorem dL_setCost_19 : decode cL_setCost 19 = .ok (.iconst 2, 1) := by decide +kernel
theorem dL_setCost_20 : decode cL_setCost 20 = .ok (.ireturn, 1) := by decide +kernel
theorem dL_setCost_21 : decode cL_setCost 21 = .ok (.iconst 0, 1) := by decide +kernel
theorem dL_setCost_22 : decode cL_setCost 22 = .ok (.ireturn, 1) := by decide +kernel
set_option maxRecDepth 20000 in
theorem ggL_set_X5_set : GoodIn wsL_set wsX5_set := goodIn_ca (goodIn_r _ [6, 7, 8, 9, 10, 11, 12, 13, 14, 15, 16, 17, 18, 19, 20, 21, 22, 23, 24, 25, 26, 27, 28, 29, 30, 31, 32] (by decide +kernel) (by decide +kernel)) (goodIn_sub (fun _ h => List.mem_cons_of_mem _ (List.mem_append_right _ h)) (by decide +kernel))
set_option maxRecDepth 20000 in
theorem gL_set_X5_set : GoodIn wsL_set (wsV RL 27 RX5 yX5_set wsX5_set) := goodIn_app (goodIn_of _ (by decide +kernel)) ggL_set_X5_set
theorem dL_set_0 : decode cL_set 0 = .ok (.aload_n 3, 1) := by decide +kernel
theorem dL_set_1 : decode cL_set 1 = .ok (.iconst 0, 1) := by decide +kernel
theorem dL_set_2 : decode cL_set 2 = .ok (.aload_n 0, 1) := by decide +kernel
theorem dL_set_3 : decode cL_set 3 = .ok (.iload_n 1, 1) := by decide +kernel
theorem dL_set_4 : decode cL_set 4 = .ok (.iload_n 2, 1) := by decide +kernel
theorem dL_set_5 : decode cL_set 5 = .ok (.invokevirtual 27, 3) := by decide +kernel
theorem dL_set_8 : decode cL_set 8 = .ok (.i2l, 1) := by decide +kernel
theorem dL_set_9 : decode cL_set 9 = .ok (.lastore, 1) := by decide +kernel
theorem dL_set_10 : decode cL_set 10 = .ok (.goto 7, 3) := by decide +kernel
theorem dL_set_13 : decode cL_set 13 = .ok (.astore 4, 2) := by decide +kernel
theorem dL_set_15 : decode cL_set 15 = .ok (.iconst 1, 1) := by decide +kernel
theorem dL_set_16 : decode cL_set 16 = .ok (.ireturn, 1) := by decide +kernel
theorem dL_set_17 : decode cL_set 17 = .ok (.iconst 0, 1) := by decide +kernel
theorem dL_set_18 : decode cL_set 18 = .ok (.ireturn, 1) := by decide +kernel
set_option maxRecDepth 20000 in
theorem ggL_exchange_X5_exchange : GoodIn wsL_exchange wsX5_exchange := goodIn_ca (goodIn_ca (goodIn_r _ [7, 8, 9, 10, 11, 12, 13, 14, 15, 16, 17, 18, 19, 20, 21, 22, 23, 24, 25, 26, 27, 28, 29, 30, 31, 32, 33, 34, 35, 36, 37, 38, 39, 40, 41, 42, 43, 44, 45, 46, 47, 48, 49, 50, 51, 52, 53, 54, 55, 56, 57, 58, 59, 60, 61, 62, 63, 64, 65, 66] (by decide +kernel) (by decide +kernel)) (goodIn_sub (fun _ h => List.mem_cons_of_mem _ (List.mem_append_left _ (List.mem_append_right _ h))) (by decide +kernel))) (goodIn_sub (fun _ h => List.mem_cons_of_mem _ (List.mem_append_right _ h)) (by decide +kernel))
set_option maxRecDepth 20000 in
theorem gL_exchange_X5_exchange : GoodIn wsL_exchange (wsV RL 30 RX5 yX5_exchange wsX5_exchange) := goodIn_app (goodIn_of _ (by decide +kernel)) ggL_exchange_X5_exchange
theorem dL_exchange_0 : decode cL_exchange 0 = .ok (.aload_n 2, 1) := by decide +kernel
theorem dL_exchange_1 : decode cL_exchange 1 = .ok (.iconst 0, 1) := by decide +kernel
theorem dL_exchange_2 : decode cL_exchange 2 = .ok (.aload_n 0, 1) := by decide +kernel
theorem dL_exchange_3 : decode cL_exchange 3 = .ok (.iload_n 1, 1) := by decide +kernel
theorem dL_exchange_4 : decode cL_exchange 4 = .ok (.invokevirtual 30, 3) := by decide +kernel
theorem dL_exchange_7 : decode cL_exchange 7 = .ok (.i2l, 1) := by decide +kernel
theorem dL_exchange_8 : decode cL_exchange 8 = .ok (.lastore, 1) := by decide +kernel
theorem dL_exchange_9 : decode cL_exchange 9 = .ok (.goto 9, 3) := by decide +kernel
theorem dL_exchange_12 : decode cL_exchange 12 = .ok (.astore_n 3, 1) := by decide +kernel
theorem dL_exchange_13 : decode cL_exchange 13 = .ok (.iconst 1, 1) := by decide +kernel
theorem dL_exchange_14 : decode cL_exchange 14 = .ok (.ireturn, 1) := by decide +kernel
theorem dL_exchange_15 : decode cL_exchange 15 = .ok (.astore_n 3, 1) := by decide +kernel
theorem dL_exchange_16 : decode cL_exchange 16 = .ok (.iconst 2, 1) := by decide +kernel
theorem dL_exchange_17 : decode cL_exchange 17 = .ok (.ireturn, 1) := by decide +kernel
theorem dL_exchange_18 : decode cL_exchange 18 = .ok (.iconst 0, 1) := by decide +kernel
theorem dL_exchange_19 : decode cL_exchange 19 = .ok (.ireturn, 1) := by decide +kernel
set_option maxRecDepth 20000 in
theorem ggL_remove_X5_remove : GoodIn wsL_remove wsX5_remove := goodIn_ca (goodIn_r _ [6, 7, 8, 9, 10, 11, 12, 13, 14, 15, 16, 17, 18, 19, 20, 21, 22, 23, 24, 25, 26, 27, 28, 29, 30, 31, 32, 33, 34, 35, 36, 37, 38, 39, 40, 41, 42, 43, 44, 45, 46, 47, 48, 49, 50] (by decide +kernel) (by decide +kernel)) (goodIn_sub (fun _ h => List.mem_cons_of_mem _ (List.mem_append_right _ h)) (by decide +kernel))
set_option maxRecDepth 20000 in
theorem gL_remove_X5_remove : GoodIn wsL_remove (wsV RL 33 RX5 yX5_remove wsX5_remove) := goodIn_app (goodIn_of _ (by decide +kernel)) ggL_remove_X5_remove
theorem dL_remove_0 : decode cL_remove 0 = .ok (.aload_n 2, 1) := by decide +kernel
theorem dL_remove_1 : decode cL_remove 1 = .ok (.iconst 0, 1) := by decide +kernel
theorem dL_remove_2 : decode cL_remove 2 = .ok (.aload_n 0, 1) := by decide +kernel
theorem dL_remove_3 : decode cL_remove 3 = .ok (.iload_n 1, 1) := by decide +kernel
theorem dL_remove_4 : decode cL_remove 4 = .ok (.invokevirtual 33, 3) := by decide +kernel
theorem dL_remove_7 : decode cL_remove 7 = .ok (.i2l, 1) := by decide +kernel
theorem dL_remove_8 : decode cL_remove 8 = .ok (.lastore, 1) := by decide +kernel
theorem dL_remove_9 : decode cL_remove 9 = .ok (.goto 6, 3) := by decide +kernel
theorem dL_remove_12 : decode cL_remove 12 = .ok (.astore_n 3, 1) := by decide +kernel
theorem dL_remove_13 : decode cL_remove 13 = .ok (.iconst 1, 1) := by decide +kernel
theorem dL_remove_14 : decode cL_remove 14 = .ok (.ireturn, 1) := by decide +kernel
theorem dL_remove_15 : decode cL_remove 15 = .ok (.iconst 0, 1) := by decide +kernel
theorem dL_remove_16 : decode cL_remove 16 = .ok (.ireturn, 1) := by decide +kernel
set_option maxRecDepth 20000 in
theorem ggL_statement_X5_statement : GoodIn wsL_statement wsX5_statement := goodIn_ca (goodIn_ca (goodIn_r _ [7, 8, 9, 10, 11, 12, 13, 14, 15, 16, 17, 18, 19, 20, 21, 22, 23, 24, 25, 26, 27, 28, 29, 30, 31, 32, 33, 34, 35, 36, 37, 38, 39, 40, 41, 42, 43, 44, 45, 46, 47, 48, 49, 50, 51, 52, 53, 54, 55, 56, 57, 58, 59, 60] (by decide +kernel) (by decide +kernel)) (goodIn_sub (fun _ h => List.mem_cons_of_mem _ (List.mem_append_left _ (List.mem_append_right _ h))) (by decide +kernel))) (goodIn_sub (fun _ h => List.mem_cons_of_mem _ (List.mem_append_right _ h)) (by decide +kernel))
set_option maxRecDepth 20000 in
theorem gL_statement_X5_statement : GoodIn wsL_statement (wsV RL 36 RX5 yX5_statement wsX5_statement) := goodIn_app (goodIn_of _ (by decide +kernel)) ggL_statement_X5_statement
theorem dL_statement_0 : decode cL_statement 0 = .ok (.aload_n 3, 1) := by decide +kernel
theorem dL_statement_1 : decode cL_statement 1 = .ok (.iconst 0, 1) := by decide +kernel
theorem dL_statement_2 : decode cL_statement 2 = .ok (.aload_n 0, 1) := by decide +kernel
theorem dL_statement_3 : decode cL_statement 3 = .ok (.iload_n 1, 1) := by decide +kernel
theorem dL_statement_4 : decode cL_statement 4 = .ok (.iload_n 2, 1) := by decide +kernel
theorem dL_statement_5 : decode cL_statement 5 = .ok (.invokevirtual 36, 3) := by decide +kernel
theorem dL_statement_8 : decode cL_statement 8 = .ok (.i2l, 1) := by decide +kernel
theorem dL_statement_9 : decode cL_statement 9 = .ok (.lastore, 1) := by decide +kernel
theorem dL_statement_10 : decode cL_statement 10 = .ok (.goto 11, 3) := by decide +kernel
theorem dL_statement_13 : decode cL_statement 13 = .ok (.astore 4, 2) := by decide +kernel
theorem dL_statement_15 : decode cL_statement 15 = .ok (.iconst 1, 1) := by decide +kernel
theorem dL_statement_16 : decode cL_statement 16 = .ok (.ireturn, 1) := by decide +kernel
theorem dL_statement_17 : decode cL_statement 17 = .ok (.astore 4, 2) := by decide +kernel
theorem dL_statement_19 : decode cL_statement 19 = .ok (.iconst 2, 1) := by decide +kernel
theorem dL_statement_20 : decode cL_statement 20 = .ok (.ireturn, 1) := by decide +kernel
theorem dL_statement_21 : decode cL_statement 21 = .ok (.iconst 0, 1) := by decide +kernel
theorem dL_statement_22 : decode cL_statement 22 = .ok (.ireturn, 1) := by decide +kernel
set_option maxRecDepth 20000 in
theorem ggL_dependence_X5_dependence : GoodIn wsL_dependence wsX5_dependence := goodIn_ca (goodIn_ca (goodIn_r _ [7, 8, 9, 10, 11, 12, 13, 14, 15, 16, 17, 18, 19, 20, 21, 22, 23, 24, 25, 26, 27, 28, 29, 30, 31, 32, 33, 34, 35, 36, 37, 38, 39, 40, 41, 42, 43, 44, 45, 46, 47, 48, 49, 50, 51, 52, 53, 54, 55, 56, 57] (by decide +kernel) (by decide +kernel)) (goodIn_sub (fun _ h => List.mem_cons_of_mem _ (List.mem_append_left _ (List.mem_append_right _ h))) (by decide +kernel))) (goodIn_sub (fun _ h => List.mem_cons_of_mem _ (List.mem_append_right _ h)) (by decide +kernel))
set_option maxRecDepth 20000 in
theorem gL_dependence_X5_dependence : GoodIn wsL_dependence (wsV RL 39 RX5 yX5_dependence wsX5_dependence) := goodIn_app (goodIn_of _ (by decide +kernel)) ggL_dependence_X5_dependence
theorem dL_dependence_0 : decode cL_dependence 0 = .ok (.aload_n 3, 1) := by decide +kernel
theorem dL_dependence_1 : decode cL_dependence 1 = .ok (.iconst 0, 1) := by decide +kernel
theorem dL_dependence_2 : decode cL_dependence 2 = .ok (.aload_n 0, 1) := by decide +kernel
theorem dL_dependence_3 : decode cL_dependence 3 = .ok (.iload_n 1, 1) := by decide +kernel
theorem dL_dependence_4 : decode cL_dependence 4 = .ok (.iload_n 2, 1) := by decide +kernel
theorem dL_dependence_5 : decode cL_dependence 5 = .ok (.invokevirtual 39, 3) := by decide +kernel
theorem dL_dependence_8 : decode cL_dependence 8 = .ok (.i2l, 1) := by decide +kernel
theorem dL_dependence_9 : decode cL_dependence 9 = .ok (.lastore, 1) := by decide +kernel
theorem dL_dependence_10 : decode cL_dependence 10 = .ok (.goto 11, 3) := by decide +kernel
theorem dL_dependence_13 : decode cL_dependence 13 = .ok (.astore 4, 2) := by decide +kernel
theorem dL_dependence_15 : decode cL_dependence 15 = .ok (.iconst 1, 1) := by decide +kernel
theorem dL_dependence_16 : decode cL_dependence 16 = .ok (.ireturn, 1) := by decide +kernel
theorem dL_dependence_17 : decode cL_dependence 17 = .ok (.astore 4, 2) := by decide +kernel
theorem dL_dependence_19 : decode cL_dependence 19 = .ok (.iconst 2, 1) := by decide +kernel
theorem dL_dependence_20 : decode cL_dependence 20 = .ok (.ireturn, 1) := by decide +kernel
theorem dL_dependence_21 : decode cL_dependence 21 = .ok (.iconst 0, 1) := by decide +kernel
theorem dL_dependence_22 : decode cL_dependence 22 = .ok (.ireturn, 1) := by decide +kernel
set_option maxRecDepth 20000 in
theorem ggL_lead_X5_lead : GoodIn wsL_lead wsX5_lead := goodIn_ca (goodIn_ca (goodIn_ca (goodIn_r _ [8, 9, 10, 11, 12, 13, 14, 15, 16, 17, 18, 19, 20, 21, 22, 23, 24, 7, 25, 26, 27, 28, 29, 30, 31, 32, 33, 34, 35, 36, 37, 38, 39, 40, 41, 42, 43, 44, 45, 46, 47, 48, 49, 50, 51, 52, 53, 54, 55, 56, 57, 58, 59, 60, 61, 62, 63, 64, 65, 66, 67, 68, 69, 70, 71, 72, 73, 74, 75, 76, 77, 78, 79, 80, 81, 82, 83, 84, 85, 86, 87, 88, 89, 90, 91, 92, 93, 94, 95, 96, 97, 98, 99, 100, 101, 102, 103, 104, 105, 106, 107, 108, 109, 110, 111, 112, 113, 114, 115, 116, 117, 118] (by decide +kernel) (by decide +kernel)) (goodIn_sub (fun _ h => List.mem_cons_of_mem _ (List.mem_append_left _ (List.mem_append_left _ (List.mem_append_right _ h)))) (by decide +kernel))) (goodIn_sub (fun _ h => List.mem_cons_of_mem _ (List.mem_append_left _ (List.mem_append_right _ h))) (by decide +kernel))) (goodIn_sub (fun _ h => List.mem_cons_of_mem _ (List.mem_append_right _ h)) (by decide +kernel))
set_option maxRecDepth 20000 in
theorem gL_lead_X5_lead : GoodIn wsL_lead (wsV RL 42 RX5 yX5_lead wsX5_lead) := goodIn_app (goodIn_of _ (by decide +kernel)) ggL_lead_X5_lead
theorem dL_lead_0 : decode cL_lead 0 = .ok (.aload_n 3, 1) := by decide +kernel
theorem dL_lead_1 : decode cL_lead 1 = .ok (.iconst 0, 1) := by decide +kernel
theorem dL_lead_2 : decode cL_lead 2 = .ok (.aload_n 0, 1) := by decide +kernel
theorem dL_lead_3 : decode cL_lead 3 = .ok (.iload_n 1, 1) := by decide +kernel
theorem dL_lead_4 : decode cL_lead 4 = .ok (.iload_n 2, 1) := by decide +kernel
theorem dL_lead_5 : decode cL_lead 5 = .ok (.invokevirtual 42, 3) := by decide +kernel
theorem dL_lead_8 : decode cL_lead 8 = .ok (.i2l, 1) := by decide +kernel
theorem dL_lead_9 : decode cL_lead 9 = .ok (.lastore, 1) := by decide +kernel
theorem dL_lead_10 : decode cL_lead 10 = .ok (.goto 15, 3) := by decide +kernel
theorem dL_lead_13 : decode cL_lead 13 = .ok (.astore 4, 2) := by decide +kernel
theorem dL_lead_15 : decode cL_lead 15 = .ok (.iconst 1, 1) := by decide +kernel
theorem dL_lead_16 : decode cL_lead 16 = .ok (.ireturn, 1) := by decide +kernel
theorem dL_lead_17 : decode cL_lead 17 = .ok (.astore 4, 2) := by decide +kernel
theorem dL_lead_19 : decode cL_lead 19 = .ok (.iconst 2, 1) := by decide +kernel
theorem dL_lead_20 : decode cL_lead 20 = .ok (.ireturn, 1) := by decide +kernel
theorem dL_lead_21 : decode cL_lead 21 = .ok (.astore 4, 2) := by decide +kernel
theorem dL_lead_23 : decode cL_lead 23 = .ok (.iconst 3, 1) := by decide +kernel
theorem dL_lead_24 : decode cL_lead 24 = .ok (.ireturn, 1) := by decide +kernel
theorem dL_lead_25 : decode cL_lead 25 = .ok (.iconst 0, 1) := by decide +kernel
theorem dL_lead_26 : decode cL_lead 26 = .ok (.ireturn, 1) := by decide +kernel
set_option maxRecDepth 20000 in
theorem ggL_eliminate_X5_eliminate : GoodIn wsL_eliminate wsX5_eliminate := goodIn_ca (goodIn_r _ [6, 7, 8, 9, 10, 11, 5, 12, 13, 14, 15, 16, 17, 18, 19, 20, 21, 22, 23, 24, 25, 26, 27, 28, 29, 30, 31, 32, 33, 34, 35, 36, 37, 38, 39, 40, 41, 42, 43, 44, 45, 46, 47, 48, 49, 50, 51, 52, 53, 54, 55, 56, 57, 58, 59, 60, 61, 62, 63, 64, 65, 66, 67, 68, 69, 70, 71, 72, 73, 74, 75, 76, 77, 78, 79, 80, 81, 82, 83, 84, 85, 86, 87, 88, 89, 90, 91, 92, 93, 94, 95, 96, 97, 98, 99, 100, 101, 102, 103, 104, 105, 106, 107, 108, 109, 110, 111, 112, 113, 114, 115, 116] (by decide +kernel) (by decide +kernel)) (goodIn_sub (fun _ h => List.mem_cons_of_mem _ (List.mem_append_right _ h)) (by decide +kernel))
set_option maxRecDepth 20000 in
theorem gL_eliminate_X5_eliminate : GoodIn wsL_eliminate (wsV RL 45 RX5 yX5_eliminate wsX5_eliminate) := goodIn_app (goodIn_of _ (by decide +kernel)) ggL_eliminate_X5_eliminate
theorem dL_eliminate_0 : decode cL_eliminate 0 = .ok (.aload_n 2, 1) := by decide +kernel
theorem dL_eliminate_1 : decode cL_eliminate 1 = .ok (.iconst 0, 1) := by decide +kernel
theorem dL_eliminate_2 : decode cL_eliminate 2 = .ok (.aload_n 0, 1) := by decide +kernel
theorem dL_eliminate_3 : decode cL_eliminate 3 = .ok (.iload_n 1, 1) := by decide +kernel
theorem dL_eliminate_4 : decode cL_eliminate 4 = .ok (.invokevirtual 45, 3) := by decide +kernel
theorem dL_eliminate_7 : decode cL_eliminate 7 = .ok (.i2l, 1) := by decide +kernel
theorem dL_eliminate_8 : decode cL_eliminate 8 = .ok (.lastore, 1) := by decide +kernel
theorem dL_eliminate_9 : decode cL_eliminate 9 = .ok (.goto 6, 3) := by decide +kernel
theorem dL_eliminate_12 : decode cL_eliminate 12 = .ok (.astore_n 3, 1) := by decide +kernel
theorem dL_eliminate_13 : decode cL_eliminate 13 = .ok (.iconst 1, 1) := by decide +kernel
theorem dL_eliminate_14 : decode cL_eliminate 14 = .ok (.ireturn, 1) := by decide +kernel
theorem dL_eliminate_15 : decode cL_eliminate 15 = .ok (.iconst 0, 1) := by decide +kernel
theorem dL_eliminate_16 : decode cL_eliminate 16 = .ok (.ireturn, 1) := by decide +kernel
set_option maxRecDepth 20000 in
theorem ggL_precedes_X5_precedes : GoodIn wsL_precedes wsX5_precedes := goodIn_ca (goodIn_r _ [6, 7, 8, 9, 10, 11, 12, 13, 14, 15, 16, 17, 18, 19, 20, 21, 22, 23, 24, 25, 26, 27, 28, 29, 30, 31, 32, 33, 34, 35, 36, 37, 38, 39, 40, 41, 42, 43, 44, 45, 46, 47, 48, 49, 50, 51, 52, 53, 54, 55, 56, 57, 58] (by decide +kernel) (by decide +kernel)) (goodIn_sub (fun _ h => List.mem_cons_of_mem _ (List.mem_append_right _ h)) (by decide +kernel))
set_option maxRecDepth 20000 in
theorem gL_precedes_X5_precedes : GoodIn wsL_precedes (wsV RL 48 RX5 yX5_precedes wsX5_precedes) := goodIn_app (goodIn_of _ (by decide +kernel)) ggL_precedes_X5_precedes
theorem dL_precedes_0 : decode cL_precedes 0 = .ok (.aload_n 3, 1) := by decide +kernel
theorem dL_precedes_1 : decode cL_precedes 1 = .ok (.iconst 0, 1) := by decide +kernel
theorem dL_precedes_2 : decode cL_precedes 2 = .ok (.aload_n 0, 1) := by decide +kernel
theorem dL_precedes_3 : decode cL_precedes 3 = .ok (.iload_n 1, 1) := by decide +kernel
theorem dL_precedes_4 : decode cL_precedes 4 = .ok (.iload_n 2, 1) := by decide +kernel
theorem dL_precedes_5 : decode cL_precedes 5 = .ok (.invokevirtual 48, 3) := by decide +kernel
theorem dL_precedes_8 : decode cL_precedes 8 = .ok (.ifCond .eq 7, 3) := by decide +kernel
theorem dL_precedes_11 : decode cL_precedes 11 = .ok (.lconst 1, 1) := by decide +kernel
theorem dL_precedes_12 : decode cL_precedes 12 = .ok (.goto 4, 3) := by decide +kernel
theorem dL_precedes_15 : decode cL_precedes 15 = .ok (.lconst 0, 1) := by decide +kernel
theorem dL_precedes_16 : decode cL_precedes 16 = .ok (.lastore, 1) := by decide +kernel
theorem dL_precedes_17 : decode cL_precedes 17 = .ok (.goto 7, 3) := by decide +kernel
theorem dL_precedes_20 : decode cL_precedes 20 = .ok (.astore 4, 2) := by decide +kernel
theorem dL_precedes_22 : decode cL_precedes 22 = .ok (.iconst 1, 1) := by decide +kernel
theorem dL_precedes_23 : decode cL_precedes 23 = .ok (.ireturn, 1) := by decide +kernel
theorem dL_precedes_24 : decode cL_precedes 24 = .ok (.iconst 0, 1) := by decide +kernel
theorem dL_precedes_25 : decode cL_precedes 25 = .ok (.ireturn, 1) := by decide +kernel
set_option maxRecDepth 20000 in
theorem ggL_leastDelay_X5_leastDelay : GoodIn wsL_leastDelay wsX5_leastDelay := goodIn_ca (goodIn_r _ [6, 7, 8, 9, 10, 11, 12, 13, 14, 15, 16, 17, 18, 19, 20, 21, 22, 23, 24, 25, 26, 27, 28, 29, 30, 31, 32, 33, 34, 35, 36, 37, 38, 39, 40, 41, 42, 43, 44, 45, 46, 47, 48, 49, 50, 51, 52, 53, 54, 55, 56, 57, 58, 59, 60, 61, 62, 63, 64, 65, 66, 67, 68, 69, 70, 71, 72, 73, 74, 75, 76, 77, 78, 79, 80, 81, 82, 83, 84, 85, 86, 87, 88, 89, 90, 91, 92, 93, 94, 95, 96, 97, 98, 99, 100, 101, 102, 103, 104, 105, 106, 107, 108, 109, 110, 111, 112, 113, 114, 115, 116, 117, 118, 119, 120, 121, 122, 123, 124, 125, 126, 127, 128, 129, 130, 131, 132, 133, 134, 135, 136, 137] (by decide +kernel) (by decide +kernel)) (goodIn_sub (fun _ h => List.mem_cons_of_mem _ (List.mem_append_right _ h)) (by decide +kernel))
set_option maxRecDepth 20000 in
theorem gL_leastDelay_X5_leastDelay : GoodIn wsL_leastDelay (wsV RL 52 RX5 yX5_leastDelay wsX5_leastDelay) := goodIn_app (goodIn_of _ (by decide +kernel)) ggL_leastDelay_X5_leastDelay
theorem dL_leastDelay_0 : decode cL_leastDelay 0 = .ok (.aload_n 1, 1) := by decide +kernel
theorem dL_leastDelay_1 : decode cL_leastDelay 1 = .ok (.iconst 0, 1) := by decide +kernel
theorem dL_leastDelay_2 : decode cL_leastDelay 2 = .ok (.aload_n 0, 1) := by decide +kernel
theorem dL_leastDelay_3 : decode cL_leastDelay 3 = .ok (.invokevirtual 52, 3) := by decide +kernel
theorem dL_leastDelay_6 : decode cL_leastDelay 6 = .ok (.i2l, 1) := by decide +kernel
theorem dL_leastDelay_7 : decode cL_leastDelay 7 = .ok (.lastore, 1) := by decide +kernel
theorem dL_leastDelay_8 : decode cL_leastDelay 8 = .ok (.goto 6, 3) := by decide +kernel
theorem dL_leastDelay_11 : decode cL_leastDelay 11 = .ok (.astore_n 2, 1) := by decide +kernel
theorem dL_leastDelay_12 : decode cL_leastDelay 12 = .ok (.iconst 1, 1) := by decide +kernel
theorem dL_leastDelay_13 : decode cL_leastDelay 13 = .ok (.ireturn, 1) := by decide +kernel
theorem dL_leastDelay_14 : decode cL_leastDelay 14 = .ok (.iconst 0, 1) := by decide +kernel
theorem dL_leastDelay_15 : decode cL_leastDelay 15 = .ok (.ireturn, 1) := by decide +kernel
set_option maxRecDepth 20000 in
theorem ggL_reorder_X5_reorder : GoodIn wsL_reorder wsX5_reorder := goodIn_ca (goodIn_r _ [6, 7, 8, 9, 10, 11, 12, 13, 14, 15, 16, 17, 18, 19, 20, 21, 22, 23, 24, 25, 26, 27, 28, 29, 30, 31, 32, 33, 34, 35, 36, 37, 38, 39, 40, 41, 42, 43, 44, 45, 46, 47, 48, 49, 50, 51, 52, 53, 54, 55, 56, 57, 58, 59, 60, 61, 62, 63, 64, 65, 66, 67, 68, 69, 70, 71, 72, 73, 74, 75, 76, 77, 78, 79, 80, 81, 82, 83, 84, 85, 86, 87, 88, 89, 90, 91, 92, 93, 94, 95, 96, 97, 98, 99, 100, 101, 102, 103, 104, 105, 106, 107, 108, 109, 110, 111, 112, 113, 114, 115, 116, 117, 118, 119, 120, 121, 122, 123, 124, 125, 126, 127, 128, 129, 130, 131, 132, 133, 134, 135, 136, 137, 138] (by decide +kernel) (by decide +kernel)) (goodIn_sub (fun _ h => List.mem_cons_of_mem _ (List.mem_append_right _ h)) (by decide +kernel))
set_option maxRecDepth 20000 in
theorem gL_reorder_X5_reorder : GoodIn wsL_reorder (wsV RL 57 RX5 yX5_reorder wsX5_reorder) := goodIn_app (goodIn_of _ (by decide +kernel)) ggL_reorder_X5_reorder
theorem dL_reorder_0 : decode cL_reorder 0 = .ok (.aload_n 1, 1) := by decide +kernel
theorem dL_reorder_1 : decode cL_reorder 1 = .ok (.iconst 0, 1) := by decide +kernel
theorem dL_reorder_2 : decode cL_reorder 2 = .ok (.aload_n 0, 1) := by decide +kernel
theorem dL_reorder_3 : decode cL_reorder 3 = .ok (.invokevirtual 57, 3) := by decide +kernel
theorem dL_reorder_6 : decode cL_reorder 6 = .ok (.i2l, 1) := by decide +kernel
theorem dL_reorder_7 : decode cL_reorder 7 = .ok (.lastore, 1) := by decide +kernel
theorem dL_reorder_8 : decode cL_reorder 8 = .ok (.goto 6, 3) := by decide +kernel
theorem dL_reorder_11 : decode cL_reorder 11 = .ok (.astore_n 2, 1) := by decide +kernel
theorem dL_reorder_12 : decode cL_reorder 12 = .ok (.iconst 1, 1) := by decide +kernel
theorem dL_reorder_13 : decode cL_reorder 13 = .ok (.ireturn, 1) := by decide +kernel
theorem dL_reorder_14 : decode cL_reorder 14 = .ok (.iconst 0, 1) := by decide +kernel
theorem dL_reorder_15 : decode cL_reorder 15 = .ok (.ireturn, 1) := by decide +kernel
set_option maxRecDepth 20000 in
theorem ggL_start_X5_start : GoodIn wsL_start wsX5_start := goodIn_ca (goodIn_r _ [6, 7, 8, 9, 10, 11, 12, 13, 14, 15, 16, 17, 18, 19, 20, 21, 22, 23, 24, 5, 25, 26, 27, 28, 29, 30, 31, 32, 33, 34, 35, 36, 37, 38, 39, 40, 41, 42, 43, 44, 45, 46, 47, 48, 49, 50, 51, 52, 53, 54, 55, 56, 57, 58, 59, 60, 61, 62, 63, 64, 65, 66, 67, 68, 69, 70, 71, 72, 73, 74, 75, 76, 77, 78, 79, 80, 81, 82, 83, 84, 85, 86, 87, 88, 89, 90, 91, 92, 93, 94, 95, 96, 97, 98, 99, 100, 101, 102, 103, 104, 105, 106, 107, 108, 109, 110, 111, 112, 113, 114, 115, 116, 117, 118, 119, 120, 121, 122, 123, 124, 125, 126, 127] (by decide +kernel) (by decide +kernel)) (goodIn_sub (fun _ h => List.mem_cons_of_mem _ (List.mem_append_right _ h)) (by decide +kernel))
set_option maxRecDepth 20000 in
theorem gL_start_X5_start : GoodIn wsL_start (wsV RL 60 RX5 yX5_start wsX5_start) := goodIn_app (goodIn_of _ (by decide +kernel)) ggL_start_X5_start
theorem dL_start_0 : decode cL_start 0 = .ok (.aload_n 3, 1) := by decide +kernel
theorem dL_start_1 : decode cL_start 1 = .ok (.iconst 0, 1) := by decide +kernel
theorem dL_start_2 : decode cL_start 2 = .ok (.aload_n 0, 1) := by decide +kernel
theorem dL_start_3 : decode cL_start 3 = .ok (.iload_n 1, 1) := by decide +kernel
theorem dL_start_4 : decode cL_start 4 = .ok (.iload_n 2, 1) := by decide +kernel
theorem dL_start_5 : decode cL_start 5 = .ok (.invokevirtual 60, 3) := by decide +kernel
theorem dL_start_8 : decode cL_start 8 = .ok (.i2l, 1) := by decide +kernel
theorem dL_start_9 : decode cL_start 9 = .ok (.lastore, 1) := by decide +kernel
theorem dL_start_10 : decode cL_start 10 = .ok (.goto 7, 3) := by decide +kernel
theorem dL_start_13 : decode cL_start 13 = .ok (.astore 4, 2) := by decide +kernel
theorem dL_start_15 : decode cL_start 15 = .ok (.iconst 1, 1) := by decide +kernel
theorem dL_start_16 : decode cL_start 16 = .ok (.ireturn, 1) := by decide +kernel
theorem dL_start_17 : decode cL_start 17 = .ok (.iconst 0, 1) := by decide +kernel
theorem dL_start_18 : decode cL_start 18 = .ok (.ireturn, 1) := by decide +kernel
set_option maxRecDepth 20000 in
theorem ggL_processor_X5_processor : GoodIn wsL_processor wsX5_processor := goodIn_ca (goodIn_r _ [6, 7, 8, 9, 10, 11, 12, 13, 14, 15, 16, 17, 18, 19, 5, 20, 21, 22, 23, 24, 25, 26, 27, 28, 29, 30, 31, 32, 33, 34, 35, 36, 37, 38, 39, 40, 41, 42, 43, 44, 45, 46, 47, 48, 49, 50, 51, 52, 53, 54, 55, 56, 57, 58, 59, 60, 61, 62, 63, 64, 65, 66, 67, 68, 69, 70, 71, 72, 73, 74, 75, 76, 77, 78, 79, 80, 81, 82, 83, 84, 85, 86, 87, 88, 89, 90, 91, 92, 93, 94, 95, 96, 97, 98, 99, 100, 101, 102, 103, 104, 105, 106, 107, 108, 109, 110, 111, 112, 113, 114, 115, 116, 117, 118, 119, 120, 121] (by decide +kernel) (by decide +kernel)) (goodIn_sub (fun _ h => List.mem_cons_of_mem _ (List.mem_append_right _ h)) (by decide +kernel))
set_option maxRecDepth 20000 in
theorem gL_processor_X5_processor : GoodIn wsL_processor (wsV RL 63 RX5 yX5_processor wsX5_processor) := goodIn_app (goodIn_of _ (by decide +kernel)) ggL_processor_X5_processor
theorem dL_processor_0 : decode cL_processor 0 = .ok (.aload_n 2, 1) := by decide +kernel
theorem dL_processor_1 : decode cL_processor 1 = .ok (.iconst 0, 1) := by decide +kernel
theorem dL_processor_2 : decode cL_processor 2 = .ok (.aload_n 0, 1) := by decide +kernel
theorem dL_processor_3 : decode cL_processor 3 = .ok (.iload_n 1, 1) := by decide +kernel
theorem dL_processor_4 : decode cL_processor 4 = .ok (.invokevirtual 63, 3) := by decide +kernel
theorem dL_processor_7 : decode cL_processor 7 = .ok (.i2l, 1) := by decide +kernel
theorem dL_processor_8 : decode cL_processor 8 = .ok (.lastore, 1) := by decide +kernel
theorem dL_processor_9 : decode cL_processor 9 = .ok (.goto 6, 3) := by decide +kernel
theorem dL_processor_12 : decode cL_processor 12 = .ok (.astore_n 3, 1) := by decide +kernel
theorem dL_processor_13 : decode cL_processor 13 = .ok (.iconst 1, 1) := by decide +kernel
theorem dL_processor_14 : decode cL_processor 14 = .ok (.ireturn, 1) := by decide +kernel
theorem dL_processor_15 : decode cL_processor 15 = .ok (.iconst 0, 1) := by decide +kernel
theorem dL_processor_16 : decode cL_processor 16 = .ok (.ireturn, 1) := by decide +kernel
set_option maxRecDepth 20000 in
theorem ggL_total_X5_total : GoodIn wsL_total wsX5_total := goodIn_ca (goodIn_ca (goodIn_r _ [7, 8, 9, 10, 11, 12, 13, 14, 15, 16, 6, 17, 18, 19, 20, 21, 22, 23, 24, 25, 26, 27, 28, 29, 30, 31, 32, 33, 34, 35, 36, 37, 38, 39, 40, 41, 42, 43, 44, 45, 46, 47, 48, 49, 50, 51, 52, 53, 54, 55, 56, 57, 58, 59, 60, 61, 62, 63, 64, 65, 66, 67, 68, 69, 70, 71, 72, 73, 74, 75, 76, 77, 78, 79, 80, 81, 82, 83, 84, 85, 86, 87, 88, 89, 90, 91, 92, 93, 94, 95, 96, 97, 98, 99, 100, 101, 102, 103, 104, 105, 106, 107, 108, 109, 110, 111, 112, 113, 114, 115, 116, 117, 118, 119, 120, 121, 122, 123, 124, 125] (by decide +kernel) (by decide +kernel)) (goodIn_sub (fun _ h => List.mem_cons_of_mem _ (List.mem_append_left _ (List.mem_append_right _ h))) (by decide +kernel))) (goodIn_sub (fun _ h => List.mem_cons_of_mem _ (List.mem_append_right _ h)) (by decide +kernel))
set_option maxRecDepth 20000 in
theorem gL_total_X5_total : GoodIn wsL_total (wsV RL 66 RX5 yX5_total wsX5_total) := goodIn_app (goodIn_of _ (by decide +kernel)) ggL_total_X5_total
theorem dL_total_0 : decode cL_total 0 = .ok (.aload_n 3, 1) := by decide +kernel
theorem dL_total_1 : decode cL_total 1 = .ok (.iconst 0, 1) := by decide +kernel
theorem dL_total_2 : decode cL_total 2 = .ok (.aload_n 0, 1) := by decide +kernel
theorem dL_total_3 : decode cL_total 3 = .ok (.iload_n 1, 1) := by decide +kernel
theorem dL_total_4 : decode cL_total 4 = .ok (.iload_n 2, 1) := by decide +kernel
theorem dL_total_5 : decode cL_total 5 = .ok (.invokevirtual 66, 3) := by decide +kernel
theorem dL_total_8 : decode cL_total 8 = .ok (.i2l, 1) := by decide +kernel
theorem dL_total_9 : decode cL_total 9 = .ok (.lastore, 1) := by decide +kernel
theorem dL_total_10 : decode cL_total 10 = .ok (.goto 11, 3) := by decide +kernel
theorem dL_total_13 : decode cL_total 13 = .ok (.astore 4, 2) := by decide +kernel
theorem dL_total_15 : decode cL_total 15 = .ok (.iconst 1, 1) := by decide +kernel
theorem dL_total_16 : decode cL_total 16 = .ok (.ireturn, 1) := by decide +kernel
theorem dL_total_17 : decode cL_total 17 = .ok (.astore 4, 2) := by decide +kernel
theorem dL_total_19 : decode cL_total 19 = .ok (.iconst 2, 1) := by decide +kernel
theorem dL_total_20 : decode cL_total 20 = .ok (.ireturn, 1) := by decide +kernel
theorem dL_total_21 : decode cL_total 21 = .ok (.iconst 0, 1) := by decide +kernel
theorem dL_total_22 : decode cL_total 22 = .ok (.ireturn, 1) := by decide +kernel
set_option maxRecDepth 20000 in
theorem ggL_speedUp_X5_speedUp : GoodIn wsL_speedUp wsX5_speedUp := goodIn_ca (goodIn_ca (goodIn_r _ [7, 8, 9, 10, 11, 12, 13, 14, 15, 16, 6, 17, 18, 19, 20, 21, 22, 23, 24, 25, 26, 27, 28, 29, 30, 31, 32, 33, 34, 35, 36, 37, 38, 39, 40, 41, 42, 43, 44, 45, 46, 47, 48, 49, 50, 51, 52, 53, 54, 55, 56, 57, 58, 59, 60, 61, 62, 63, 64, 65, 66, 67, 68, 69, 70, 71, 72, 73, 74, 75, 76, 77, 78, 79, 80, 81, 82, 83, 84, 85, 86, 87, 88, 89, 90, 91, 92, 93, 94, 95, 96, 97, 98, 99, 100, 101, 102, 103, 104, 105, 106, 107, 108, 109, 110, 111, 112, 113, 114, 115, 116, 117, 118, 119, 120, 121, 122, 123, 124, 125, 126, 127, 128] (by decide +kernel) (by decide +kernel)) (goodIn_sub (fun _ h => List.mem_cons_of_mem _ (List.mem_append_left _ (List.mem_append_right _ h))) (by decide +kernel))) (goodIn_sub (fun _ h => List.mem_cons_of_mem _ (List.mem_append_right _ h)) (by decide +kernel))
set_option maxRecDepth 20000 in
theorem gL_speedUp_X5_speedUp : GoodIn wsL_speedUp (wsV RL 69 RX5 yX5_speedUp wsX5_speedUp) := goodIn_app (goodIn_of _ (by decide +kernel)) ggL_speedUp_X5_speedUp
theorem dL_speedUp_0 : decode cL_speedUp 0 = .ok (.aload_n 2, 1) := by decide +kernel
theorem dL_speedUp_1 : decode cL_speedUp 1 = .ok (.iconst 0, 1) := by decide +kernel
theorem dL_speedUp_2 : decode cL_speedUp 2 = .ok (.aload_n 0, 1) := by decide +kernel
theorem dL_speedUp_3 : decode cL_speedUp 3 = .ok (.iload_n 1, 1) := by decide +kernel
theorem dL_speedUp_4 : decode cL_speedUp 4 = .ok (.invokevirtual 69, 3) := by decide +kernel
theorem dL_speedUp_7 : decode cL_speedUp 7 = .ok (.i2l, 1) := by decide +kernel
theorem dL_speedUp_8 : decode cL_speedUp 8 = .ok (.lastore, 1) := by decide +kernel
theorem dL_speedUp_9 : decode cL_speedUp 9 = .ok (.goto 9, 3) := by decide +kernel
theorem dL_speedUp_12 : decode cL_speedUp 12 = .ok (.astore_n 3, 1) := by decide +kernel
theorem dL_speedUp_13 : decode cL_speedUp 13 = .ok (.iconst 1, 1) := by decide +kernel
theorem dL_speedUp_14 : decode cL_speedUp 14 = .ok (.ireturn, 1) := by decide +kernel
theorem dL_speedUp_15 : decode cL_speedUp 15 = .ok (.astore_n 3, 1) := by decide +kernel
theorem dL_speedUp_16 : decode cL_speedUp 16 = .ok (.iconst 2, 1) := by decide +kernel
theorem dL_speedUp_17 : decode cL_speedUp 17 = .ok (.ireturn, 1) := by decide +kernel
theorem dL_speedUp_18 : decode cL_speedUp 18 = .ok (.iconst 0, 1) := by decide +kernel
theorem dL_speedUp_19 : decode cL_speedUp 19 = .ok (.ireturn, 1) := by decide +kernel
set_option maxRecDepth 20000 in
theorem ggL_restore_X5_restore : GoodIn wsL_restore wsX5_restore := goodIn_ca (goodIn_r _ [6, 7, 8, 9, 10, 11, 12, 13, 14, 15, 16, 17, 18, 19, 20, 21, 22, 23, 24, 25, 26, 27, 28, 29, 30, 31, 32, 33, 34, 35, 36, 37, 38, 39, 40, 41, 42, 43, 44, 45, 46, 47, 48, 49, 50, 51, 52] (by decide +kernel) (by decide +kernel)) (goodIn_sub (fun _ h => List.mem_cons_of_mem _ (List.mem_append_right _ h)) (by decide +kernel))
set_option maxRecDepth 20000 in
theorem gL_restore_X5_restore : GoodIn wsL_restore (wsV RL 72 RX5 yX5_restore wsX5_restore) := goodIn_app (goodIn_of _ (by decide +kernel)) ggL_restore_X5_restore
theorem dL_restore_0 : decode cL_restore 0 = .ok (.aload_n 1, 1) := by decide +kernel
theorem dL_restore_1 : decode cL_restore 1 = .ok (.iconst 0, 1) := by decide +kernel
theorem dL_restore_2 : decode cL_restore 2 = .ok (.aload_n 0, 1) := by decide +kernel
theorem dL_restore_3 : decode cL_restore 3 = .ok (.invokevirtual 72, 3) := by decide +kernel
theorem dL_restore_6 : decode cL_restore 6 = .ok (.i2l, 1) := by decide +kernel
theorem dL_restore_7 : decode cL_restore 7 = .ok (.lastore, 1) := by decide +kernel
theorem dL_restore_8 : decode cL_restore 8 = .ok (.goto 6, 3) := by decide +kernel
theorem dL_restore_11 : decode cL_restore 11 = .ok (.astore_n 2, 1) := by decide +kernel
theorem dL_restore_12 : decode cL_restore 12 = .ok (.iconst 1, 1) := by decide +kernel
theorem dL_restore_13 : decode cL_restore 13 = .ok (.ireturn, 1) := by decide +kernel
theorem dL_restore_14 : decode cL_restore 14 = .ok (.iconst 0, 1) := by decide +kernel
theorem dL_restore_15 : decode cL_restore 15 = .ok (.ireturn, 1) := by decide +kernel
set_option maxRecDepth 20000 in
theorem ggL_count_X5_count : GoodIn wsL_count wsX5_count := goodIn_ca (goodIn_r _ [6, 7, 8, 9, 10, 11, 12, 13, 14, 15, 16, 17, 18, 19, 20, 21, 22, 23, 24, 25, 26, 27, 28, 29, 30, 31, 32, 33, 34, 35, 36, 37, 38, 39, 40, 41, 42, 43, 44, 45, 46, 47, 48, 49, 50, 51, 52, 53, 54, 55, 56] (by decide +kernel) (by decide +kernel)) (goodIn_sub (fun _ h => List.mem_cons_of_mem _ (List.mem_append_right _ h)) (by decide +kernel))
set_option maxRecDepth 20000 in
theorem gL_count_X5_count : GoodIn wsL_count (wsV RL 75 RX5 yX5_count wsX5_count) := goodIn_app (goodIn_of _ (by decide +kernel)) ggL_count_X5_count
theorem dL_count_0 : decode cL_count 0 = .ok (.aload_n 2, 1) := by decide +kernel
theorem dL_count_1 : decode cL_count 1 = .ok (.iconst 0, 1) := by decide +kernel
theorem dL_count_2 : decode cL_count 2 = .ok (.aload_n 0, 1) := by decide +kernel
theorem dL_count_3 : decode cL_count 3 = .ok (.iload_n 1, 1) := by decide +kernel
theorem dL_count_4 : decode cL_count 4 = .ok (.invokevirtual 75, 3) := by decide +kernel
theorem dL_count_7 : decode cL_count 7 = .ok (.i2l, 1) := by decide +kernel
theorem dL_count_8 : decode cL_count 8 = .ok (.lastore, 1) := by decide +kernel
theorem dL_count_9 : decode cL_count 9 = .ok (.goto 6, 3) := by decide +kernel
theorem dL_count_12 : decode cL_count 12 = .ok (.astore_n 3, 1) := by decide +kernel
theorem dL_count_13 : decode cL_count 13 = .ok (.iconst 1, 1) := by decide +kernel
theorem dL_count_14 : decode cL_count 14 = .ok (.ireturn, 1) := by decide +kernel
theorem dL_count_15 : decode cL_count 15 = .ok (.iconst 0, 1) := by decide +kernel
theorem dL_count_16 : decode cL_count 16 = .ok (.ireturn, 1) := by decide +kernel
