set_option maxRecDepth 20000 in
theorem ggL_addFerry_X0_addFerry : GoodIn wsL_addFerry wsX0_addFerry := goodIn_ca (goodIn_ca (goodIn_r _ [7, 8, 9, 10, 11, 12, 13, 6, 14, 15, 16, 17, 18, 19, 20, 21, 22, 23, 24, 25, 26] (by decide +kernel) (by decide +kernel)) (goodIn_sub (fun _ h => List.mem_cons_of_mem _ (List.mem_append_left _ (List.mem_append_right _ h))) (by decide +kernel))) (goodIn_sub (fun _ h => List.mem_cons_of_mem _ (List.mem_append_right _ h)) (by decide +kernel))
set_option maxRecDepth 20000 in
theorem gL_addFerry_X0_addFerry : GoodIn wsL_addFerry (wsV RL 7 RX0 yX0_addFerry wsX0_addFerry) := goodIn_app (goodIn_of _ (by decide +kernel)) ggL_addFerry_X0_addFerry
theorem dL_addFerry_0 : decode cL_addFerry 0 = .ok (.aload_n 2, 1) := by decide +kernel
theorem dL_addFerry_1 : decode cL_addFerry 1 = .ok (.iconst 0, 1) := by decide +kernel
theorem dL_addFerry_2 : decode cL_addFerry 2 = .ok (.aload_n 0, 1) := by decide +kernel
theorem dL_addFerry_3 : decode cL_addFerry 3 = .ok (.iload_n 1, 1) := by decide +kernel
theorem dL_addFerry_4 : decode cL_addFerry 4 = .ok (.invokevirtual 7, 3) := by decide +kernel
theorem dL_addFerry_7 : decode cL_addFerry 7 = .ok (.i2l, 1) := by decide +kernel
theorem dL_addFerry_8 : decode cL_addFerry 8 = .ok (.lastore, 1) := by decide +kernel
theorem dL_addFerry_9 : decode cL_addFerry 9 = .ok (.goto 9, 3) := by decide +kernel
theorem dL_addFerry_12 : decode cL_addFerry 12 = .ok (.astore_n 3, 1) := by decide +kernel
theorem dL_addFerry_13 : decode cL_addFerry 13 = .ok (.iconst 1, 1) := by decide +kernel
theorem dL_addFerry_14 : decode cL_addFerry 14 = .ok (.ireturn, 1) := by decide +kernel
theorem dL_addFerry_15 : decode cL_addFerry 15 = .ok (.astore_n 3, 1) := by decide +kernel
theorem dL_addFerry_16 : decode cL_addFerry 16 = .ok (.iconst 2, 1) := by decide +kernel
theorem dL_addFerry_17 : decode cL_addFerry 17 = .ok (.ireturn, 1) := by decide +kernel
theorem dL_addFerry_18 : decode cL_addFerry 18 = .ok (.iconst 0, 1) := by decide +kernel
theorem dL_addFerry_19 : decode cL_addFerry 19 = .ok (.ireturn, 1) := by decide +kernel
set_option maxRecDepth 20000 in
theorem ggL_addPerson_X0_addPerson : GoodIn wsL_addPerson wsX0_addPerson := goodIn_ca (goodIn_r _ [6, 7, 8, 9, 5, 10, 11, 12, 13, 14, 15, 16, 17, 18, 19, 20, 21, 22, 23, 24, 25, 26, 27, 28, 29] (by decide +kernel) (by decide +kernel)) (goodIn_sub (fun _ h => List.mem_cons_of_mem _ (List.mem_append_right _ h)) (by decide +kernel))
set_option maxRecDepth 20000 in
theorem gL_addPerson_X0_addPerson : GoodIn wsL_addPerson (wsV RL 17 RX0 yX0_addPerson wsX0_addPerson) := goodIn_app (goodIn_of _ (by decide +kernel)) ggL_addPerson_X0_addPerson
theorem dL_addPerson_0 : decode cL_addPerson 0 = .ok (.aload_n 1, 1) := by decide +kernel
theorem dL_addPerson_1 : decode cL_addPerson 1 = .ok (.iconst 0, 1) := by decide +kernel
theorem dL_addPerson_2 : decode cL_addPerson 2 = .ok (.aload_n 0, 1) := by decide +kernel
theorem dL_addPerson_3 : decode cL_addPerson 3 = .ok (.invokevirtual 17, 3) := by decide +kernel
theorem dL_addPerson_6 : decode cL_addPerson 6 = .ok (.i2l, 1) := by decide +kernel
theorem dL_addPerson_7 : decode cL_addPerson 7 = .ok (.lastore, 1) := by decide +kernel
theorem dL_addPerson_8 : decode cL_addPerson 8 = .ok (.goto 6, 3) := by decide +kernel
theorem dL_addPerson_11 : decode cL_addPerson 11 = .ok (.astore_n 2, 1) := by decide +kernel
theorem dL_addPerson_12 : decode cL_addPerson 12 = .ok (.iconst 1, 1) := by decide +kernel
theorem dL_addPerson_13 : decode cL_addPerson 13 = .ok (.ireturn, 1) := by decide +kernel
theorem dL_addPerson_14 : decode cL_addPerson 14 = .ok (.iconst 0, 1) := by decide +kernel
theorem dL_addPerson_15 : decode cL_addPerson 15 = .ok (.ireturn, 1) := by decide +kernel
set_option maxRecDepth 20000 in
theorem ggL_addChild_X0_addChild : GoodIn wsL_addChild wsX0_addChild := goodIn_ca (goodIn_ca (goodIn_r _ [7, 8, 9, 10, 6, 11, 12, 13, 14, 15, 16, 17, 18, 19, 20, 21, 22, 23, 24, 25, 26, 27, 28, 29, 30, 31, 32, 33, 34, 35, 36, 37, 38, 39, 40] (by decide +kernel) (by decide +kernel)) (goodIn_sub (fun _ h => List.mem_cons_of_mem _ (List.mem_append_left _ (List.mem_append_right _ h))) (by decide +kernel))) (goodIn_sub (fun _ h => List.mem_cons_of_mem _ (List.mem_append_right _ h)) (by decide +kernel))
set_option maxRecDepth 20000 in
theorem gL_addChild_X0_addChild : GoodIn wsL_addChild (wsV RL 21 RX0 yX0_addChild wsX0_addChild) := goodIn_app (goodIn_of _ (by decide +kernel)) ggL_addChild_X0_addChild
theorem dL_addChild_0 : decode cL_addChild 0 = .ok (.aload_n 2, 1) := by decide +kernel
theorem dL_addChild_1 : decode cL_addChild 1 = .ok (.iconst 0, 1) := by decide +kernel
theorem dL_addChild_2 : decode cL_addChild 2 = .ok (.aload_n 0, 1) := by decide +kernel
theorem dL_addChild_3 : decode cL_addChild 3 = .ok (.iload_n 1, 1) := by decide +kernel
theorem dL_addChild_4 : decode cL_addChild 4 = .ok (.invokevirtual 21, 3) := by decide +kernel
theorem dL_addChild_7 : decode cL_addChild 7 = .ok (.i2l, 1) := by decide +kernel
theorem dL_addChild_8 : decode cL_addChild 8 = .ok (.lastore, 1) := by decide +kernel
theorem dL_addChild_9 : decode cL_addChild 9 = .ok (.goto 9, 3) := by decide +kernel
theorem dL_addChild_12 : decode cL_addChild 12 = .ok (.astore_n 3, 1) := by decide +kernel
theorem dL_addChild_13 : decode cL_addChild 13 = .ok (.iconst 1, 1) := by decide +kernel
theorem dL_addChild_14 : decode cL_addChild 14 = .ok (.ireturn, 1) := by decide +kernel
theorem dL_addChild_15 : decode cL_addChild 15 = .ok (.astore_n 3, 1) := by decide +kernel
theorem dL_addChild_16 : decode cL_addChild 16 = .ok (.iconst 2, 1) := by decide +kernel
theorem dL_addChild_17 : decode cL_addChild 17 = .ok (.ireturn, 1) := by decide +kernel
theorem dL_addChild_18 : decode cL_addChild 18 = .ok (.iconst 0, 1) := by decide +kernel
theorem dL_addChild_19 : decode cL_addChild 19 = .ok (.ireturn, 1) := by decide +kernel
set_option maxRecDepth 20000 in
theorem ggL_pay_X0_pay : GoodIn wsL_pay wsX0_pay := goodIn_ca (goodIn_ca (goodIn_ca (goodIn_r _ [8, 9, 10, 11, 12, 13, 14, 7, 15, 16, 17, 18, 19, 20, 21, 22, 23, 24, 25, 26, 27, 28, 29, 30, 31, 32, 33, 34, 35, 36, 37, 38, 39, 40, 41, 42, 43] (by decide +kernel) (by decide +kernel)) (goodIn_sub (fun _ h => List.mem_cons_of_mem _ (List.mem_append_left _ (List.mem_append_left _ (List.mem_append_right _ h)))) (by decide +kernel))) (goodIn_sub (fun _ h => List.mem_cons_of_mem _ (List.mem_append_left _ (List.mem_append_right _ h))) (by decide +kernel))) (goodIn_sub (fun _ h => List.mem_cons_of_mem _ (List.mem_append_right _ h)) (by decide +kernel))
set_option maxRecDepth 20000 in
theorem gL_pay_X0_pay : GoodIn wsL_pay (wsV RL 26 RX0 yX0_pay wsX0_pay) := goodIn_app (goodIn_of _ (by decide +kernel)) ggL_pay_X0_pay
theorem dL_pay_0 : decode cL_pay 0 = .ok (.aload_n 3, 1) := by decide +kernel
theorem dL_pay_1 : decode cL_pay 1 = .ok (.iconst 0, 1) := by decide +kernel
theorem dL_pay_2 : decode cL_pay 2 = .ok (.aload_n 0, 1) := by decide +kernel
theorem dL_pay_3 : decode cL_pay 3 = .ok (.iload_n 1, 1) := by decide +kernel
theorem dL_pay_4 : decode cL_pay 4 = .ok (.iload_n 2, 1) := by decide +kernel
theorem dL_pay_5 : decode cL_pay 5 = .ok (.invokevirtual 26, 3) := by decide +kernel
theorem dL_pay_8 : decode cL_pay 8 = .ok (.i2l, 1) := by decide +kernel
theorem dL_pay_9 : decode cL_pay 9 = .ok (.lastore, 1) := by decide +kernel
theorem dL_pay_10 : decode cL_pay 10 = .ok (.goto 15, 3) := by decide +kernel
theorem dL_pay_13 : decode cL_pay 13 = .ok (.astore 4, 2) := by decide +kernel
theorem dL_pay_15 : decode cL_pay 15 = .ok (.iconst 1, 1) := by decide +kernel
theorem dL_pay_16 : decode cL_pay 16 = .ok (.ireturn, 1) := by decide +kernel
theorem dL_pay_17 : decode cL_pay 17 = .ok (.astore 4, 2) := by decide +kernel
theorem dL_pay_19 : decode cL_pay 19 = .ok (.iconst 2, 1) := by decide +kernel
theorem dL_pay_20 : decode cL_pay 20 = .ok (.ireturn, 1) := by decide +kernel
theorem dL_pay_21 : decode cL_pay 21 = .ok (.astore 4, 2) := by decide +kernel
theorem dL_pay_23 : decode cL_pay 23 = .ok (.iconst 3, 1) := by decide +kernel
theorem dL_pay_24 : decode cL_pay 24 = .ok (.ireturn, 1) := by decide +kernel
theorem dL_pay_25 : decode cL_pay 25 = .ok (.iconst 0, 1) := by decide +kernel
theorem dL_pay_26 : decode cL_pay 26 = .ok (.ireturn, 1) := by decide +kernel
set_option maxRecDepth 20000 in
theorem ggL_grant_X0_grant : GoodIn wsL_grant wsX0_grant := goodIn_ca (goodIn_ca (goodIn_ca (goodIn_r _ [8, 9, 10, 11, 12, 13, 7, 14, 15, 16, 17, 18, 19, 20, 21, 22, 23, 24, 25, 26, 27, 28, 29, 30, 31, 32, 33, 34, 35, 36, 37, 38, 39, 40, 41, 42, 43, 44, 45, 46, 47, 48, 49, 50, 51, 52, 53, 54, 55, 56, 57, 58, 59, 60, 61] (by decide +kernel) (by decide +kernel)) (goodIn_sub (fun _ h => List.mem_cons_of_mem _ (List.mem_append_left _ (List.mem_append_left _ (List.mem_append_right _ h)))) (by decide +kernel))) (goodIn_sub (fun _ h => List.mem_cons_of_mem _ (List.mem_append_left _ (List.mem_append_right _ h))) (by decide +kernel))) (goodIn_sub (fun _ h => List.mem_cons_of_mem _ (List.mem_append_right _ h)) (by decide +kernel))
set_option maxRecDepth 20000 in
theorem gL_grant_X0_grant : GoodIn wsL_grant (wsV RL 30 RX0 yX0_grant wsX0_grant) := goodIn_app (goodIn_of _ (by decide +kernel)) ggL_grant_X0_grant
theorem dL_grant_0 : decode cL_grant 0 = .ok (.aload 5, 2) := by decide +kernel
theorem dL_grant_2 : decode cL_grant 2 = .ok (.iconst 0, 1) := by decide +kernel
theorem dL_grant_3 : decode cL_grant 3 = .ok (.aload_n 0, 1) := by decide +kernel
theorem dL_grant_4 : decode cL_grant 4 = .ok (.iload_n 1, 1) := by decide +kernel
theorem dL_grant_5 : decode cL_grant 5 = .ok (.iload_n 2, 1) := by decide +kernel
theorem dL_grant_6 : decode cL_grant 6 = .ok (.iload_n 3, 1) := by decide +kernel
theorem dL_grant_7 : decode cL_grant 7 = .ok (.iload 4, 2) := by decide +kernel
theorem dL_grant_9 : decode cL_grant 9 = .ok (.invokevirtual 30, 3) := by decide +kernel
theorem dL_grant_12 : decode cL_grant 12 = .ok (.i2l, 1) := by decide +kernel
theorem dL_grant_13 : decode cL_grant 13 = .ok (.lastore, 1) := by decide +kernel
theorem dL_grant_14 : decode cL_grant 14 = .ok (.goto 15, 3) := by decide +kernel
theorem dL_grant_17 : decode cL_grant 17 = .ok (.astore 6, 2) := by decide +kernel
theorem dL_grant_19 : decode cL_grant 19 = .ok (.iconst 1, 1) := by decide +kernel
theorem dL_grant_20 : decode cL_grant 20 = .ok (.ireturn, 1) := by decide +kernel
theorem dL_grant_21 : decode cL_grant 21 = .ok (.astore 6, 2) := by decide +kernel
theorem dL_grant_23 : decode cL_grant 23 = .ok (.iconst 2, 1) := by decide +kernel
theorem dL_grant_24 : decode cL_grant 24 = .ok (.ireturn, 1) := by decide +kernel
theorem dL_grant_25 : decode cL_grant 25 = .ok (.astore 6, 2) := by decide +kernel
theorem dL_grant_27 : decode cL_grant 27 = .ok (.iconst 3, 1) := by decide +kernel
theorem dL_grant_28 : decode cL_grant 28 = .ok (.ireturn, 1) := by decide +kernel
theorem dL_grant_29 : decode cL_grant 29 = .ok (.iconst 0, 1) := by decide +kernel
theorem dL_grant_30 : decode cL_grant 30 = .ok (.ireturn, 1) := by decide +kernel
set_option maxRecDepth 20000 in
theorem ggL_give_X0_give : GoodIn wsL_give wsX0_give := goodIn_ca (goodIn_ca (goodIn_ca (goodIn_r _ [8, 9, 10, 11, 12, 13, 14, 15, 7, 16, 17, 18, 19, 20, 21, 22, 23, 24, 25, 26, 27, 28, 29, 30, 31, 32, 33, 34, 35, 36, 37, 38, 39, 40, 41, 42, 43, 44, 45, 46, 47, 48, 49, 50, 51, 52, 53, 54, 55, 56, 57] (by decide +kernel) (by decide +kernel)) (goodIn_sub (fun _ h => List.mem_cons_of_mem _ (List.mem_append_left _ (List.mem_append_left _ (List.mem_append_right _ h)))) (by decide +kernel))) (goodIn_sub (fun _ h => List.mem_cons_of_mem _ (List.mem_append_left _ (List.mem_append_right _ h))) (by decide +kernel))) (goodIn_sub (fun _ h => List.mem_cons_of_mem _ (List.mem_append_right _ h)) (by decide +kernel))
set_option maxRecDepth 20000 in
theorem gL_give_X0_give : GoodIn wsL_give (wsV RL 34 RX0 yX0_give wsX0_give) := goodIn_app (goodIn_of _ (by decide +kernel)) ggL_give_X0_give
theorem dL_give_0 : decode cL_give 0 = .ok (.aload 6, 2) := by decide +kernel
theorem dL_give_2 : decode cL_give 2 = .ok (.iconst 0, 1) := by decide +kernel
theorem dL_give_3 : decode cL_give 3 = .ok (.aload_n 0, 1) := by decide +kernel
theorem dL_give_4 : decode cL_give 4 = .ok (.iload_n 1, 1) := by decide +kernel
theorem dL_give_5 : decode cL_give 5 = .ok (.iload_n 2, 1) := by decide +kernel
theorem dL_give_6 : decode cL_give 6 = .ok (.iload_n 3, 1) := by decide +kernel
theorem dL_give_7 : decode cL_give 7 = .ok (.iload 4, 2) := by decide +kernel
theorem dL_give_9 : decode cL_give 9 = .ok (.iload 5, 2) := by decide +kernel
theorem dL_give_11 : decode cL_give 11 = .ok (.invokevirtual 34, 3) := by decide +kernel
theorem dL_give_14 : decode cL_give 14 = .ok (.i2l, 1) := by decide +kernel
theorem dL_give_15 : decode cL_give 15 = .ok (.lastore, 1) := by decide +kernel
theorem dL_give_16 : decode cL_give 16 = .ok (.goto 15, 3) := by decide +kernel
theorem dL_give_19 : decode cL_give 19 = .ok (.astore 7, 2) := by decide +kernel
theorem dL_give_21 : decode cL_give 21 = .ok (.iconst 1, 1) := by decide +kernel
theorem dL_give_22 : decode cL_give 22 = .ok (.ireturn, 1) := by decide +kernel
theorem dL_give_23 : decode cL_give 23 = .ok (.astore 7, 2) := by decide +kernel
theorem dL_give_25 : decode cL_give 25 = .ok (.iconst 2, 1) := by decide +kernel
theorem dL_give_26 : decode cL_give 26 = .ok (.ireturn, 1) := by decide +kernel
theorem dL_give_27 : decode cL_give 27 = .ok (.astore 7, 2) := by decide +kernel
theorem dL_give_29 : decode cL_give 29 = .ok (.iconst 3, 1) := by decide +kernel
theorem dL_give_30 : decode cL_give 30 = .ok (.ireturn, 1) := by decide +kernel
theorem dL_give_31 : decode cL_give 31 = .ok (.iconst 0, 1) := by decide +kernel
theorem dL_give_32 : decode cL_give 32 = .ok (.ireturn, 1) := by decide +kernel
set_option maxRecDepth 20000 in
theorem ggL_buy_X0_buy : GoodIn wsL_buy wsX0_buy := goodIn_ca (goodIn_ca (goodIn_r _ [7, 8, 9, 10, 11, 12, 13, 6, 14, 15, 16, 17, 18, 19, 20, 21, 22, 23, 24, 25, 26, 27, 28, 29, 30, 31, 32, 33, 34, 35, 36, 37, 38, 39, 40, 41, 42, 43, 44, 45, 46, 47, 48, 49, 50, 51, 52, 53, 54, 55, 56, 57, 58, 59, 60, 61, 62, 63, 64, 65, 66, 67, 68, 69, 70, 71, 72, 73, 74, 75, 76, 77, 78] (by decide +kernel) (by decide +kernel)) (goodIn_sub (fun _ h => List.mem_cons_of_mem _ (List.mem_append_left _ (List.mem_append_right _ h))) (by decide +kernel))) (goodIn_sub (fun _ h => List.mem_cons_of_mem _ (List.mem_append_right _ h)) (by decide +kernel))
set_option maxRecDepth 20000 in
theorem gL_buy_X0_buy : GoodIn wsL_buy (wsV RL 38 RX0 yX0_buy wsX0_buy) := goodIn_app (goodIn_of _ (by decide +kernel)) ggL_buy_X0_buy
theorem dL_buy_0 : decode cL_buy 0 = .ok (.aload 5, 2) := by decide +kernel
theorem dL_buy_2 : decode cL_buy 2 = .ok (.iconst 0, 1) := by decide +kernel
theorem dL_buy_3 : decode cL_buy 3 = .ok (.aload_n 0, 1) := by decide +kernel
theorem dL_buy_4 : decode cL_buy 4 = .ok (.iload_n 1, 1) := by decide +kernel
theorem dL_buy_5 : decode cL_buy 5 = .ok (.iload_n 2, 1) := by decide +kernel
theorem dL_buy_6 : decode cL_buy 6 = .ok (.iload_n 3, 1) := by decide +kernel
theorem dL_buy_7 : decode cL_buy 7 = .ok (.iload 4, 2) := by decide +kernel
theorem dL_buy_9 : decode cL_buy 9 = .ok (.invokevirtual 38, 3) := by decide +kernel
theorem dL_buy_12 : decode cL_buy 12 = .ok (.i2l, 1) := by decide +kernel
theorem dL_buy_13 : decode cL_buy 13 = .ok (.lastore, 1) := by decide +kernel
theorem dL_buy_14 : decode cL_buy 14 = .ok (.goto 11, 3) := by decide +kernel
theorem dL_buy_17 : decode cL_buy 17 = .ok (.astore 6, 2) := by decide +kernel
theorem dL_buy_19 : decode cL_buy 19 = .ok (.iconst 1, 1) := by decide +kernel
theorem dL_buy_20 : decode cL_buy 20 = .ok (.ireturn, 1) := by decide +kernel
theorem dL_buy_21 : decode cL_buy 21 = .ok (.astore 6, 2) := by decide +kernel
theorem dL_buy_23 : decode cL_buy 23 = .ok (.iconst 2, 1) := by decide +kernel
theorem dL_buy_24 : decode cL_buy 24 = .ok (.ireturn, 1) := by decide +kernel
theorem dL_buy_25 : decode cL_buy 25 = .ok (.iconst 0, 1) := by decide +kernel
theorem dL_buy_26 : decode cL_buy 26 = .ok (.ireturn, 1) := by decide +kernel
set_option maxRecDepth 20000 in
theorem ggL_setToll_X0_setToll : GoodIn wsL_setToll wsX0_setToll := goodIn_ca (goodIn_ca (goodIn_ca (goodIn_r _ [8, 9, 10, 11, 12, 13, 14, 7, 15, 16, 17, 18, 19, 20, 21, 22, 23, 24, 25, 26, 27, 28, 29, 30, 31, 32, 33, 34, 35, 36, 37, 38, 39, 40, 41, 42, 43, 44, 45, 46, 47, 48, 49, 50, 51, 52, 53, 54] (by decide +kernel) (by decide +kernel)) (goodIn_sub (fun _ h => List.mem_cons_of_mem _ (List.mem_append_left _ (List.mem_append_left _ (List.mem_append_right _ h)))) (by decide +kernel))) (goodIn_sub (fun _ h => List.mem_cons_of_mem _ (List.mem_append_left _ (List.mem_append_right _ h))) (by decide +kernel))) (goodIn_sub (fun _ h => List.mem_cons_of_mem _ (List.mem_append_right _ h)) (by decide +kernel))
set_option maxRecDepth 20000 in
theorem gL_setToll_X0_setToll : GoodIn wsL_setToll (wsV RL 41 RX0 yX0_setToll wsX0_setToll) := goodIn_app (goodIn_of _ (by decide +kernel)) ggL_setToll_X0_setToll
theorem dL_setToll_0 : decode cL_setToll 0 = .ok (.aload 4, 2) := by decide +kernel
theorem dL_setToll_2 : decode cL_setToll 2 = .ok (.iconst 0, 1) := by decide +kernel
theorem dL_setToll_3 : decode cL_setToll 3 = .ok (.aload_n 0, 1) := by decide +kernel
theorem dL_setToll_4 : decode cL_setToll 4 = .ok (.iload_n 1, 1) := by decide +kernel
theorem dL_setToll_5 : decode cL_setToll 5 = .ok (.iload_n 2, 1) := by decide +kernel
theorem dL_setToll_6 : decode cL_setToll 6 = .ok (.iload_n 3, 1) := by decide +kernel
theorem dL_setToll_7 : decode cL_setToll 7 = .ok (.invokevirtual 41, 3) := by decide +kernel
theorem dL_setToll_10 : decode cL_setToll 10 = .ok (.i2l, 1) := by decide +kernel
theorem dL_setToll_11 : decode cL_setToll 11 = .ok (.lastore, 1) := by decide +kernel
theorem dL_setToll_12 : decode cL_setToll 12 = .ok (.goto 15, 3) := by decide +kernel
theorem dL_setToll_15 : decode cL_setToll 15 = .ok (.astore 5, 2) := by decide +kernel
theorem dL_setToll_17 : decode cL_setToll 17 = .ok (.iconst 1, 1) := by decide +kernel
theorem dL_setToll_18 : decode cL_setToll 18 = .ok (.ireturn, 1) := by decide +kernel
theorem dL_setToll_19 : decode cL_setToll 19 = .ok (.astore 5, 2) := by decide +kernel
theorem dL_setToll_21 : decode cL_setToll 21 = .ok (.iconst 2, 1) := by decide +kernel
theorem dL_setToll_22 : decode cL_setToll 22 = .ok (.ireturn, 1) := by decide +kernel
theorem dL_setToll_23 : decode cL_setToll 23 = .ok (.astore 5, 2) := by decide +kernel
theorem dL_setToll_25 : decode cL_setToll 25 = .ok (.iconst 3, 1) := by decide +kernel
theorem dL_setToll_26 : decode cL_setToll 26 = .ok (.ireturn, 1) := by decide +kernel
theorem dL_setToll_27 : decode cL_setToll 27 = .ok (.iconst 0, 1) := by decide +kernel
theorem dL_setToll_28 : decode cL_setToll 28 = .ok (.ireturn, 1) := by decide +kernel
set_option maxRecDepth 20000 in
theorem ggL_carry_X0_carry : GoodIn wsL_carry wsX0_carry := goodIn_ca (goodIn_ca (goodIn_r _ [7, 8, 9, 10, 11, 12, 13, 14, 15, 6, 16, 17, 18, 19, 20, 21, 22, 23, 24, 25, 26, 27, 28, 29, 30, 31, 32, 33, 34, 35, 36, 37, 38, 39, 40, 41, 42, 43, 44, 45, 46, 47, 48, 49, 50, 51, 52, 53, 54, 55, 56, 57, 58] (by decide +kernel) (by decide +kernel)) (goodIn_sub (fun _ h => List.mem_cons_of_mem _ (List.mem_append_left _ (List.mem_append_right _ h))) (by decide +kernel))) (goodIn_sub (fun _ h => List.mem_cons_of_mem _ (List.mem_append_right _ h)) (by decide +kernel))
set_option maxRecDepth 20000 in
theorem gL_carry_X0_carry : GoodIn wsL_carry (wsV RL 45 RX0 yX0_carry wsX0_carry) := goodIn_app (goodIn_of _ (by decide +kernel)) ggL_carry_X0_carry
theorem dL_carry_0 : decode cL_carry 0 = .ok (.aload 4, 2) := by decide +kernel
theorem dL_carry_2 : decode cL_carry 2 = .ok (.iconst 0, 1) := by decide +kernel
theorem dL_carry_3 : decode cL_carry 3 = .ok (.aload_n 0, 1) := by decide +kernel
theorem dL_carry_4 : decode cL_carry 4 = .ok (.iload_n 1, 1) := by decide +kernel
theorem dL_carry_5 : decode cL_carry 5 = .ok (.iload_n 2, 1) := by decide +kernel
theorem dL_carry_6 : decode cL_carry 6 = .ok (.iload_n 3, 1) := by decide +kernel
theorem dL_carry_7 : decode cL_carry 7 = .ok (.invokevirtual 45, 3) := by decide +kernel
theorem dL_carry_10 : decode cL_carry 10 = .ok (.i2l, 1) := by decide +kernel
theorem dL_carry_11 : decode cL_carry 11 = .ok (.lastore, 1) := by decide +kernel
theorem dL_carry_12 : decode cL_carry 12 = .ok (.goto 11, 3) := by decide +kernel
theorem dL_carry_15 : decode cL_carry 15 = .ok (.astore 5, 2) := by decide +kernel
theorem dL_carry_17 : decode cL_carry 17 = .ok (.iconst 1, 1) := by decide +kernel
theorem dL_carry_18 : decode cL_carry 18 = .ok (.ireturn, 1) := by decide +kernel
theorem dL_carry_19 : decode cL_carry 19 = .ok (.astore 5, 2) := by decide +kernel
theorem dL_carry_21 : decode cL_carry 21 = .ok (.iconst 2, 1) := by decide +kernel
theorem dL_carry_22 : decode cL_carry 22 = .ok (.ireturn, 1) := by decide +kernel
theorem dL_carry_23 : decode cL_carry 23 = .ok (.iconst 0, 1) := by decide +kernel
theorem dL_carry_24 : decode cL_carry 24 = .ok (.ireturn, 1) := by decide +kernel
set_option maxRecDepth 20000 in
theorem ggL_die_X0_die : GoodIn wsL_die wsX0_die := goodIn_ca (goodIn_ca (goodIn_r _ [7, 8, 9, 10, 11, 12, 13, 6, 14, 15, 16, 17, 18, 19, 20, 21, 22, 23, 24, 25, 26, 27, 28, 29, 30, 31, 32, 33, 34, 35, 36, 37, 38, 39, 40, 41, 42, 43, 44, 45, 46, 47, 48, 49, 50, 51, 52, 53, 54, 55, 56, 57, 58, 59, 60, 61, 62, 63, 64, 65, 66, 67, 68, 69, 70, 71, 72, 73, 74, 75, 76, 77, 78, 79, 80, 81, 82] (by decide +kernel) (by decide +kernel)) (goodIn_sub (fun _ h => List.mem_cons_of_mem _ (List.mem_append_left _ (List.mem_append_right _ h))) (by decide +kernel))) (goodIn_sub (fun _ h => List.mem_cons_of_mem _ (List.mem_append_right _ h)) (by decide +kernel))
set_option maxRecDepth 20000 in
theorem gL_die_X0_die : GoodIn wsL_die (wsV RL 48 RX0 yX0_die wsX0_die) := goodIn_app (goodIn_of _ (by decide +kernel)) ggL_die_X0_die
theorem dL_die_0 : decode cL_die 0 = .ok (.aload_n 2, 1) := by decide +kernel
theorem dL_die_1 : decode cL_die 1 = .ok (.iconst 0, 1) := by decide +kernel
theorem dL_die_2 : decode cL_die 2 = .ok (.aload_n 0, 1) := by decide +kernel
theorem dL_die_3 : decode cL_die 3 = .ok (.iload_n 1, 1) := by decide +kernel
theorem dL_die_4 : decode cL_die 4 = .ok (.invokevirtual 48, 3) := by decide +kernel
theorem dL_die_7 : decode cL_die 7 = .ok (.i2l, 1) := by decide +kernel
theorem dL_die_8 : decode cL_die 8 = .ok (.lastore, 1) := by decide +kernel
theorem dL_die_9 : decode cL_die 9 = .ok (.goto 9, 3) := by decide +kernel
theorem dL_die_12 : decode cL_die 12 = .ok (.astore_n 3, 1) := by decide +kernel
theorem dL_die_13 : decode cL_die 13 = .ok (.iconst 1, 1) := by decide +kernel
theorem dL_die_14 : decode cL_die 14 = .ok (.ireturn, 1) := by decide +kernel
theorem dL_die_15 : decode cL_die 15 = .ok (.astore_n 3, 1) := by decide +kernel
theorem dL_die_16 : decode cL_die 16 = .ok (.iconst 2, 1) := by decide +kernel
theorem dL_die_17 : decode cL_die 17 = .ok (.ireturn, 1) := by decide +kernel
theorem dL_die_18 : decode cL_die 18 = .ok (.iconst 0, 1) := by decide +kernel
theorem dL_die_19 : decode cL_die 19 = .ok (.ireturn, 1) := by decide +kernel
set_option maxRecDepth 20000 in
theorem ggL_toll_X0_toll : GoodIn wsL_toll wsX0_toll := goodIn_ca (goodIn_r _ [6, 7, 8, 9, 10, 5, 11, 12, 13, 14, 15, 16, 17, 18, 19, 20, 21, 22, 23, 24] (by decide +kernel) (by decide +kernel)) (goodIn_sub (fun _ h => List.mem_cons_of_mem _ (List.mem_append_right _ h)) (by decide +kernel))
set_option maxRecDepth 20000 in
theorem gL_toll_X0_toll : GoodIn wsL_toll (wsV RL 51 RX0 yX0_toll wsX0_toll) := goodIn_app (goodIn_of _ (by decide +kernel)) ggL_toll_X0_toll
theorem dL_toll_0 : decode cL_toll 0 = .ok (.aload_n 2, 1) := by decide +kernel
theorem dL_toll_1 : decode cL_toll 1 = .ok (.iconst 0, 1) := by decide +kernel
theorem dL_toll_2 : decode cL_toll 2 = .ok (.aload_n 0, 1) := by decide +kernel
theorem dL_toll_3 : decode cL_toll 3 = .ok (.iload_n 1, 1) := by decide +kernel
theorem dL_toll_4 : decode cL_toll 4 = .ok (.invokevirtual 51, 3) := by decide +kernel
theorem dL_toll_7 : decode cL_toll 7 = .ok (.i2l, 1) := by decide +kernel
theorem dL_toll_8 : decode cL_toll 8 = .ok (.lastore, 1) := by decide +kernel
theorem dL_toll_9 : decode cL_toll 9 = .ok (.goto 6, 3) := by decide +kernel
theorem dL_toll_12 : decode cL_toll 12 = .ok (.astore_n 3, 1) := by decide +kernel
theorem dL_toll_13 : decode cL_toll 13 = .ok (.iconst 1, 1) := by decide +kernel
theorem dL_toll_14 : decode cL_toll 14 = .ok (.ireturn, 1) := by decide +kernel
theorem dL_toll_15 : decode cL_toll 15 = .ok (.iconst 0, 1) := by decide +kernel
theorem dL_toll_16 : decode cL_toll 16 = .ok (.ireturn, 1) := by decide +kernel
set_option maxRecDepth 20000 in
theorem ggL_carried_X0_carried : GoodIn wsL_carried wsX0_carried := goodIn_ca (goodIn_r _ [6, 7, 8, 9, 10, 5, 11, 12, 13, 14, 15, 16, 17, 18, 19, 20, 21, 22, 23, 24] (by decide +kernel) (by decide +kernel)) (goodIn_sub (fun _ h => List.mem_cons_of_mem _ (List.mem_append_right _ h)) (by decide +kernel))
set_option maxRecDepth 20000 in
theorem gL_carried_X0_carried : GoodIn wsL_carried (wsV RL 54 RX0 yX0_carried wsX0_carried) := goodIn_app (goodIn_of _ (by decide +kernel)) ggL_carried_X0_carried
theorem dL_carried_0 : decode cL_carried 0 = .ok (.aload_n 2, 1) := by decide +kernel
theorem dL_carried_1 : decode cL_carried 1 = .ok (.iconst 0, 1) := by decide +kernel
theorem dL_carried_2 : decode cL_carried 2 = .ok (.aload_n 0, 1) := by decide +kernel
theorem dL_carried_3 : decode cL_carried 3 = .ok (.iload_n 1, 1) := by decide +kernel
theorem dL_carried_4 : decode cL_carried 4 = .ok (.invokevirtual 54, 3) := by decide +kernel
theorem dL_carried_7 : decode cL_carried 7 = .ok (.i2l, 1) := by decide +kernel
theorem dL_carried_8 : decode cL_carried 8 = .ok (.lastore, 1) := by decide +kernel
theorem dL_carried_9 : decode cL_carried 9 = .ok (.goto 6, 3) := by decide +kernel
theorem dL_carried_12 : decode cL_carried 12 = .ok (.astore_n 3, 1) := by decide +kernel
theorem dL_carried_13 : decode cL_carried 13 = .ok (.iconst 1, 1) := by decide +kernel
theorem dL_carried_14 : decode cL_carried 14 = .ok (.ireturn, 1) := by decide +kernel
theorem dL_carried_15 : decode cL_carried 15 = .ok (.iconst 0, 1) := by decide +kernel
theorem dL_carried_16 : decode cL_carried 16 = .ok (.ireturn, 1) := by decide +kernel
set_option maxRecDepth 20000 in
theorem ggL_shares_X0_shares : GoodIn wsL_shares wsX0_shares := goodIn_ca (goodIn_r _ [6, 7, 8, 9, 5, 10, 11, 12, 13, 14, 15, 16, 17, 18, 19, 20, 21, 22, 23, 24, 25, 26, 27, 28, 29, 30, 31, 32, 33, 34, 35, 36, 37, 38, 39] (by decide +kernel) (by decide +kernel)) (goodIn_sub (fun _ h => List.mem_cons_of_mem _ (List.mem_append_right _ h)) (by decide +kernel))
set_option maxRecDepth 20000 in
theorem gL_shares_X0_shares : GoodIn wsL_shares (wsV RL 57 RX0 yX0_shares wsX0_shares) := goodIn_app (goodIn_of _ (by decide +kernel)) ggL_shares_X0_shares
theorem dL_shares_0 : decode cL_shares 0 = .ok (.aload 4, 2) := by decide +kernel
theorem dL_shares_2 : decode cL_shares 2 = .ok (.iconst 0, 1) := by decide +kernel
theorem dL_shares_3 : decode cL_shares 3 = .ok (.aload_n 0, 1) := by decide +kernel
theorem dL_shares_4 : decode cL_shares 4 = .ok (.iload_n 1, 1) := by decide +kernel
theorem dL_shares_5 : decode cL_shares 5 = .ok (.iload_n 2, 1) := by decide +kernel
theorem dL_shares_6 : decode cL_shares 6 = .ok (.iload_n 3, 1) := by decide +kernel
theorem dL_shares_7 : decode cL_shares 7 = .ok (.invokevirtual 57, 3) := by decide +kernel
theorem dL_shares_10 : decode cL_shares 10 = .ok (.i2l, 1) := by decide +kernel
theorem dL_shares_11 : decode cL_shares 11 = .ok (.lastore, 1) := by decide +kernel
theorem dL_shares_12 : decode cL_shares 12 = .ok (.goto 7, 3) := by decide +kernel
theorem dL_shares_15 : decode cL_shares 15 = .ok (.astore 5, 2) := by decide +kernel
theorem dL_shares_17 : decode cL_shares 17 = .ok (.iconst 1, 1) := by decide +kernel
theorem dL_shares_18 : decode cL_shares 18 = .ok (.ireturn, 1) := by decide +kernel
theorem dL_shares_19 : decode cL_shares 19 = .ok (.iconst 0, 1) := by decide +kernel
theorem dL_shares_20 : decode cL_shares 20 = .ok (.ireturn, 1) := by decide +kernel
set_option maxRecDepth 20000 in
theorem ggL_crownShares_X0_crownShares : GoodIn wsL_crownShares wsX0_crownShares := goodIn_ca (goodIn_r _ [6, 7, 8, 9, 5, 10, 11, 12, 13, 14, 15, 16, 17, 18, 19, 20, 21, 22, 23, 24, 25, 26, 27, 28, 29, 30, 31, 32, 33, 34, 35, 36, 37, 38, 39] (by decide +kernel) (by decide +kernel)) (goodIn_sub (fun _ h => List.mem_cons_of_mem _ (List.mem_append_right _ h)) (by decide +kernel))
set_option maxRecDepth 20000 in
theorem gL_crownShares_X0_crownShares : GoodIn wsL_crownShares (wsV RL 60 RX0 yX0_crownShares wsX0_crownShares) := goodIn_app (goodIn_of _ (by decide +kernel)) ggL_crownShares_X0_crownShares
theorem dL_crownShares_0 : decode cL_crownShares 0 = .ok (.aload_n 3, 1) := by decide +kernel
theorem dL_crownShares_1 : decode cL_crownShares 1 = .ok (.iconst 0, 1) := by decide +kernel
theorem dL_crownShares_2 : decode cL_crownShares 2 = .ok (.aload_n 0, 1) := by decide +kernel
theorem dL_crownShares_3 : decode cL_crownShares 3 = .ok (.iload_n 1, 1) := by decide +kernel
theorem dL_crownShares_4 : decode cL_crownShares 4 = .ok (.iload_n 2, 1) := by decide +kernel
theorem dL_crownShares_5 : decode cL_crownShares 5 = .ok (.invokevirtual 60, 3) := by decide +kernel
theorem dL_crownShares_8 : decode cL_crownShares 8 = .ok (.i2l, 1) := by decide +kernel
theorem dL_crownShares_9 : decode cL_crownShares 9 = .ok (.lastore, 1) := by decide +kernel
theorem dL_crownShares_10 : decode cL_crownShares 10 = .ok (.goto 7, 3) := by decide +kernel
theorem dL_crownShares_13 : decode cL_crownShares 13 = .ok (.astore 4, 2) := by decide +kernel
theorem dL_crownShares_15 : decode cL_crownShares 15 = .ok (.iconst 1, 1) := by decide +kernel
theorem dL_crownShares_16 : decode cL_crownShares 16 = .ok (.ireturn, 1) := by decide +kernel
theorem dL_crownShares_17 : decode cL_crownShares 17 = .ok (.iconst 0, 1) := by decide +kernel
theorem dL_crownShares_18 : decode cL_crownShares 18 = .ok (.ireturn, 1) := by decide +kernel
set_option maxRecDepth 20000 in
theorem ggL_owners_X0_owners : GoodIn wsL_owners wsX0_owners := goodIn_ca (goodIn_r _ [6, 7, 8, 9, 10, 5, 11, 12, 13, 14, 15, 16, 17, 18, 19, 20, 21, 22, 23, 24, 25, 26, 27, 28, 29, 30, 31, 32, 33, 34, 35] (by decide +kernel) (by decide +kernel)) (goodIn_sub (fun _ h => List.mem_cons_of_mem _ (List.mem_append_right _ h)) (by decide +kernel))
set_option maxRecDepth 20000 in
theorem gL_owners_X0_owners : GoodIn wsL_owners (wsV RL 63 RX0 yX0_owners wsX0_owners) := goodIn_app (goodIn_of _ (by decide +kernel)) ggL_owners_X0_owners
theorem dL_owners_0 : decode cL_owners 0 = .ok (.aload_n 3, 1) := by decide +kernel
theorem dL_owners_1 : decode cL_owners 1 = .ok (.iconst 0, 1) := by decide +kernel
theorem dL_owners_2 : decode cL_owners 2 = .ok (.aload_n 0, 1) := by decide +kernel
theorem dL_owners_3 : decode cL_owners 3 = .ok (.iload_n 1, 1) := by decide +kernel
theorem dL_owners_4 : decode cL_owners 4 = .ok (.iload_n 2, 1) := by decide +kernel
theorem dL_owners_5 : decode cL_owners 5 = .ok (.invokevirtual 63, 3) := by decide +kernel
theorem dL_owners_8 : decode cL_owners 8 = .ok (.i2l, 1) := by decide +kernel
theorem dL_owners_9 : decode cL_owners 9 = .ok (.lastore, 1) := by decide +kernel
theorem dL_owners_10 : decode cL_owners 10 = .ok (.goto 7, 3) := by decide +kernel
theorem dL_owners_13 : decode cL_owners 13 = .ok (.astore 4, 2) := by decide +kernel
theorem dL_owners_15 : decode cL_owners 15 = .ok (.iconst 1, 1) := by decide +kernel
theorem dL_owners_16 : decode cL_owners 16 = .ok (.ireturn, 1) := by decide +kernel
theorem dL_owners_17 : decode cL_owners 17 = .ok (.iconst 0, 1) := by decide +kernel
theorem dL_owners_18 : decode cL_owners 18 = .ok (.ireturn, 1) := by decide +kernel
set_option maxRecDepth 20000 in
theorem ggL_holder_X0_holder : GoodIn wsL_holder wsX0_holder := goodIn_ca (goodIn_ca (goodIn_r _ [7, 8, 9, 10, 11, 12, 13, 6, 14, 15, 16, 17, 18, 19, 20, 21, 22, 23, 24, 25, 26, 27, 28, 29, 30, 31, 32, 33, 34, 35, 36, 37, 38] (by decide +kernel) (by decide +kernel)) (goodIn_sub (fun _ h => List.mem_cons_of_mem _ (List.mem_append_left _ (List.mem_append_right _ h))) (by decide +kernel))) (goodIn_sub (fun _ h => List.mem_cons_of_mem _ (List.mem_append_right _ h)) (by decide +kernel))
set_option maxRecDepth 20000 in
theorem gL_holder_X0_holder : GoodIn wsL_holder (wsV RL 66 RX0 yX0_holder wsX0_holder) := goodIn_app (goodIn_of _ (by decide +kernel)) ggL_holder_X0_holder
theorem dL_holder_0 : decode cL_holder 0 = .ok (.aload_n 3, 1) := by decide +kernel
theorem dL_holder_1 : decode cL_holder 1 = .ok (.iconst 0, 1) := by decide +kernel
theorem dL_holder_2 : decode cL_holder 2 = .ok (.aload_n 0, 1) := by decide +kernel
theorem dL_holder_3 : decode cL_holder 3 = .ok (.iload_n 1, 1) := by decide +kernel
theorem dL_holder_4 : decode cL_holder 4 = .ok (.iload_n 2, 1) := by decide +kernel
theorem dL_holder_5 : decode cL_holder 5 = .ok (.invokevirtual 66, 3) := by decide +kernel
theorem dL_holder_8 : decode cL_holder 8 = .ok (.i2l, 1) := by decide +kernel
theorem dL_holder_9 : decode cL_holder 9 = .ok (.lastore, 1) := by decide +kernel
theorem dL_holder_10 : decode cL_holder 10 = .ok (.goto 11, 3) := by decide +kernel
theorem dL_holder_13 : decode cL_holder 13 = .ok (.astore 4, 2) := by decide +kernel
theorem dL_holder_15 : decode cL_holder 15 = .ok (.iconst 1, 1) := by decide +kernel
theorem dL_holder_16 : decode cL_holder 16 = .ok (.ireturn, 1) := by decide +kernel
theorem dL_holder_17 : decode cL_holder 17 = .ok (.astore 4, 2) := by decide +kernel
theorem dL_holder_19 : decode cL_holder 19 = .ok (.iconst 2, 1) := by decide +kernel
theorem dL_holder_20 : decode cL_holder 20 = .ok (.ireturn, 1) := by decide +kernel
theorem dL_holder_21 : decode cL_holder 21 = .ok (.iconst 0, 1) := by decide +kernel
theorem dL_holder_22 : decode cL_holder 22 = .ok (.ireturn, 1) := by decide +kernel
set_option maxRecDepth 20000 in
theorem ggL_master_X0_master : GoodIn wsL_master wsX0_master := goodIn_ca (goodIn_ca (goodIn_r _ [7, 8, 9, 10, 11, 12, 6, 13, 14, 15, 16, 17, 18, 19, 20, 21, 22, 23, 24, 25, 26, 27, 28, 29, 30, 31, 32, 33, 34, 35, 36, 37, 38, 39, 40, 41, 42, 43] (by decide +kernel) (by decide +kernel)) (goodIn_sub (fun _ h => List.mem_cons_of_mem _ (List.mem_append_left _ (List.mem_append_right _ h))) (by decide +kernel))) (goodIn_sub (fun _ h => List.mem_cons_of_mem _ (List.mem_append_right _ h)) (by decide +kernel))
set_option maxRecDepth 20000 in
theorem gL_master_X0_master : GoodIn wsL_master (wsV RL 69 RX0 yX0_master wsX0_master) := goodIn_app (goodIn_of _ (by decide +kernel)) ggL_master_X0_master
theorem dL_master_0 : decode cL_master 0 = .ok (.aload_n 2, 1) := by decide +kernel
theorem dL_master_1 : decode cL_master 1 = .ok (.iconst 0, 1) := by decide +kernel
theorem dL_master_2 : decode cL_master 2 = .ok (.aload_n 0, 1) := by decide +kernel
theorem dL_master_3 : decode cL_master 3 = .ok (.iload_n 1, 1) := by decide +kernel
theorem dL_master_4 : decode cL_master 4 = .ok (.invokevirtual 69, 3) := by decide +kernel
theorem dL_master_7 : decode cL_master 7 = .ok (.i2l, 1) := by decide +kernel
theorem dL_master_8 : decode cL_master 8 = .ok (.lastore, 1) := by decide +kernel
theorem dL_master_9 : decode cL_master 9 = .ok (.goto 9, 3) := by decide +kernel
theorem dL_master_12 : decode cL_master 12 = .ok (.astore_n 3, 1) := by decide +kernel
theorem dL_master_13 : decode cL_master 13 = .ok (.iconst 1, 1) := by decide +kernel
theorem dL_master_14 : decode cL_master 14 = .ok (.ireturn, 1) := by decide +kernel
theorem dL_master_15 : decode cL_master 15 = .ok (.astore_n 3, 1) := by decide +kernel
theorem dL_master_16 : decode cL_master 16 = .ok (.iconst 2, 1) := by decide +kernel
theorem dL_master_17 : decode cL_master 17 = .ok (.ireturn, 1) := by decide +kernel
theorem dL_master_18 : decode cL_master 18 = .ok (.iconst 0, 1) := by decide +kernel
theorem dL_master_19 : decode cL_master 19 = .ok (.ireturn, 1) := by decide +kernel
set_option maxRecDepth 20000 in
theorem ggL_hasMaster_X0_hasMaster : GoodIn wsL_hasMaster wsX0_hasMaster := goodIn_ca (goodIn_r _ [6, 7, 8, 9, 5, 10, 11, 12, 13, 14, 15, 16, 17, 18, 19, 20, 21, 22, 23, 24, 25, 26, 27, 28, 29, 30, 31, 32, 33, 34, 35, 36, 37, 38, 39, 40] (by decide +kernel) (by decide +kernel)) (goodIn_sub (fun _ h => List.mem_cons_of_mem _ (List.mem_append_right _ h)) (by decide +kernel))
set_option maxRecDepth 20000 in
theorem gL_hasMaster_X0_hasMaster : GoodIn wsL_hasMaster (wsV RL 72 RX0 yX0_hasMaster wsX0_hasMaster) := goodIn_app (goodIn_of _ (by decide +kernel)) ggL_hasMaster_X0_hasMaster
theorem dL_hasMaster_0 : decode cL_hasMaster 0 = .ok (.aload_n 2, 1) := by decide +kernel
theorem dL_hasMaster_1 : decode cL_hasMaster 1 = .ok (.iconst 0, 1) := by decide +kernel
theorem dL_hasMaster_2 : decode cL_hasMaster 2 = .ok (.aload_n 0, 1) := by decide +kernel
theorem dL_hasMaster_3 : decode cL_hasMaster 3 = .ok (.iload_n 1, 1) := by decide +kernel
theorem dL_hasMaster_4 : decode cL_hasMaster 4 = .ok (.invokevirtual 72, 3) := by decide +kernel
theorem dL_hasMaster_7 : decode cL_hasMaster 7 = .ok (.ifCond .eq 7, 3) := by decide +kernel
theorem dL_hasMaster_10 : decode cL_hasMaster 10 = .ok (.lconst 1, 1) := by decide +kernel
theorem dL_hasMaster_11 : decode cL_hasMaster 11 = .ok (.goto 4, 3) := by decide +kernel
theorem dL_hasMaster_14 : decode cL_hasMaster 14 = .ok (.lconst 0, 1) := by decide +kernel
theorem dL_hasMaster_15 : decode cL_hasMaster 15 = .ok (.lastore, 1) := by decide +kernel
theorem dL_hasMaster_16 : decode cL_hasMaster 16 = .ok (.goto 6, 3) := by decide +kernel
theorem dL_hasMaster_19 : decode cL_hasMaster 19 = .ok (.astore_n 3, 1) := by decide +kernel
theorem dL_hasMaster_20 : decode cL_hasMaster 20 = .ok (.iconst 1, 1) := by decide +kernel
theorem dL_hasMaster_21 : decode cL_hasMaster 21 = .ok (.ireturn, 1) := by decide +kernel
theorem dL_hasMaster_22 : decode cL_hasMaster 22 = .ok (.iconst 0, 1) := by decide +kernel
theorem dL_hasMaster_23 : decode cL_hasMaster 23 = .ok (.ireturn, 1) := by decide +kernel
set_option maxRecDepth 20000 in
theorem ggL_shareValue_X0_shareValue : GoodIn wsL_shareValue wsX0_shareValue := goodIn_ca (goodIn_r _ [6, 7, 8, 9, 5, 10, 11, 12, 13, 14, 15, 16, 17, 18, 19, 20, 21, 22, 23, 24, 25, 26, 27, 28, 29, 30, 31, 32] (by decide +kernel) (by decide +kernel)) (goodIn_sub (fun _ h => List.mem_cons_of_mem _ (List.mem_append_right _ h)) (by decide +kernel))
set_option maxRecDepth 20000 in
theorem gL_shareValue_X0_shareValue : GoodIn wsL_shareValue (wsV RL 76 RX0 yX0_shareValue wsX0_shareValue) := goodIn_app (goodIn_of _ (by decide +kernel)) ggL_shareValue_X0_shareValue
theorem dL_shareValue_0 : decode cL_shareValue 0 = .ok (.aload_n 3, 1) := by decide +kernel
theorem dL_shareValue_1 : decode cL_shareValue 1 = .ok (.iconst 0, 1) := by decide +kernel
theorem dL_shareValue_2 : decode cL_shareValue 2 = .ok (.aload_n 0, 1) := by decide +kernel
theorem dL_shareValue_3 : decode cL_shareValue 3 = .ok (.iload_n 1, 1) := by decide +kernel
theorem dL_shareValue_4 : decode cL_shareValue 4 = .ok (.iload_n 2, 1) := by decide +kernel
theorem dL_shareValue_5 : decode cL_shareValue 5 = .ok (.invokevirtual 76, 3) := by decide +kernel
theorem dL_shareValue_8 : decode cL_shareValue 8 = .ok (.i2l, 1) := by decide +kernel
theorem dL_shareValue_9 : decode cL_shareValue 9 = .ok (.lastore, 1) := by decide +kernel
theorem dL_shareValue_10 : decode cL_shareValue 10 = .ok (.goto 7, 3) := by decide +kernel
theorem dL_shareValue_13 : decode cL_shareValue 13 = .ok (.astore 4, 2) := by decide +kernel
theorem dL_shareValue_15 : decode cL_shareValue 15 = .ok (.iconst 1, 1) := by decide +kernel
theorem dL_shareValue_16 : decode cL_shareValue 16 = .ok (.ireturn, 1) := by decide +kernel
theorem dL_shareValue_17 : decode cL_shareValue 17 = .ok (.iconst 0, 1) := by decide +kernel
theorem dL_shareValue_18 : decode cL_shareValue 18 = .ok (.ireturn, 1) := by decide +kernel
set_option maxRecDepth 20000 in
theorem ggL_watchAt_X0_watchAt : GoodIn wsL_watchAt wsX0_watchAt := goodIn_ca (goodIn_r _ [6, 7, 8, 5, 9, 10, 11] (by decide +kernel) (by decide +kernel)) (goodIn_sub (fun _ h => List.mem_cons_of_mem _ (List.mem_append_right _ h)) (by decide +kernel))
set_option maxRecDepth 20000 in
theorem gL_watchAt_X0_watchAt : GoodIn wsL_watchAt (wsV RL 79 RX0 yX0_watchAt wsX0_watchAt) := goodIn_app (goodIn_of _ (by decide +kernel)) ggL_watchAt_X0_watchAt
theorem dL_watchAt_0 : decode cL_watchAt 0 = .ok (.aload_n 2, 1) := by decide +kernel
theorem dL_watchAt_1 : decode cL_watchAt 1 = .ok (.iconst 0, 1) := by decide +kernel
theorem dL_watchAt_2 : decode cL_watchAt 2 = .ok (.aload_n 0, 1) := by decide +kernel
theorem dL_watchAt_3 : decode cL_watchAt 3 = .ok (.iload_n 1, 1) := by decide +kernel
theorem dL_watchAt_4 : decode cL_watchAt 4 = .ok (.invokevirtual 79, 3) := by decide +kernel
theorem dL_watchAt_7 : decode cL_watchAt 7 = .ok (.i2l, 1) := by decide +kernel
theorem dL_watchAt_8 : decode cL_watchAt 8 = .ok (.lastore, 1) := by decide +kernel
theorem dL_watchAt_9 : decode cL_watchAt 9 = .ok (.goto 6, 3) := by decide +kernel
theorem dL_watchAt_12 : decode cL_watchAt 12 = .ok (.astore_n 3, 1) := by decide +kernel
theorem dL_watchAt_13 : decode cL_watchAt 13 = .ok (.iconst 1, 1) := by decide +kernel
theorem dL_watchAt_14 : decode cL_watchAt 14 = .ok (.ireturn, 1) := by decide +kernel
theorem dL_watchAt_15 : decode cL_watchAt 15 = .ok (.iconst 0, 1) := by decide +kernel
theorem dL_watchAt_16 : decode cL_watchAt 16 = .ok (.ireturn, 1) := by decide +kernel
set_option maxRecDepth 20000 in
theorem ggL_isAlive_X0_isAlive : GoodIn wsL_isAlive wsX0_isAlive := goodIn_ca (goodIn_r _ [6, 7, 8, 9, 10, 5, 11, 12, 13, 14, 15, 16, 17, 18, 19, 20, 21, 22, 23, 24] (by decide +kernel) (by decide +kernel)) (goodIn_sub (fun _ h => List.mem_cons_of_mem _ (List.mem_append_right _ h)) (by decide +kernel))
set_option maxRecDepth 20000 in
theorem gL_isAlive_X0_isAlive : GoodIn wsL_isAlive (wsV RL 82 RX0 yX0_isAlive wsX0_isAlive) := goodIn_app (goodIn_of _ (by decide +kernel)) ggL_isAlive_X0_isAlive
theorem dL_isAlive_0 : decode cL_isAlive 0 = .ok (.aload_n 2, 1) := by decide +kernel
theorem dL_isAlive_1 : decode cL_isAlive 1 = .ok (.iconst 0, 1) := by decide +kernel
theorem dL_isAlive_2 : decode cL_isAlive 2 = .ok (.aload_n 0, 1) := by decide +kernel
theorem dL_isAlive_3 : decode cL_isAlive 3 = .ok (.iload_n 1, 1) := by decide +kernel
theorem dL_isAlive_4 : decode cL_isAlive 4 = .ok (.invokevirtual 82, 3) := by decide +kernel
theorem dL_isAlive_7 : decode cL_isAlive 7 = .ok (.ifCond .eq 7, 3) := by decide +kernel
theorem dL_isAlive_10 : decode cL_isAlive 10 = .ok (.lconst 1, 1) := by decide +kernel
theorem dL_isAlive_11 : decode cL_isAlive 11 = .ok (.goto 4, 3) := by decide +kernel
theorem dL_isAlive_14 : decode cL_isAlive 14 = .ok (.lconst 0, 1) := by decide +kernel
theorem dL_isAlive_15 : decode cL_isAlive 15 = .ok (.lastore, 1) := by decide +kernel
theorem dL_isAlive_16 : decode cL_isAlive 16 = .ok (.goto 6, 3) := by decide +kernel
theorem dL_isAlive_19 : decode cL_isAlive 19 = .ok (.astore_n 3, 1) := by decide +kernel
theorem dL_isAlive_20 : decode cL_isAlive 20 = .ok (.iconst 1, 1) := by decide +kernel
theorem dL_isAlive_21 : decode cL_isAlive 21 = .ok (.ireturn, 1) := by decide +kernel
theorem dL_isAlive_22 : decode cL_isAlive 22 = .ok (.iconst 0, 1) := by decide +kernel
theorem dL_isAlive_23 : decode cL_isAlive 23 = .ok (.ireturn, 1) := by decide +kernel
set_option maxRecDepth 20000 in
theorem ggL_coins_X0_coins : GoodIn wsL_coins wsX0_coins := goodIn_ca (goodIn_r _ [6, 7, 8, 9, 10, 5, 11, 12, 13, 14, 15, 16, 17, 18, 19, 20, 21, 22, 23, 24] (by decide +kernel) (by decide +kernel)) (goodIn_sub (fun _ h => List.mem_cons_of_mem _ (List.mem_append_right _ h)) (by decide +kernel))
set_option maxRecDepth 20000 in
theorem gL_coins_X0_coins : GoodIn wsL_coins (wsV RL 85 RX0 yX0_coins wsX0_coins) := goodIn_app (goodIn_of _ (by decide +kernel)) ggL_coins_X0_coins
theorem dL_coins_0 : decode cL_coins 0 = .ok (.aload_n 2, 1) := by decide +kernel
theorem dL_coins_1 : decode cL_coins 1 = .ok (.iconst 0, 1) := by decide +kernel
theorem dL_coins_2 : decode cL_coins 2 = .ok (.aload_n 0, 1) := by decide +kernel
theorem dL_coins_3 : decode cL_coins 3 = .ok (.iload_n 1, 1) := by decide +kernel
theorem dL_coins_4 : decode cL_coins 4 = .ok (.invokevirtual 85, 3) := by decide +kernel
theorem dL_coins_7 : decode cL_coins 7 = .ok (.i2l, 1) := by decide +kernel
theorem dL_coins_8 : decode cL_coins 8 = .ok (.lastore, 1) := by decide +kernel
theorem dL_coins_9 : decode cL_coins 9 = .ok (.goto 6, 3) := by decide +kernel
theorem dL_coins_12 : decode cL_coins 12 = .ok (.astore_n 3, 1) := by decide +kernel
theorem dL_coins_13 : decode cL_coins 13 = .ok (.iconst 1, 1) := by decide +kernel
theorem dL_coins_14 : decode cL_coins 14 = .ok (.ireturn, 1) := by decide +kernel
theorem dL_coins_15 : decode cL_coins 15 = .ok (.iconst 0, 1) := by decide +kernel
theorem dL_coins_16 : decode cL_coins 16 = .ok (.ireturn, 1) := by decide +kernel
set_option maxRecDepth 20000 in
theorem ggL_earned_X0_earned : GoodIn wsL_earned wsX0_earned := goodIn_ca (goodIn_r _ [6, 7, 8, 9, 10, 5, 11, 12, 13, 14, 15, 16, 17, 18, 19, 20, 21, 22, 23, 24] (by decide +kernel) (by decide +kernel)) (goodIn_sub (fun _ h => List.mem_cons_of_mem _ (List.mem_append_right _ h)) (by decide +kernel))
set_option maxRecDepth 20000 in
theorem gL_earned_X0_earned : GoodIn wsL_earned (wsV RL 88 RX0 yX0_earned wsX0_earned) := goodIn_app (goodIn_of _ (by decide +kernel)) ggL_earned_X0_earned
theorem dL_earned_0 : decode cL_earned 0 = .ok (.aload_n 2, 1) := by decide +kernel
theorem dL_earned_1 : decode cL_earned 1 = .ok (.iconst 0, 1) := by decide +kernel
theorem dL_earned_2 : decode cL_earned 2 = .ok (.aload_n 0, 1) := by decide +kernel
theorem dL_earned_3 : decode cL_earned 3 = .ok (.iload_n 1, 1) := by decide +kernel
theorem dL_earned_4 : decode cL_earned 4 = .ok (.invokevirtual 88, 3) := by decide +kernel
theorem dL_earned_7 : decode cL_earned 7 = .ok (.i2l, 1) := by decide +kernel
theorem dL_earned_8 : decode cL_earned 8 = .ok (.lastore, 1) := by decide +kernel
theorem dL_earned_9 : decode cL_earned 9 = .ok (.goto 6, 3) := by decide +kernel
theorem dL_earned_12 : decode cL_earned 12 = .ok (.astore_n 3, 1) := by decide +kernel
theorem dL_earned_13 : decode cL_earned 13 = .ok (.iconst 1, 1) := by decide +kernel
theorem dL_earned_14 : decode cL_earned 14 = .ok (.ireturn, 1) := by decide +kernel
theorem dL_earned_15 : decode cL_earned 15 = .ok (.iconst 0, 1) := by decide +kernel
theorem dL_earned_16 : decode cL_earned 16 = .ok (.ireturn, 1) := by decide +kernel
set_option maxRecDepth 20000 in
theorem ggL_allShares_X0_allShares : GoodIn wsL_allShares wsX0_allShares := goodIn_ca (goodIn_r _ [6, 7, 8, 9, 5, 10, 11, 12, 13, 14, 15, 16, 17, 18, 19, 20, 21, 22, 23, 24, 25, 26, 27, 28, 29, 30, 31, 32, 33, 34, 35, 36, 37, 38, 39, 40] (by decide +kernel) (by decide +kernel)) (goodIn_sub (fun _ h => List.mem_cons_of_mem _ (List.mem_append_right _ h)) (by decide +kernel))
set_option maxRecDepth 20000 in
theorem gL_allShares_X0_allShares : GoodIn wsL_allShares (wsV RL 91 RX0 yX0_allShares wsX0_allShares) := goodIn_app (goodIn_of _ (by decide +kernel)) ggL_allShares_X0_allShares
theorem dL_allShares_0 : decode cL_allShares 0 = .ok (.aload_n 2, 1) := by decide +kernel
theorem dL_allShares_1 : decode cL_allShares 1 = .ok (.iconst 0, 1) := by decide +kernel
theorem dL_allShares_2 : decode cL_allShares 2 = .ok (.aload_n 0, 1) := by decide +kernel
theorem dL_allShares_3 : decode cL_allShares 3 = .ok (.iload_n 1, 1) := by decide +kernel
theorem dL_allShares_4 : decode cL_allShares 4 = .ok (.invokevirtual 91, 3) := by decide +kernel
theorem dL_allShares_7 : decode cL_allShares 7 = .ok (.i2l, 1) := by decide +kernel
theorem dL_allShares_8 : decode cL_allShares 8 = .ok (.lastore, 1) := by decide +kernel
theorem dL_allShares_9 : decode cL_allShares 9 = .ok (.goto 6, 3) := by decide +kernel
theorem dL_allShares_12 : decode cL_allShares 12 = .ok (.astore_n 3, 1) := by decide +kernel
theorem dL_allShares_13 : decode cL_allShares 13 = .ok (.iconst 1, 1) := by decide +kernel
theorem dL_allShares_14 : decode cL_allShares 14 = .ok (.ireturn, 1) := by decide +kernel
theorem dL_allShares_15 : decode cL_allShares 15 = .ok (.iconst 0, 1) := by decide +kernel
theorem dL_allShares_16 : decode cL_allShares 16 = .ok (.ireturn, 1) := by decide +kernel
set_option maxRecDepth 20000 in
theorem ggL_hasParent_X0_hasParent : GoodIn wsL_hasParent wsX0_hasParent := goodIn_ca (goodIn_r _ [6, 7, 8, 9, 10, 5, 11, 12, 13, 14, 15, 16, 17, 18, 19, 20, 21, 22, 23, 24] (by decide +kernel) (by decide +kernel)) (goodIn_sub (fun _ h => List.mem_cons_of_mem _ (List.mem_append_right _ h)) (by decide +kernel))
set_option maxRecDepth 20000 in
theorem gL_hasParent_X0_hasParent : GoodIn wsL_hasParent (wsV RL 94 RX0 yX0_hasParent wsX0_hasParent) := goodIn_app (goodIn_of _ (by decide +kernel)) ggL_hasParent_X0_hasParent
theorem dL_hasParent_0 : decode cL_hasParent 0 = .ok (.aload_n 2, 1) := by decide +kernel
theorem dL_hasParent_1 : decode cL_hasParent 1 = .ok (.iconst 0, 1) := by decide +kernel
theorem dL_hasParent_2 : decode cL_hasParent 2 = .ok (.aload_n 0, 1) := by decide +kernel
theorem dL_hasParent_3 : decode cL_hasParent 3 = .ok (.iload_n 1, 1) := by decide +kernel
theorem dL_hasParent_4 : decode cL_hasParent 4 = .ok (.invokevirtual 94, 3) := by decide +kernel
theorem dL_hasParent_7 : decode cL_hasParent 7 = .ok (.ifCond .eq 7, 3) := by decide +kernel
theorem dL_hasParent_10 : decode cL_hasParent 10 = .ok (.lconst 1, 1) := by decide +kernel
theorem dL_hasParent_11 : decode cL_hasParent 11 = .ok (.goto 4, 3) := by decide +kernel
theorem dL_hasParent_14 : decode cL_hasParent 14 = .ok (.lconst 0, 1) := by decide +kernel
theorem dL_hasParent_15 : decode cL_hasParent 15 = .ok (.lastore, 1) := by decide +kernel
theorem dL_hasParent_16 : decode cL_hasParent 16 = .ok (.goto 6, 3) := by decide +kernel
theorem dL_hasParent_19 : decode cL_hasParent 19 = .ok (.astore_n 3, 1) := by decide +kernel
theorem dL_hasParent_20 : decode cL_hasParent 20 = .ok (.iconst 1, 1) := by decide +kernel
theorem dL_hasParent_21 : decode cL_hasParent 21 = .ok (.ireturn, 1) := by decide +kernel
theorem dL_hasParent_22 : decode cL_hasParent 22 = .ok (.iconst 0, 1) := by decide +kernel
theorem dL_hasParent_23 : decode cL_hasParent 23 = .ok (.ireturn, 1) := by decide +kernel
set_option maxRecDepth 20000 in
theorem ggL_parent_X0_parent : GoodIn wsL_parent wsX0_parent := goodIn_ca (goodIn_ca (goodIn_r _ [7, 8, 9, 10, 11, 12, 13, 6, 14, 15, 16, 17, 18, 19, 20, 21, 22, 23, 24, 25, 26, 27] (by decide +kernel) (by decide +kernel)) (goodIn_sub (fun _ h => List.mem_cons_of_mem _ (List.mem_append_left _ (List.mem_append_right _ h))) (by decide +kernel))) (goodIn_sub (fun _ h => List.mem_cons_of_mem _ (List.mem_append_right _ h)) (by decide +kernel))
set_option maxRecDepth 20000 in
theorem gL_parent_X0_parent : GoodIn wsL_parent (wsV RL 97 RX0 yX0_parent wsX0_parent) := goodIn_app (goodIn_of _ (by decide +kernel)) ggL_parent_X0_parent
theorem dL_parent_0 : decode cL_parent 0 = .ok (.aload_n 2, 1) := by decide +kernel
theorem dL_parent_1 : decode cL_parent 1 = .ok (.iconst 0, 1) := by decide +kernel
theorem dL_parent_2 : decode cL_parent 2 = .ok (.aload_n 0, 1) := by decide +kernel
theorem dL_parent_3 : decode cL_parent 3 = .ok (.iload_n 1, 1) := by decide +kernel
theorem dL_parent_4 : decode cL_parent 4 = .ok (.invokevirtual 97, 3) := by decide +kernel
theorem dL_parent_7 : decode cL_parent 7 = .ok (.i2l, 1) := by decide +kernel
theorem dL_parent_8 : decode cL_parent 8 = .ok (.lastore, 1) := by decide +kernel
theorem dL_parent_9 : decode cL_parent 9 = .ok (.goto 9, 3) := by decide +kernel
theorem dL_parent_12 : decode cL_parent 12 = .ok (.astore_n 3, 1) := by decide +kernel
theorem dL_parent_13 : decode cL_parent 13 = .ok (.iconst 1, 1) := by decide +kernel
theorem dL_parent_14 : decode cL_parent 14 = .ok (.ireturn, 1) := by decide +kernel
theorem dL_parent_15 : decode cL_parent 15 = .ok (.astore_n 3, 1) := by decide +kernel
theorem dL_parent_16 : decode cL_parent 16 = .ok (.iconst 2, 1) := by decide +kernel
theorem dL_parent_17 : decode cL_parent 17 = .ok (.ireturn, 1) := by decide +kernel
theorem dL_parent_18 : decode cL_parent 18 = .ok (.iconst 0, 1) := by decide +kernel
theorem dL_parent_19 : decode cL_parent 19 = .ok (.ireturn, 1) := by decide +kernel
set_option maxRecDepth 20000 in
theorem ggL_children_X0_children : GoodIn wsL_children wsX0_children := goodIn_ca (goodIn_r _ [6, 7, 8, 9, 5, 10, 11, 12, 13, 14, 15, 16, 17, 18, 19, 20, 21, 22, 23, 24, 25, 26, 27, 28] (by decide +kernel) (by decide +kernel)) (goodIn_sub (fun _ h => List.mem_cons_of_mem _ (List.mem_append_right _ h)) (by decide +kernel))
set_option maxRecDepth 20000 in
theorem gL_children_X0_children : GoodIn wsL_children (wsV RL 100 RX0 yX0_children wsX0_children) := goodIn_app (goodIn_of _ (by decide +kernel)) ggL_children_X0_children
theorem dL_children_0 : decode cL_children 0 = .ok (.aload_n 2, 1) := by decide +kernel
theorem dL_children_1 : decode cL_children 1 = .ok (.iconst 0, 1) := by decide +kernel
theorem dL_children_2 : decode cL_children 2 = .ok (.aload_n 0, 1) := by decide +kernel
theorem dL_children_3 : decode cL_children 3 = .ok (.iload_n 1, 1) := by decide +kernel
theorem dL_children_4 : decode cL_children 4 = .ok (.invokevirtual 100, 3) := by decide +kernel
theorem dL_children_7 : decode cL_children 7 = .ok (.i2l, 1) := by decide +kernel
theorem dL_children_8 : decode cL_children 8 = .ok (.lastore, 1) := by decide +kernel
theorem dL_children_9 : decode cL_children 9 = .ok (.goto 6, 3) := by decide +kernel
theorem dL_children_12 : decode cL_children 12 = .ok (.astore_n 3, 1) := by decide +kernel
theorem dL_children_13 : decode cL_children 13 = .ok (.iconst 1, 1) := by decide +kernel
theorem dL_children_14 : decode cL_children 14 = .ok (.ireturn, 1) := by decide +kernel
theorem dL_children_15 : decode cL_children 15 = .ok (.iconst 0, 1) := by decide +kernel
theorem dL_children_16 : decode cL_children 16 = .ok (.ireturn, 1) := by decide +kernel
set_option maxRecDepth 20000 in
theorem ggL_heirs_X0_heirs : GoodIn wsL_heirs wsX0_heirs := goodIn_ca (goodIn_r _ [6, 7, 8, 9, 5, 10, 11, 12, 13, 14, 15, 16, 17, 18, 19, 20, 21, 22, 23, 24, 25, 26, 27, 28, 29, 30, 31, 32, 33, 34, 35, 36, 37, 38, 39, 40, 41] (by decide +kernel) (by decide +kernel)) (goodIn_sub (fun _ h => List.mem_cons_of_mem _ (List.mem_append_right _ h)) (by decide +kernel))
set_option maxRecDepth 20000 in
theorem gL_heirs_X0_heirs : GoodIn wsL_heirs (wsV RL 103 RX0 yX0_heirs wsX0_heirs) := goodIn_app (goodIn_of _ (by decide +kernel)) ggL_heirs_X0_heirs
theorem dL_heirs_0 : decode cL_heirs 0 = .ok (.aload_n 2, 1) := by decide +kernel
theorem dL_heirs_1 : decode cL_heirs 1 = .ok (.iconst 0, 1) := by decide +kernel
theorem dL_heirs_2 : decode cL_heirs 2 = .ok (.aload_n 0, 1) := by decide +kernel
theorem dL_heirs_3 : decode cL_heirs 3 = .ok (.iload_n 1, 1) := by decide +kernel
theorem dL_heirs_4 : decode cL_heirs 4 = .ok (.invokevirtual 103, 3) := by decide +kernel
theorem dL_heirs_7 : decode cL_heirs 7 = .ok (.i2l, 1) := by decide +kernel
theorem dL_heirs_8 : decode cL_heirs 8 = .ok (.lastore, 1) := by decide +kernel
theorem dL_heirs_9 : decode cL_heirs 9 = .ok (.goto 6, 3) := by decide +kernel
theorem dL_heirs_12 : decode cL_heirs 12 = .ok (.astore_n 3, 1) := by decide +kernel
theorem dL_heirs_13 : decode cL_heirs 13 = .ok (.iconst 1, 1) := by decide +kernel
theorem dL_heirs_14 : decode cL_heirs 14 = .ok (.ireturn, 1) := by decide +kernel
theorem dL_heirs_15 : decode cL_heirs 15 = .ok (.iconst 0, 1) := by decide +kernel
theorem dL_heirs_16 : decode cL_heirs 16 = .ok (.ireturn, 1) := by decide +kernel
set_option maxRecDepth 20000 in
theorem ggL_heir_X0_heir : GoodIn wsL_heir wsX0_heir := goodIn_ca (goodIn_r _ [6, 7, 8, 9, 10, 11, 5, 12, 13, 14, 15, 16, 17, 18, 19, 20, 21, 22, 23, 24, 25, 26, 27, 28, 29, 30, 31, 32, 33, 34, 35, 36, 37] (by decide +kernel) (by decide +kernel)) (goodIn_sub (fun _ h => List.mem_cons_of_mem _ (List.mem_append_right _ h)) (by decide +kernel))
set_option maxRecDepth 20000 in
theorem gL_heir_X0_heir : GoodIn wsL_heir (wsV RL 106 RX0 yX0_heir wsX0_heir) := goodIn_app (goodIn_of _ (by decide +kernel)) ggL_heir_X0_heir
theorem dL_heir_0 : decode cL_heir 0 = .ok (.aload_n 3, 1) := by decide +kernel
theorem dL_heir_1 : decode cL_heir 1 = .ok (.iconst 0, 1) := by decide +kernel
theorem dL_heir_2 : decode cL_heir 2 = .ok (.aload_n 0, 1) := by decide +kernel
theorem dL_heir_3 : decode cL_heir 3 = .ok (.iload_n 1, 1) := by decide +kernel
theorem dL_heir_4 : decode cL_heir 4 = .ok (.iload_n 2, 1) := by decide +kernel
theorem dL_heir_5 : decode cL_heir 5 = .ok (.invokevirtual 106, 3) := by decide +kernel
theorem dL_heir_8 : decode cL_heir 8 = .ok (.i2l, 1) := by decide +kernel
theorem dL_heir_9 : decode cL_heir 9 = .ok (.lastore, 1) := by decide +kernel
theorem dL_heir_10 : decode cL_heir 10 = .ok (.goto 7, 3) := by decide +kernel
theorem dL_heir_13 : decode cL_heir 13 = .ok (.astore 4, 2) := by decide +kernel
theorem dL_heir_15 : decode cL_heir 15 = .ok (.iconst 1, 1) := by decide +kernel
theorem dL_heir_16 : decode cL_heir 16 = .ok (.ireturn, 1) := by decide +kernel
theorem dL_heir_17 : decode cL_heir 17 = .ok (.iconst 0, 1) := by decide +kernel
theorem dL_heir_18 : decode cL_heir 18 = .ok (.ireturn, 1) := by decide +kernel
set_option maxRecDepth 20000 in
theorem ggL_price_X0_price : GoodIn wsL_price wsX0_price := goodIn_ca (goodIn_r _ [6, 7, 8, 9, 5, 10, 11, 12, 13, 14, 15, 16, 17, 18, 19, 20, 21, 22, 23, 24, 25, 26, 27, 28, 29, 30, 31, 32, 33, 34, 35, 36, 37, 38, 39, 40, 41, 42, 43, 44, 45, 46, 47, 48, 49] (by decide +kernel) (by decide +kernel)) (goodIn_sub (fun _ h => List.mem_cons_of_mem _ (List.mem_append_right _ h)) (by decide +kernel))
set_option maxRecDepth 20000 in
theorem gL_price_X0_price : GoodIn wsL_price (wsV RL 109 RX0 yX0_price wsX0_price) := goodIn_app (goodIn_of _ (by decide +kernel)) ggL_price_X0_price
theorem dL_price_0 : decode cL_price 0 = .ok (.aload 4, 2) := by decide +kernel
theorem dL_price_2 : decode cL_price 2 = .ok (.iconst 0, 1) := by decide +kernel
theorem dL_price_3 : decode cL_price 3 = .ok (.aload_n 0, 1) := by decide +kernel
theorem dL_price_4 : decode cL_price 4 = .ok (.iload_n 1, 1) := by decide +kernel
theorem dL_price_5 : decode cL_price 5 = .ok (.iload_n 2, 1) := by decide +kernel
theorem dL_price_6 : decode cL_price 6 = .ok (.iload_n 3, 1) := by decide +kernel
theorem dL_price_7 : decode cL_price 7 = .ok (.invokevirtual 109, 3) := by decide +kernel
theorem dL_price_10 : decode cL_price 10 = .ok (.i2l, 1) := by decide +kernel
theorem dL_price_11 : decode cL_price 11 = .ok (.lastore, 1) := by decide +kernel
theorem dL_price_12 : decode cL_price 12 = .ok (.goto 7, 3) := by decide +kernel
theorem dL_price_15 : decode cL_price 15 = .ok (.astore 5, 2) := by decide +kernel
theorem dL_price_17 : decode cL_price 17 = .ok (.iconst 1, 1) := by decide +kernel
theorem dL_price_18 : decode cL_price 18 = .ok (.ireturn, 1) := by decide +kernel
theorem dL_price_19 : decode cL_price 19 = .ok (.iconst 0, 1) := by decide +kernel
theorem dL_price_20 : decode cL_price 20 = .ok (.ireturn, 1) := by decide +kernel
set_option maxRecDepth 20000 in
theorem ggL_canBuy_X0_canBuy : GoodIn wsL_canBuy wsX0_canBuy := goodIn_ca (goodIn_r _ [6, 7, 8, 9, 5, 10, 11, 12, 13, 14, 15, 16, 17, 18, 19, 20, 21, 22, 23, 24, 25, 26, 27, 28, 29, 30, 31, 32, 33, 34, 35, 36, 37, 38, 39, 40, 41, 42, 43, 44, 45, 46, 47, 48, 49, 50, 51, 52, 53, 54, 55, 56, 57, 58, 59, 60, 61, 62, 63] (by decide +kernel) (by decide +kernel)) (goodIn_sub (fun _ h => List.mem_cons_of_mem _ (List.mem_append_right _ h)) (by decide +kernel))
set_option maxRecDepth 20000 in
theorem gL_canBuy_X0_canBuy : GoodIn wsL_canBuy (wsV RL 112 RX0 yX0_canBuy wsX0_canBuy) := goodIn_app (goodIn_of _ (by decide +kernel)) ggL_canBuy_X0_canBuy
theorem dL_canBuy_0 : decode cL_canBuy 0 = .ok (.aload 5, 2) := by decide +kernel
theorem dL_canBuy_2 : decode cL_canBuy 2 = .ok (.iconst 0, 1) := by decide +kernel
theorem dL_canBuy_3 : decode cL_canBuy 3 = .ok (.aload_n 0, 1) := by decide +kernel
theorem dL_canBuy_4 : decode cL_canBuy 4 = .ok (.iload_n 1, 1) := by decide +kernel
theorem dL_canBuy_5 : decode cL_canBuy 5 = .ok (.iload_n 2, 1) := by decide +kernel
theorem dL_canBuy_6 : decode cL_canBuy 6 = .ok (.iload_n 3, 1) := by decide +kernel
theorem dL_canBuy_7 : decode cL_canBuy 7 = .ok (.iload 4, 2) := by decide +kernel
theorem dL_canBuy_9 : decode cL_canBuy 9 = .ok (.invokevirtual 112, 3) := by decide +kernel
theorem dL_canBuy_12 : decode cL_canBuy 12 = .ok (.ifCond .eq 7, 3) := by decide +kernel
theorem dL_canBuy_15 : decode cL_canBuy 15 = .ok (.lconst 1, 1) := by decide +kernel
theorem dL_canBuy_16 : decode cL_canBuy 16 = .ok (.goto 4, 3) := by decide +kernel
theorem dL_canBuy_19 : decode cL_canBuy 19 = .ok (.lconst 0, 1) := by decide +kernel
theorem dL_canBuy_20 : decode cL_canBuy 20 = .ok (.lastore, 1) := by decide +kernel
theorem dL_canBuy_21 : decode cL_canBuy 21 = .ok (.goto 7, 3) := by decide +kernel
theorem dL_canBuy_24 : decode cL_canBuy 24 = .ok (.astore 6, 2) := by decide +kernel
theorem dL_canBuy_26 : decode cL_canBuy 26 = .ok (.iconst 1, 1) := by decide +kernel
theorem dL_canBuy_27 : decode cL_canBuy 27 = .ok (.ireturn, 1) := by decide +kernel
theorem dL_canBuy_28 : decode cL_canBuy 28 = .ok (.iconst 0, 1) := by decide +kernel
theorem dL_canBuy_29 : decode cL_canBuy 29 = .ok (.ireturn, 1) := by decide +kernel
set_option maxRecDepth 20000 in
theorem ggL_inheritance_X0_inheritance : GoodIn wsL_inheritance wsX0_inheritance := goodIn_ca (goodIn_r _ [6, 7, 8, 9, 5, 10, 11, 12, 13, 14, 15, 16, 17, 18, 19, 20, 21, 22, 23, 24, 25, 26, 27, 28, 29, 30, 31, 32, 33, 34, 35, 36, 37, 38, 39, 40, 41, 42, 43, 44, 45, 46, 47, 48, 49, 50, 51, 52, 53, 54, 55, 56, 57, 58, 59, 60] (by decide +kernel) (by decide +kernel)) (goodIn_sub (fun _ h => List.mem_cons_of_mem _ (List.mem_append_right _ h)) (by decide +kernel))
set_option maxRecDepth 20000 in
theorem gL_inheritance_X0_inheritance : GoodIn wsL_inheritance (wsV RL 116 RX0 yX0_inheritance wsX0_inheritance) := goodIn_app (goodIn_of _ (by decide +kernel)) ggL_inheritance_X0_inheritance
theorem dL_inheritance_0 : decode cL_inheritance 0 = .ok (.aload 5, 2) := by decide +kernel
theorem dL_inheritance_2 : decode cL_inheritance 2 = .ok (.iconst 0, 1) := by decide +kernel
theorem dL_inheritance_3 : decode cL_inheritance 3 = .ok (.aload_n 0, 1) := by decide +kernel
theorem dL_inheritance_4 : decode cL_inheritance 4 = .ok (.iload_n 1, 1) := by decide +kernel
theorem dL_inheritance_5 : decode cL_inheritance 5 = .ok (.iload_n 2, 1) := by decide +kernel
theorem dL_inheritance_6 : decode cL_inheritance 6 = .ok (.iload_n 3, 1) := by decide +kernel
theorem dL_inheritance_7 : decode cL_inheritance 7 = .ok (.iload 4, 2) := by decide +kernel
theorem dL_inheritance_9 : decode cL_inheritance 9 = .ok (.invokevirtual 116, 3) := by decide +kernel
theorem dL_inheritance_12 : decode cL_inheritance 12 = .ok (.i2l, 1) := by decide +kernel
theorem dL_inheritance_13 : decode cL_inheritance 13 = .ok (.lastore, 1) := by decide +kernel
theorem dL_inheritance_14 : decode cL_inheritance 14 = .ok (.goto 7, 3) := by decide +kernel
theorem dL_inheritance_17 : decode cL_inheritance 17 = .ok (.astore 6, 2) := by decide +kernel
theorem dL_inheritance_19 : decode cL_inheritance 19 = .ok (.iconst 1, 1) := by decide +kernel
theorem dL_inheritance_20 : decode cL_inheritance 20 = .ok (.ireturn, 1) := by decide +kernel
theorem dL_inheritance_21 : decode cL_inheritance 21 = .ok (.iconst 0, 1) := by decide +kernel
theorem dL_inheritance_22 : decode cL_inheritance 22 = .ok (.ireturn, 1) := by decide +kernel
set_option maxRecDepth 20000 in
theorem ggL_fare_X0_fare : GoodIn wsL_fare wsX0_fare := goodIn_ca (goodIn_ca (goodIn_r _ [7, 8, 9, 10, 6, 11, 12, 13, 14, 15, 16, 17, 18, 19, 20, 21, 22, 23, 24, 25, 26, 27, 28, 29, 30, 31, 32, 33, 34, 35, 36, 37, 38, 39, 40, 41, 42, 43, 44, 45, 46, 47, 48, 49, 50] (by decide +kernel) (by decide +kernel)) (goodIn_sub (fun _ h => List.mem_cons_of_mem _ (List.mem_append_left _ (List.mem_append_right _ h))) (by decide +kernel))) (goodIn_sub (fun _ h => List.mem_cons_of_mem _ (List.mem_append_right _ h)) (by decide +kernel))
set_option maxRecDepth 20000 in
theorem gL_fare_X0_fare : GoodIn wsL_fare (wsV RL 119 RX0 yX0_fare wsX0_fare) := goodIn_app (goodIn_of _ (by decide +kernel)) ggL_fare_X0_fare
theorem dL_fare_0 : decode cL_fare 0 = .ok (.aload 5, 2) := by decide +kernel
theorem dL_fare_2 : decode cL_fare 2 = .ok (.iconst 0, 1) := by decide +kernel
theorem dL_fare_3 : decode cL_fare 3 = .ok (.aload_n 0, 1) := by decide +kernel
theorem dL_fare_4 : decode cL_fare 4 = .ok (.iload_n 1, 1) := by decide +kernel
theorem dL_fare_5 : decode cL_fare 5 = .ok (.iload_n 2, 1) := by decide +kernel
theorem dL_fare_6 : decode cL_fare 6 = .ok (.iload_n 3, 1) := by decide +kernel
theorem dL_fare_7 : decode cL_fare 7 = .ok (.iload 4, 2) := by decide +kernel
theorem dL_fare_9 : decode cL_fare 9 = .ok (.invokevirtual 119, 3) := by decide +kernel
theorem dL_fare_12 : decode cL_fare 12 = .ok (.i2l, 1) := by decide +kernel
theorem dL_fare_13 : decode cL_fare 13 = .ok (.lastore, 1) := by decide +kernel
theorem dL_fare_14 : decode cL_fare 14 = .ok (.goto 11, 3) := by decide +kernel
theorem dL_fare_17 : decode cL_fare 17 = .ok (.astore 6, 2) := by decide +kernel
theorem dL_fare_19 : decode cL_fare 19 = .ok (.iconst 1, 1) := by decide +kernel
theorem dL_fare_20 : decode cL_fare 20 = .ok (.ireturn, 1) := by decide +kernel
theorem dL_fare_21 : decode cL_fare 21 = .ok (.astore 6, 2) := by decide +kernel
theorem dL_fare_23 : decode cL_fare 23 = .ok (.iconst 2, 1) := by decide +kernel
theorem dL_fare_24 : decode cL_fare 24 = .ok (.ireturn, 1) := by decide +kernel
theorem dL_fare_25 : decode cL_fare 25 = .ok (.iconst 0, 1) := by decide +kernel
theorem dL_fare_26 : decode cL_fare 26 = .ok (.ireturn, 1) := by decide +kernel
set_option maxRecDepth 20000 in
theorem ggL_richest_X0_richest : GoodIn wsL_richest wsX0_richest := goodIn_ca (goodIn_r _ [6, 7, 8, 9, 10, 11, 12, 13, 14, 15, 16, 17, 18, 19, 20, 21] (by decide +kernel) (by decide +kernel)) (goodIn_sub (fun _ h => List.mem_cons_of_mem _ (List.mem_append_right _ h)) (by decide +kernel))
set_option maxRecDepth 20000 in
theorem gL_richest_X0_richest : GoodIn wsL_richest (wsV RL 122 RX0 yX0_richest wsX0_richest) := goodIn_app (goodIn_of _ (by decide +kernel)) ggL_richest_X0_richest
theorem dL_richest_0 : decode cL_richest 0 = .ok (.aload_n 1, 1) := by decide +kernel
theorem dL_richest_1 : decode cL_richest 1 = .ok (.iconst 0, 1) := by decide +kernel
theorem dL_richest_2 : decode cL_richest 2 = .ok (.aload_n 0, 1) := by decide +kernel
theorem dL_richest_3 : decode cL_richest 3 = .ok (.invokevirtual 122, 3) := by decide +kernel
theorem dL_richest_6 : decode cL_richest 6 = .ok (.i2l, 1) := by decide +kernel
theorem dL_richest_7 : decode cL_richest 7 = .ok (.lastore, 1) := by decide +kernel
theorem dL_richest_8 : decode cL_richest 8 = .ok (.goto 6, 3) := by decide +kernel
theorem dL_richest_11 : decode cL_richest 11 = .ok (.astore_n 2, 1) := by decide +kernel
theorem dL_richest_12 : decode cL_richest 12 = .ok (.iconst 1, 1) := by decide +kernel
theorem dL_richest_13 : decode cL_richest 13 = .ok (.ireturn, 1) := by decide +kernel
theorem dL_richest_14 : decode cL_richest 14 = .ok (.iconst 0, 1) := by decide +kernel
theorem dL_richest_15 : decode cL_richest 15 = .ok (.ireturn, 1) := by decide +kernel
