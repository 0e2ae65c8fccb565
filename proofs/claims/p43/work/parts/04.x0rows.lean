theorem dX0_init_0 : decode cX0_init 0 = .ok (.aload_n 0, 1) := by decide +kernel
theorem dX0_init_1 : decode cX0_init 1 = .ok (.invokespecial 3, 3) := by decide +kernel
theorem dX0_init_4 : decode cX0_init 4 = .ok (.aload_n 0, 1) := by decide +kernel
theorem dX0_init_5 : decode cX0_init 5 = .ok (.iconst 0, 1) := by decide +kernel
theorem dX0_init_6 : decode cX0_init 6 = .ok (.putfield 9, 3) := by decide +kernel
theorem dX0_init_9 : decode cX0_init 9 = .ok (.aload_n 0, 1) := by decide +kernel
theorem dX0_init_10 : decode cX0_init 10 = .ok (.bipush 6, 2) := by decide +kernel
theorem dX0_init_12 : decode cX0_init 12 = .ok (.newarray .int, 2) := by decide +kernel
theorem dX0_init_14 : decode cX0_init 14 = .ok (.putfield 13, 3) := by decide +kernel
theorem dX0_init_17 : decode cX0_init 17 = .ok (.aload_n 0, 1) := by decide +kernel
theorem dX0_init_18 : decode cX0_init 18 = .ok (.bipush 6, 2) := by decide +kernel
theorem dX0_init_20 : decode cX0_init 20 = .ok (.newarray .int, 2) := by decide +kernel
theorem dX0_init_22 : decode cX0_init 22 = .ok (.putfield 17, 3) := by decide +kernel
theorem dX0_init_25 : decode cX0_init 25 = .ok (.aload_n 0, 1) := by decide +kernel
theorem dX0_init_26 : decode cX0_init 26 = .ok (.sipush 288, 3) := by decide +kernel
theorem dX0_init_29 : decode cX0_init 29 = .ok (.newarray .int, 2) := by decide +kernel
theorem dX0_init_31 : decode cX0_init 31 = .ok (.putfield 20, 3) := by decide +kernel
theorem dX0_init_34 : decode cX0_init 34 = .ok (.aload_n 0, 1) := by decide +kernel
theorem dX0_init_35 : decode cX0_init 35 = .ok (.iconst 0, 1) := by decide +kernel
theorem dX0_init_36 : decode cX0_init 36 = .ok (.putfield 23, 3) := by decide +kernel
theorem dX0_init_39 : decode cX0_init 39 = .ok (.aload_n 0, 1) := by decide +kernel
theorem dX0_init_40 : decode cX0_init 40 = .ok (.bipush 12, 2) := by decide +kernel
theorem dX0_init_42 : decode cX0_init 42 = .ok (.newarray .boolean, 2) := by decide +kernel
theorem dX0_init_44 : decode cX0_init 44 = .ok (.putfield 26, 3) := by decide +kernel
theorem dX0_init_47 : decode cX0_init 47 = .ok (.aload_n 0, 1) := by decide +kernel
theorem dX0_init_48 : decode cX0_init 48 = .ok (.bipush 12, 2) := by decide +kernel
theorem dX0_init_50 : decode cX0_init 50 = .ok (.newarray .int, 2) := by decide +kernel
theorem dX0_init_52 : decode cX0_init 52 = .ok (.putfield 30, 3) := by decide +kernel
theorem dX0_init_55 : decode cX0_init 55 = .ok (.aload_n 0, 1) := by decide +kernel
theorem dX0_init_56 : decode cX0_init 56 = .ok (.bipush 12, 2) := by decide +kernel
theorem dX0_init_58 : decode cX0_init 58 = .ok (.newarray .int, 2) := by decide +kernel
theorem dX0_init_60 : decode cX0_init 60 = .ok (.putfield 33, 3) := by decide +kernel
theorem dX0_init_63 : decode cX0_init 63 = .ok (.aload_n 0, 1) := by decide +kernel
theorem dX0_init_64 : decode cX0_init 64 = .ok (.bipush 12, 2) := by decide +kernel
theorem dX0_init_66 : decode cX0_init 66 = .ok (.newarray .int, 2) := by decide +kernel
theorem dX0_init_68 : decode cX0_init 68 = .ok (.putfield 36, 3) := by decide +kernel
theorem dX0_init_71 : decode cX0_init 71 = .ok (.aload_n 0, 1) := by decide +kernel
theorem dX0_init_72 : decode cX0_init 72 = .ok (.iconst 0, 1) := by decide +kernel
theorem dX0_init_73 : decode cX0_init 73 = .ok (.putfield 39, 3) := by decide +kernel
theorem dX0_init_76 : decode cX0_init 76 = .ok (.return_, 1) := by decide +kernel
set_option maxRecDepth 20000 in
theorem ggX0_addFerry_X0_needToll : GoodIn wsX0_addFerry wsX0_needToll := goodIn_ca (goodIn_r _ [8, 9, 10] (by decide +kernel) (by decide +kernel)) (goodIn_sub (fun _ h => List.mem_cons_of_mem _ (List.mem_append_right _ h)) (by decide +kernel))
set_option maxRecDepth 20000 in
theorem gX0_addFerry_X0_needToll : GoodIn wsX0_addFerry (va_wsS RX0 42 yX0_needToll wsX0_needToll) := goodIn_app (goodIn_of _ (by decide +kernel)) ggX0_addFerry_X0_needToll
theorem dX0_addFerry_0 : decode cX0_addFerry 0 = .ok (.iload_n 1, 1) := by decide +kernel
theorem dX0_addFerry_1 : decode cX0_addFerry 1 = .ok (.invokestatic 42, 3) := by decide +kernel
theorem dX0_addFerry_4 : decode cX0_addFerry 4 = .ok (.aload_n 0, 1) := by decide +kernel
theorem dX0_addFerry_5 : decode cX0_addFerry 5 = .ok (.getfield 9, 3) := by decide +kernel
theorem dX0_addFerry_8 : decode cX0_addFerry 8 = .ok (.bipush 6, 2) := by decide +kernel
theorem dX0_addFerry_10 : decode cX0_addFerry 10 = .ok (.if_icmp .lt 13, 3) := by decide +kernel
theorem dX0_addFerry_13 : decode cX0_addFerry 13 = .ok (.new 46, 3) := by decide +kernel
theorem dX0_addFerry_16 : decode cX0_addFerry 16 = .ok (.dup, 1) := by decide +kernel
theorem dX0_addFerry_17 : decode cX0_addFerry 17 = .ok (.ldc 48, 2) := by decide +kernel
theorem dX0_addFerry_19 : decode cX0_addFerry 19 = .ok (.invokespecial 50, 3) := by decide +kernel
theorem dX0_addFerry_22 : decode cX0_addFerry 22 = .ok (.athrow, 1) := by decide +kernel
theorem dX0_addFerry_23 : decode cX0_addFerry 23 = .ok (.aload_n 0, 1) := by decide +kernel
theorem dX0_addFerry_24 : decode cX0_addFerry 24 = .ok (.getfield 9, 3) := by decide +kernel
theorem dX0_addFerry_27 : decode cX0_addFerry 27 = .ok (.istore_n 2, 1) := by decide +kernel
theorem dX0_addFerry_28 : decode cX0_addFerry 28 = .ok (.aload_n 0, 1) := by decide +kernel
theorem dX0_addFerry_29 : decode cX0_addFerry 29 = .ok (.getfield 13, 3) := by decide +kernel
theorem dX0_addFerry_32 : decode cX0_addFerry 32 = .ok (.iload_n 2, 1) := by decide +kernel
theorem dX0_addFerry_33 : decode cX0_addFerry 33 = .ok (.iload_n 1, 1) := by decide +kernel
theorem dX0_addFerry_34 : decode cX0_addFerry 34 = .ok (.iastore, 1) := by decide +kernel
theorem dX0_addFerry_35 : decode cX0_addFerry 35 = .ok (.aload_n 0, 1) := by decide +kernel
theorem dX0_addFerry_36 : decode cX0_addFerry 36 = .ok (.iload_n 2, 1) := by decide +kernel
theorem dX0_addFerry_37 : decode cX0_addFerry 37 = .ok (.iconst 1, 1) := by decide +kernel
theorem dX0_addFerry_38 : decode cX0_addFerry 38 = .ok (.iadd, 1) := by decide +kernel
theorem dX0_addFerry_39 : decode cX0_addFerry 39 = .ok (.putfield 9, 3) := by decide +kernel
theorem dX0_addFerry_42 : decode cX0_addFerry 42 = .ok (.iload_n 2, 1) := by decide +kernel
theorem dX0_addFerry_43 : decode cX0_addFerry 43 = .ok (.ireturn, 1) := by decide +kernel
set_option maxRecDepth 20000 in
theorem ggX0_addPerson_X0_needRoomForPerson : GoodIn wsX0_addPerson wsX0_needRoomForPerson := goodIn_ca (goodIn_r _ [5, 6, 7, 8, 15, 16, 17, 18, 19, 20, 21, 22, 23, 24] (by decide +kernel) (by decide +kernel)) (goodIn_sub (fun _ h => List.mem_cons_of_mem _ (List.mem_append_right _ h)) (by decide +kernel))
set_option maxRecDepth 20000 in
theorem gX0_addPerson_X0_needRoomForPerson : GoodIn wsX0_addPerson (wsV RX0 53 RX0 yX0_needRoomForPerson wsX0_needRoomForPerson) := goodIn_app (goodIn_of _ (by decide +kernel)) ggX0_addPerson_X0_needRoomForPerson
set_option maxRecDepth 20000 in
theorem ggX0_addPerson_X0_settle : GoodIn wsX0_addPerson wsX0_settle := goodIn_r _ [12, 8, 13, 14, 15, 16, 17, 18, 19, 20, 21, 22, 23, 24] (by decide +kernel) (by decide +kernel)
set_option maxRecDepth 20000 in
theorem gX0_addPerson_X0_settle : GoodIn wsX0_addPerson (wsV RX0 56 RX0 yX0_settle wsX0_settle) := goodIn_app (goodIn_of _ (by decide +kernel)) ggX0_addPerson_X0_settle
theorem dX0_addPerson_0 : decode cX0_addPerson 0 = .ok (.aload_n 0, 1) := by decide +kernel
theorem dX0_addPerson_1 : decode cX0_addPerson 1 = .ok (.invokevirtual 53, 3) := by decide +kernel
theorem dX0_addPerson_4 : decode cX0_addPerson 4 = .ok (.aload_n 0, 1) := by decide +kernel
theorem dX0_addPerson_5 : decode cX0_addPerson 5 = .ok (.iconst (-1), 1) := by decide +kernel
theorem dX0_addPerson_6 : decode cX0_addPerson 6 = .ok (.invokevirtual 56, 3) := by decide +kernel
theorem dX0_addPerson_9 : decode cX0_addPerson 9 = .ok (.ireturn, 1) := by decide +kernel
set_option maxRecDepth 20000 in
theorem ggX0_addChild_X0_needPerson : GoodIn wsX0_addChild wsX0_needPerson := goodIn_ca (goodIn_r _ [5, 6, 7, 8, 25, 26, 27, 28, 29, 30, 31, 32, 33, 34] (by decide +kernel) (by decide +kernel)) (goodIn_sub (fun _ h => List.mem_cons_of_mem _ (List.mem_append_left _ (List.mem_append_right _ h))) (by decide +kernel))
set_option maxRecDepth 20000 in
theorem gX0_addChild_X0_needPerson : GoodIn wsX0_addChild (wsV RX0 60 RX0 yX0_needPerson wsX0_needPerson) := goodIn_app (goodIn_of _ (by decide +kernel)) ggX0_addChild_X0_needPerson
set_option maxRecDepth 20000 in
theorem ggX0_addChild_X0_needAlive : GoodIn wsX0_addChild wsX0_needAlive := goodIn_ca (goodIn_r _ [12, 13, 14, 15, 25, 26, 27, 28, 29, 30, 31, 32, 33, 34] (by decide +kernel) (by decide +kernel)) (goodIn_sub (fun _ h => List.mem_cons_of_mem _ (List.mem_append_right _ h)) (by decide +kernel))
set_option maxRecDepth 20000 in
theorem gX0_addChild_X0_needAlive : GoodIn wsX0_addChild (wsV RX0 63 RX0 yX0_needAlive wsX0_needAlive) := goodIn_app (goodIn_of _ (by decide +kernel)) ggX0_addChild_X0_needAlive
set_option maxRecDepth 20000 in
theorem ggX0_addChild_X0_needRoomForPerson : GoodIn wsX0_addChild wsX0_needRoomForPerson := goodIn_ca (goodIn_r _ [19, 13, 14, 8, 25, 26, 27, 28, 29, 30, 31, 32, 33, 34] (by decide +kernel) (by decide +kernel)) (goodIn_sub (fun _ h => List.mem_cons_of_mem _ (List.mem_append_right _ h)) (by decide +kernel))
set_option maxRecDepth 20000 in
theorem gX0_addChild_X0_needRoomForPerson : GoodIn wsX0_addChild (wsV RX0 53 RX0 yX0_needRoomForPerson wsX0_needRoomForPerson) := goodIn_app (goodIn_of _ (by decide +kernel)) ggX0_addChild_X0_needRoomForPerson
set_option maxRecDepth 20000 in
theorem ggX0_addChild_X0_settle : GoodIn wsX0_addChild wsX0_settle := goodIn_r _ [23, 8, 15, 24, 25, 26, 27, 28, 29, 30, 31, 32, 33, 34] (by decide +kernel) (by decide +kernel)
set_option maxRecDepth 20000 in
theorem gX0_addChild_X0_settle : GoodIn wsX0_addChild (wsV RX0 56 RX0 yX0_settle wsX0_settle) := goodIn_app (goodIn_of _ (by decide +kernel)) ggX0_addChild_X0_settle
theorem dX0_addChild_0 : decode cX0_addChild 0 = .ok (.aload_n 0, 1) := by decide +kernel
theorem dX0_addChild_1 : decode cX0_addChild 1 = .ok (.iload_n 1, 1) := by decide +kernel
theorem dX0_addChild_2 : decode cX0_addChild 2 = .ok (.invokevirtual 60, 3) := by decide +kernel
theorem dX0_addChild_5 : decode cX0_addChild 5 = .ok (.aload_n 0, 1) := by decide +kernel
theorem dX0_addChild_6 : decode cX0_addChild 6 = .ok (.iload_n 1, 1) := by decide +kernel
theorem dX0_addChild_7 : decode cX0_addChild 7 = .ok (.invokevirtual 63, 3) := by decide +kernel
theorem dX0_addChild_10 : decode cX0_addChild 10 = .ok (.aload_n 0, 1) := by decide +kernel
theorem dX0_addChild_11 : decode cX0_addChild 11 = .ok (.invokevirtual 53, 3) := by decide +kernel
theorem dX0_addChild_14 : decode cX0_addChild 14 = .ok (.aload_n 0, 1) := by decide +kernel
theorem dX0_addChild_15 : decode cX0_addChild 15 = .ok (.iload_n 1, 1) := by decide +kernel
theorem dX0_addChild_16 : decode cX0_addChild 16 = .ok (.invokevirtual 56, 3) := by decide +kernel
theorem dX0_addChild_19 : decode cX0_addChild 19 = .ok (.ireturn, 1) := by decide +kernel
set_option maxRecDepth 20000 in
theorem ggX0_pay_X0_needPerson : GoodIn wsX0_pay wsX0_needPerson := goodIn_ca (goodIn_r _ [8, 9, 10, 11, 27, 28, 29, 30, 31, 32, 33, 34, 35, 36] (by decide +kernel) (by decide +kernel)) (goodIn_sub (fun _ h => List.mem_cons_of_mem _ (List.mem_append_left _ (List.mem_append_right _ h))) (by decide +kernel))
set_option maxRecDepth 20000 in
theorem gX0_pay_X0_needPerson : GoodIn wsX0_pay (wsV RX0 60 RX0 yX0_needPerson wsX0_needPerson) := goodIn_app (goodIn_of _ (by decide +kernel)) ggX0_pay_X0_needPerson
set_option maxRecDepth 20000 in
theorem ggX0_pay_X0_needAlive : GoodIn wsX0_pay wsX0_needAlive := goodIn_ca (goodIn_r _ [15, 16, 17, 18, 27, 28, 29, 30, 31, 32, 33, 34, 35, 36] (by decide +kernel) (by decide +kernel)) (goodIn_sub (fun _ h => List.mem_cons_of_mem _ (List.mem_append_right _ h)) (by decide +kernel))
set_option maxRecDepth 20000 in
theorem gX0_pay_X0_needAlive : GoodIn wsX0_pay (wsV RX0 63 RX0 yX0_needAlive wsX0_needAlive) := goodIn_app (goodIn_of _ (by decide +kernel)) ggX0_pay_X0_needAlive
set_option maxRecDepth 20000 in
theorem ggX0_pay_X0_addCoins : GoodIn wsX0_pay wsX0_addCoins := goodIn_r _ [22, 3, 23, 24, 25, 26, 27, 28, 29, 30, 31, 32, 33, 34, 35, 36] (by decide +kernel) (by decide +kernel)
set_option maxRecDepth 20000 in
theorem gX0_pay_X0_addCoins : GoodIn wsX0_pay (wsV RX0 71 RX0 yX0_addCoins wsX0_addCoins) := goodIn_app (goodIn_of _ (by decide +kernel)) ggX0_pay_X0_addCoins
theorem dX0_pay_0 : decode cX0_pay 0 = .ok (.aload_n 0, 1) := by decide +kernel
theorem dX0_pay_1 : decode cX0_pay 1 = .ok (.iload_n 1, 1) := by decide +kernel
theorem dX0_pay_2 : decode cX0_pay 2 = .ok (.invokevirtual 60, 3) := by decide +kernel
theorem dX0_pay_5 : decode cX0_pay 5 = .ok (.iload_n 2, 1) := by decide +kernel
theorem dX0_pay_6 : decode cX0_pay 6 = .ok (.iconst 1, 1) := by decide +kernel
theorem dX0_pay_7 : decode cX0_pay 7 = .ok (.if_icmp .lt 10, 3) := by decide +kernel
theorem dX0_pay_10 : decode cX0_pay 10 = .ok (.iload_n 2, 1) := by decide +kernel
theorem dX0_pay_11 : decode cX0_pay 11 = .ok (.sipush 9999, 3) := by decide +kernel
theorem dX0_pay_14 : decode cX0_pay 14 = .ok (.if_icmp .le 13, 3) := by decide +kernel
theorem dX0_pay_17 : decode cX0_pay 17 = .ok (.new 66, 3) := by decide +kernel
theorem dX0_pay_20 : decode cX0_pay 20 = .ok (.dup, 1) := by decide +kernel
theorem dX0_pay_21 : decode cX0_pay 21 = .ok (.ldc 68, 2) := by decide +kernel
theorem dX0_pay_23 : decode cX0_pay 23 = .ok (.invokespecial 70, 3) := by decide +kernel
theorem dX0_pay_26 : decode cX0_pay 26 = .ok (.athrow, 1) := by decide +kernel
theorem dX0_pay_27 : decode cX0_pay 27 = .ok (.aload_n 0, 1) := by decide +kernel
theorem dX0_pay_28 : decode cX0_pay 28 = .ok (.iload_n 1, 1) := by decide +kernel
theorem dX0_pay_29 : decode cX0_pay 29 = .ok (.invokevirtual 63, 3) := by decide +kernel
theorem dX0_pay_32 : decode cX0_pay 32 = .ok (.aload_n 0, 1) := by decide +kernel
theorem dX0_pay_33 : decode cX0_pay 33 = .ok (.iload_n 1, 1) := by decide +kernel
theorem dX0_pay_34 : decode cX0_pay 34 = .ok (.iload_n 2, 1) := by decide +kernel
theorem dX0_pay_35 : decode cX0_pay 35 = .ok (.invokevirtual 71, 3) := by decide +kernel
theorem dX0_pay_38 : decode cX0_pay 38 = .ok (.aload_n 0, 1) := by decide +kernel
theorem dX0_pay_39 : decode cX0_pay 39 = .ok (.getfield 30, 3) := by decide +kernel
theorem dX0_pay_42 : decode cX0_pay 42 = .ok (.iload_n 1, 1) := by decide +kernel
theorem dX0_pay_43 : decode cX0_pay 43 = .ok (.iaload, 1) := by decide +kernel
theorem dX0_pay_44 : decode cX0_pay 44 = .ok (.ireturn, 1) := by decide +kernel
set_option maxRecDepth 20000 in
theorem ggX0_grant_X0_needFerry : GoodIn wsX0_grant wsX0_needFerry := goodIn_ca (goodIn_r _ [7, 8, 9, 10, 45, 46, 47, 48, 49, 50, 51, 52, 53, 54] (by decide +kernel) (by decide +kernel)) (goodIn_sub (fun _ h => List.mem_cons_of_mem _ (List.mem_append_left _ (List.mem_append_right _ h))) (by decide +kernel))
set_option maxRecDepth 20000 in
theorem gX0_grant_X0_needFerry : GoodIn wsX0_grant (wsV RX0 75 RX0 yX0_needFerry wsX0_needFerry) := goodIn_app (goodIn_of _ (by decide +kernel)) ggX0_grant_X0_needFerry
set_option maxRecDepth 20000 in
theorem ggX0_grant_X0_needWatch : GoodIn wsX0_grant wsX0_needWatch := goodIn_ca (goodIn_r _ [13, 8, 9] (by decide +kernel) (by decide +kernel)) (goodIn_sub (fun _ h => List.mem_cons_of_mem _ (List.mem_append_left _ (List.mem_append_right _ h))) (by decide +kernel))
set_option maxRecDepth 20000 in
theorem gX0_grant_X0_needWatch : GoodIn wsX0_grant (va_wsS RX0 78 yX0_needWatch wsX0_needWatch) := goodIn_app (goodIn_of _ (by decide +kernel)) ggX0_grant_X0_needWatch
set_option maxRecDepth 20000 in
theorem ggX0_grant_X0_needPerson : GoodIn wsX0_grant wsX0_needPerson := goodIn_ca (goodIn_r _ [17, 8, 9, 18, 45, 46, 47, 48, 49, 50, 51, 52, 53, 54] (by decide +kernel) (by decide +kernel)) (goodIn_sub (fun _ h => List.mem_cons_of_mem _ (List.mem_append_left _ (List.mem_append_right _ h))) (by decide +kernel))
set_option maxRecDepth 20000 in
theorem gX0_grant_X0_needPerson : GoodIn wsX0_grant (wsV RX0 60 RX0 yX0_needPerson wsX0_needPerson) := goodIn_app (goodIn_of _ (by decide +kernel)) ggX0_grant_X0_needPerson
set_option maxRecDepth 20000 in
theorem ggX0_grant_X0_needShares : GoodIn wsX0_grant wsX0_needShares := goodIn_ca (goodIn_r _ [21, 22, 23] (by decide +kernel) (by decide +kernel)) (goodIn_sub (fun _ h => List.mem_cons_of_mem _ (List.mem_append_right _ h)) (by decide +kernel))
set_option maxRecDepth 20000 in
theorem gX0_grant_X0_needShares : GoodIn wsX0_grant (va_wsS RX0 81 yX0_needShares wsX0_needShares) := goodIn_app (goodIn_of _ (by decide +kernel)) ggX0_grant_X0_needShares
set_option maxRecDepth 20000 in
theorem ggX0_grant_X0_needAlive : GoodIn wsX0_grant wsX0_needAlive := goodIn_ca (goodIn_r _ [27, 1, 2, 28, 45, 46, 47, 48, 49, 50, 51, 52, 53, 54] (by decide +kernel) (by decide +kernel)) (goodIn_sub (fun _ h => List.mem_cons_of_mem _ (List.mem_append_left _ (List.mem_append_left _ (List.mem_append_right _ h)))) (by decide +kernel))
set_option maxRecDepth 20000 in
theorem gX0_grant_X0_needAlive : GoodIn wsX0_grant (wsV RX0 63 RX0 yX0_needAlive wsX0_needAlive) := goodIn_app (goodIn_of _ (by decide +kernel)) ggX0_grant_X0_needAlive
set_option maxRecDepth 20000 in
theorem ggX0_grant_X0_crownOwns : GoodIn wsX0_grant wsX0_crownOwns := goodIn_r _ [32, 18, 33, 34, 35, 6, 36, 37, 38, 39, 40, 45, 46, 47, 48, 49, 50, 51, 52, 53, 54] (by decide +kernel) (by decide +kernel)
set_option maxRecDepth 20000 in
theorem gX0_grant_X0_crownOwns : GoodIn wsX0_grant (wsV RX0 84 RX0 yX0_crownOwns wsX0_crownOwns) := goodIn_app (goodIn_of _ (by decide +kernel)) ggX0_grant_X0_crownOwns
set_option maxRecDepth 20000 in
theorem ggX0_grant_X0_addShares : GoodIn wsX0_grant wsX0_addShares := goodIn_r _ [44, 37, 38, 39, 6, 40, 45, 46, 47, 48, 49, 50, 51, 52, 53, 54] (by decide +kernel) (by decide +kernel)
set_option maxRecDepth 20000 in
theorem gX0_grant_X0_addShares : GoodIn wsX0_grant (wsV RX0 90 RX0 yX0_addShares wsX0_addShares) := goodIn_app (goodIn_of _ (by decide +kernel)) ggX0_grant_X0_addShares
theorem dX0_grant_0 : decode cX0_grant 0 = .ok (.aload_n 0, 1) := by decide +kernel
theorem dX0_grant_1 : decode cX0_grant 1 = .ok (.iload_n 1, 1) := by decide +kernel
theorem dX0_grant_2 : decode cX0_grant 2 = .ok (.invokevirtual 75, 3) := by decide +kernel
theorem dX0_grant_5 : decode cX0_grant 5 = .ok (.iload_n 2, 1) := by decide +kernel
theorem dX0_grant_6 : decode cX0_grant 6 = .ok (.invokestatic 78, 3) := by decide +kernel
theorem dX0_grant_9 : decode cX0_grant 9 = .ok (.aload_n 0, 1) := by decide +kernel
theorem dX0_grant_10 : decode cX0_grant 10 = .ok (.iload_n 3, 1) := by decide +kernel
theorem dX0_grant_11 : decode cX0_grant 11 = .ok (.invokevirtual 60, 3) := by decide +kernel
theorem dX0_grant_14 : decode cX0_grant 14 = .ok (.iload 4, 2) := by decide +kernel
theorem dX0_grant_16 : decode cX0_grant 16 = .ok (.invokestatic 81, 3) := by decide +kernel
theorem dX0_grant_19 : decode cX0_grant 19 = .ok (.aload_n 0, 1) := by decide +kernel
theorem dX0_grant_20 : decode cX0_grant 20 = .ok (.iload_n 3, 1) := by decide +kernel
theorem dX0_grant_21 : decode cX0_grant 21 = .ok (.invokevirtual 63, 3) := by decide +kernel
theorem dX0_grant_24 : decode cX0_grant 24 = .ok (.aload_n 0, 1) := by decide +kernel
theorem dX0_grant_25 : decode cX0_grant 25 = .ok (.iload_n 1, 1) := by decide +kernel
theorem dX0_grant_26 : decode cX0_grant 26 = .ok (.iload_n 2, 1) := by decide +kernel
theorem dX0_grant_27 : decode cX0_grant 27 = .ok (.invokevirtual 84, 3) := by decide +kernel
theorem dX0_grant_30 : decode cX0_grant 30 = .ok (.iload 4, 2) := by decide +kernel
theorem dX0_grant_32 : decode cX0_grant 32 = .ok (.if_icmp .ge 13, 3) := by decide +kernel
theorem dX0_grant_35 : decode cX0_grant 35 = .ok (.new 46, 3) := by decide +kernel
theorem dX0_grant_38 : decode cX0_grant 38 = .ok (.dup, 1) := by decide +kernel
theorem dX0_grant_39 : decode cX0_grant 39 = .ok (.ldc 88, 2) := by decide +kernel
theorem dX0_grant_41 : decode cX0_grant 41 = .ok (.invokespecial 50, 3) := by decide +kernel
theorem dX0_grant_44 : decode cX0_grant 44 = .ok (.athrow, 1) := by decide +kernel
theorem dX0_grant_45 : decode cX0_grant 45 = .ok (.aload_n 0, 1) := by decide +kernel
theorem dX0_grant_46 : decode cX0_grant 46 = .ok (.iload_n 1, 1) := by decide +kernel
theorem dX0_grant_47 : decode cX0_grant 47 = .ok (.iload_n 2, 1) := by decide +kernel
theorem dX0_grant_48 : decode cX0_grant 48 = .ok (.iload_n 3, 1) := by decide +kernel
theorem dX0_grant_49 : decode cX0_grant 49 = .ok (.iload 4, 2) := by decide +kernel
theorem dX0_grant_51 : decode cX0_grant 51 = .ok (.invokevirtual 90, 3) := by decide +kernel
theorem dX0_grant_54 : decode cX0_grant 54 = .ok (.aload_n 0, 1) := by decide +kernel
theorem dX0_grant_55 : decode cX0_grant 55 = .ok (.iload_n 1, 1) := by decide +kernel
theorem dX0_grant_56 : decode cX0_grant 56 = .ok (.iload_n 2, 1) := by decide +kernel
theorem dX0_grant_57 : decode cX0_grant 57 = .ok (.invokevirtual 84, 3) := by decide +kernel
theorem dX0_grant_60 : decode cX0_grant 60 = .ok (.ireturn, 1) := by decide +kernel
set_option maxRecDepth 20000 in
theorem ggX0_give_X0_needPerson : GoodIn wsX0_give wsX0_needPerson := goodIn_ca (goodIn_r _ [9, 10, 11, 12, 41, 42, 43, 44, 45, 46, 47, 48, 49, 50] (by decide +kernel) (by decide +kernel)) (goodIn_sub (fun _ h => List.mem_cons_of_mem _ (List.mem_append_right _ h)) (by decide +kernel))
set_option maxRecDepth 20000 in
theorem gX0_give_X0_needPerson : GoodIn wsX0_give (wsV RX0 60 RX0 yX0_needPerson wsX0_needPerson) := goodIn_app (goodIn_of _ (by decide +kernel)) ggX0_give_X0_needPerson
set_option maxRecDepth 20000 in
theorem ggX0_give_X0_needFerry : GoodIn wsX0_give wsX0_needFerry := goodIn_ca (goodIn_r _ [16, 10, 11, 17, 41, 42, 43, 44, 45, 46, 47, 48, 49, 50] (by decide +kernel) (by decide +kernel)) (goodIn_sub (fun _ h => List.mem_cons_of_mem _ (List.mem_append_right _ h)) (by decide +kernel))
set_option maxRecDepth 20000 in
theorem gX0_give_X0_needFerry : GoodIn wsX0_give (wsV RX0 75 RX0 yX0_needFerry wsX0_needFerry) := goodIn_app (goodIn_of _ (by decide +kernel)) ggX0_give_X0_needFerry
set_option maxRecDepth 20000 in
theorem ggX0_give_X0_needWatch : GoodIn wsX0_give wsX0_needWatch := goodIn_ca (goodIn_r _ [20, 10, 11] (by decide +kernel) (by decide +kernel)) (goodIn_sub (fun _ h => List.mem_cons_of_mem _ (List.mem_append_right _ h)) (by decide +kernel))
set_option maxRecDepth 20000 in
theorem gX0_give_X0_needWatch : GoodIn wsX0_give (va_wsS RX0 78 yX0_needWatch wsX0_needWatch) := goodIn_app (goodIn_of _ (by decide +kernel)) ggX0_give_X0_needWatch
set_option maxRecDepth 20000 in
theorem ggX0_give_X0_needShares : GoodIn wsX0_give wsX0_needShares := goodIn_ca (goodIn_r _ [23, 1, 2] (by decide +kernel) (by decide +kernel)) (goodIn_sub (fun _ h => List.mem_cons_of_mem _ (List.mem_append_left _ (List.mem_append_left _ (List.mem_append_right _ h)))) (by decide +kernel))
set_option maxRecDepth 20000 in
theorem gX0_give_X0_needShares : GoodIn wsX0_give (va_wsS RX0 81 yX0_needShares wsX0_needShares) := goodIn_app (goodIn_of _ (by decide +kernel)) ggX0_give_X0_needShares
set_option maxRecDepth 20000 in
theorem ggX0_give_X0_needAlive : GoodIn wsX0_give wsX0_needAlive := goodIn_ca (goodIn_r _ [27, 3, 4, 28, 41, 42, 43, 44, 45, 46, 47, 48, 49, 50] (by decide +kernel) (by decide +kernel)) (goodIn_sub (fun _ h => List.mem_cons_of_mem _ (List.mem_append_left _ (List.mem_append_right _ h))) (by decide +kernel))
set_option maxRecDepth 20000 in
theorem gX0_give_X0_needAlive : GoodIn wsX0_give (wsV RX0 63 RX0 yX0_needAlive wsX0_needAlive) := goodIn_app (goodIn_of _ (by decide +kernel)) ggX0_give_X0_needAlive
set_option maxRecDepth 20000 in
theorem ggX0_give_X0_owns : GoodIn wsX0_give wsX0_owns := goodIn_r _ [32, 33, 34, 35, 8, 36, 41, 42, 43, 44, 45, 46, 47, 48, 49, 50] (by decide +kernel) (by decide +kernel)
set_option maxRecDepth 20000 in
theorem gX0_give_X0_owns : GoodIn wsX0_give (wsV RX0 96 RX0 yX0_owns wsX0_owns) := goodIn_app (goodIn_of _ (by decide +kernel)) ggX0_give_X0_owns
set_option maxRecDepth 20000 in
theorem ggX0_give_X0_addShares : GoodIn wsX0_give wsX0_addShares := goodIn_r _ [40, 33, 34, 35, 8, 36, 41, 42, 43, 44, 45, 46, 47, 48, 49, 50] (by decide +kernel) (by decide +kernel)
set_option maxRecDepth 20000 in
theorem gX0_give_X0_addShares : GoodIn wsX0_give (wsV RX0 90 RX0 yX0_addShares wsX0_addShares) := goodIn_app (goodIn_of _ (by decide +kernel)) ggX0_give_X0_addShares
theorem dX0_give_0 : decode cX0_give 0 = .ok (.aload_n 0, 1) := by decide +kernel
theorem dX0_give_1 : decode cX0_give 1 = .ok (.iload_n 1, 1) := by decide +kernel
theorem dX0_give_2 : decode cX0_give 2 = .ok (.invokevirtual 60, 3) := by decide +kernel
theorem dX0_give_5 : decode cX0_give 5 = .ok (.aload_n 0, 1) := by decide +kernel
theorem dX0_give_6 : decode cX0_give 6 = .ok (.iload_n 2, 1) := by decide +kernel
theorem dX0_give_7 : decode cX0_give 7 = .ok (.invokevirtual 60, 3) := by decide +kernel
theorem dX0_give_10 : decode cX0_give 10 = .ok (.aload_n 0, 1) := by decide +kernel
theorem dX0_give_11 : decode cX0_give 11 = .ok (.iload_n 3, 1) := by decide +kernel
theorem dX0_give_12 : decode cX0_give 12 = .ok (.invokevirtual 75, 3) := by decide +kernel
theorem dX0_give_15 : decode cX0_give 15 = .ok (.iload 4, 2) := by decide +kernel
theorem dX0_give_17 : decode cX0_give 17 = .ok (.invokestatic 78, 3) := by decide +kernel
theorem dX0_give_20 : decode cX0_give 20 = .ok (.iload 5, 2) := by decide +kernel
theorem dX0_give_22 : decode cX0_give 22 = .ok (.invokestatic 81, 3) := by decide +kernel
theorem dX0_give_25 : decode cX0_give 25 = .ok (.iload_n 1, 1) := by decide +kernel
theorem dX0_give_26 : decode cX0_give 26 = .ok (.iload_n 2, 1) := by decide +kernel
theorem dX0_give_27 : decode cX0_give 27 = .ok (.if_icmp .ne 13, 3) := by decide +kernel
theorem dX0_give_30 : decode cX0_give 30 = .ok (.new 66, 3) := by decide +kernel
theorem dX0_give_33 : decode cX0_give 33 = .ok (.dup, 1) := by decide +kernel
theorem dX0_give_34 : decode cX0_give 34 = .ok (.ldc 94, 2) := by decide +kernel
theorem dX0_give_36 : decode cX0_give 36 = .ok (.invokespecial 70, 3) := by decide +kernel
theorem dX0_give_39 : decode cX0_give 39 = .ok (.athrow, 1) := by decide +kernel
theorem dX0_give_40 : decode cX0_give 40 = .ok (.aload_n 0, 1) := by decide +kernel
theorem dX0_give_41 : decode cX0_give 41 = .ok (.iload_n 2, 1) := by decide +kernel
theorem dX0_give_42 : decode cX0_give 42 = .ok (.invokevirtual 63, 3) := by decide +kernel
theorem dX0_give_45 : decode cX0_give 45 = .ok (.aload_n 0, 1) := by decide +kernel
theorem dX0_give_46 : decode cX0_give 46 = .ok (.iload_n 3, 1) := by decide +kernel
theorem dX0_give_47 : decode cX0_give 47 = .ok (.iload 4, 2) := by decide +kernel
theorem dX0_give_49 : decode cX0_give 49 = .ok (.iload_n 1, 1) := by decide +kernel
theorem dX0_give_50 : decode cX0_give 50 = .ok (.invokevirtual 96, 3) := by decide +kernel
theorem dX0_give_53 : decode cX0_give 53 = .ok (.iload 5, 2) := by decide +kernel
theorem dX0_give_55 : decode cX0_give 55 = .ok (.if_icmp .ge 13, 3) := by decide +kernel
theorem dX0_give_58 : decode cX0_give 58 = .ok (.new 46, 3) := by decide +kernel
theorem dX0_give_61 : decode cX0_give 61 = .ok (.dup, 1) := by decide +kernel
theorem dX0_give_62 : decode cX0_give 62 = .ok (.ldc 100, 2) := by decide +kernel
theorem dX0_give_64 : decode cX0_give 64 = .ok (.invokespecial 50, 3) := by decide +kernel
theorem dX0_give_67 : decode cX0_give 67 = .ok (.athrow, 1) := by decide +kernel
theorem dX0_give_68 : decode cX0_give 68 = .ok (.aload_n 0, 1) := by decide +kernel
theorem dX0_give_69 : decode cX0_give 69 = .ok (.iload_n 3, 1) := by decide +kernel
theorem dX0_give_70 : decode cX0_give 70 = .ok (.iload 4, 2) := by decide +kernel
theorem dX0_give_72 : decode cX0_give 72 = .ok (.iload_n 1, 1) := by decide +kernel
theorem dX0_give_73 : decode cX0_give 73 = .ok (.iload 5, 2) := by decide +kernel
theorem dX0_give_75 : decode cX0_give 75 = .ok (.ineg, 1) := by decide +kernel
theorem dX0_give_76 : decode cX0_give 76 = .ok (.invokevirtual 90, 3) := by decide +kernel
theorem dX0_give_79 : decode cX0_give 79 = .ok (.aload_n 0, 1) := by decide +kernel
theorem dX0_give_80 : decode cX0_give 80 = .ok (.iload_n 3, 1) := by decide +kernel
theorem dX0_give_81 : decode cX0_give 81 = .ok (.iload 4, 2) := by decide +kernel
theorem dX0_give_83 : decode cX0_give 83 = .ok (.iload_n 2, 1) := by decide +kernel
theorem dX0_give_84 : decode cX0_give 84 = .ok (.iload 5, 2) := by decide +kernel
theorem dX0_give_86 : decode cX0_give 86 = .ok (.invokevirtual 90, 3) := by decide +kernel
theorem dX0_give_89 : decode cX0_give 89 = .ok (.aload_n 0, 1) := by decide +kernel
theorem dX0_give_90 : decode cX0_give 90 = .ok (.iload_n 3, 1) := by decide +kernel
theorem dX0_give_91 : decode cX0_give 91 = .ok (.iload 4, 2) := by decide +kernel
theorem dX0_give_93 : decode cX0_give 93 = .ok (.iload_n 2, 1) := by decide +kernel
theorem dX0_give_94 : decode cX0_give 94 = .ok (.invokevirtual 96, 3) := by decide +kernel
theorem dX0_give_97 : decode cX0_give 97 = .ok (.ireturn, 1) := by decide +kernel
set_option maxRecDepth 20000 in
theorem ggX0_buy_X0_needSale : GoodIn wsX0_buy wsX0_needSale := goodIn_ca (goodIn_r _ [8, 9, 10, 11, 7, 12, 13, 14, 15, 16, 17, 18, 19, 20, 21, 22, 23, 63, 64, 65, 66, 67, 68, 69, 70, 71, 72] (by decide +kernel) (by decide +kernel)) (goodIn_sub (fun _ h => List.mem_cons_of_mem _ (List.mem_append_right _ h)) (by decide +kernel))
set_option maxRecDepth 20000 in
theorem gX0_buy_X0_needSale : GoodIn wsX0_buy (wsV RX0 102 RX0 yX0_needSale wsX0_needSale) := goodIn_app (goodIn_of _ (by decide +kernel)) ggX0_buy_X0_needSale
set_option maxRecDepth 20000 in
theorem ggX0_buy_X0_mayBuy : GoodIn wsX0_buy wsX0_mayBuy := goodIn_r _ [27, 28, 3, 29, 30, 31, 7, 32, 33, 34, 35, 36, 37, 38, 39, 40, 41, 42, 43, 44, 45, 46, 47, 48, 49, 50, 15, 63, 64, 65, 66, 67, 68, 69, 70, 71, 72] (by decide +kernel) (by decide +kernel)
set_option maxRecDepth 20000 in
theorem gX0_buy_X0_mayBuy : GoodIn wsX0_buy (wsV RX0 105 RX0 yX0_mayBuy wsX0_mayBuy) := goodIn_app (goodIn_of _ (by decide +kernel)) ggX0_buy_X0_mayBuy
set_option maxRecDepth 20000 in
theorem ggX0_buy_X0_priceOf : GoodIn wsX0_buy wsX0_priceOf := goodIn_r _ [32, 33, 34, 35, 7, 36, 37, 38, 39, 40, 41, 42, 43, 44, 45, 46, 63, 64, 65, 66, 67, 68, 69, 70, 71, 72] (by decide +kernel) (by decide +kernel)
set_option maxRecDepth 20000 in
theorem gX0_buy_X0_priceOf : GoodIn wsX0_buy (wsV RX0 111 RX0 yX0_priceOf wsX0_priceOf) := goodIn_app (goodIn_of _ (by decide +kernel)) ggX0_buy_X0_priceOf
set_option maxRecDepth 20000 in
theorem ggX0_buy_X0_owns : GoodIn wsX0_buy wsX0_owns := goodIn_r _ [36, 37, 38, 39, 7, 40, 63, 64, 65, 66, 67, 68, 69, 70, 71, 72] (by decide +kernel) (by decide +kernel)
set_option maxRecDepth 20000 in
theorem gX0_buy_X0_owns : GoodIn wsX0_buy (wsV RX0 96 RX0 yX0_owns wsX0_owns) := goodIn_app (goodIn_of _ (by decide +kernel)) ggX0_buy_X0_owns
set_option maxRecDepth 20000 in
theorem ggX0_buy_X0_addCoins : GoodIn wsX0_buy wsX0_addCoins := goodIn_r _ [54, 3, 55, 56, 57, 58, 63, 64, 65, 66, 67, 68, 69, 70, 71, 72] (by decide +kernel) (by decide +kernel)
set_option maxRecDepth 20000 in
theorem gX0_buy_X0_addCoins : GoodIn wsX0_buy (wsV RX0 71 RX0 yX0_addCoins wsX0_addCoins) := goodIn_app (goodIn_of _ (by decide +kernel)) ggX0_buy_X0_addCoins
set_option maxRecDepth 20000 in
theorem ggX0_buy_X0_addShares : GoodIn wsX0_buy wsX0_addShares := goodIn_r _ [62, 37, 38, 39, 7, 40, 63, 64, 65, 66, 67, 68, 69, 70, 71, 72] (by decide +kernel) (by decide +kernel)
set_option maxRecDepth 20000 in
theorem gX0_buy_X0_addShares : GoodIn wsX0_buy (wsV RX0 90 RX0 yX0_addShares wsX0_addShares) := goodIn_app (goodIn_of _ (by decide +kernel)) ggX0_buy_X0_addShares
theorem dX0_buy_0 : decode cX0_buy 0 = .ok (.aload_n 0, 1) := by decide +kernel
theorem dX0_buy_1 : decode cX0_buy 1 = .ok (.iload_n 1, 1) := by decide +kernel
theorem dX0_buy_2 : decode cX0_buy 2 = .ok (.iload_n 2, 1) := by decide +kernel
theorem dX0_buy_3 : decode cX0_buy 3 = .ok (.iload_n 3, 1) := by decide +kernel
theorem dX0_buy_4 : decode cX0_buy 4 = .ok (.iload 4, 2) := by decide +kernel
theorem dX0_buy_6 : decode cX0_buy 6 = .ok (.invokevirtual 102, 3) := by decide +kernel
theorem dX0_buy_9 : decode cX0_buy 9 = .ok (.aload_n 0, 1) := by decide +kernel
theorem dX0_buy_10 : decode cX0_buy 10 = .ok (.iload_n 1, 1) := by decide +kernel
theorem dX0_buy_11 : decode cX0_buy 11 = .ok (.iload_n 2, 1) := by decide +kernel
theorem dX0_buy_12 : decode cX0_buy 12 = .ok (.iload_n 3, 1) := by decide +kernel
theorem dX0_buy_13 : decode cX0_buy 13 = .ok (.iload 4, 2) := by decide +kernel
theorem dX0_buy_15 : decode cX0_buy 15 = .ok (.invokevirtual 105, 3) := by decide +kernel
theorem dX0_buy_18 : decode cX0_buy 18 = .ok (.ifCond .ne 13, 3) := by decide +kernel
theorem dX0_buy_21 : decode cX0_buy 21 = .ok (.new 46, 3) := by decide +kernel
theorem dX0_buy_24 : decode cX0_buy 24 = .ok (.dup, 1) := by decide +kernel
theorem dX0_buy_25 : decode cX0_buy 25 = .ok (.ldc 109, 2) := by decide +kernel
theorem dX0_buy_27 : decode cX0_buy 27 = .ok (.invokespecial 50, 3) := by decide +kernel
theorem dX0_buy_30 : decode cX0_buy 30 = .ok (.athrow, 1) := by decide +kernel
theorem dX0_buy_31 : decode cX0_buy 31 = .ok (.aload_n 0, 1) := by decide +kernel
theorem dX0_buy_32 : decode cX0_buy 32 = .ok (.iload_n 2, 1) := by decide +kernel
theorem dX0_buy_33 : decode cX0_buy 33 = .ok (.iload_n 3, 1) := by decide +kernel
theorem dX0_buy_34 : decode cX0_buy 34 = .ok (.iload 4, 2) := by decide +kernel
theorem dX0_buy_36 : decode cX0_buy 36 = .ok (.invokevirtual 111, 3) := by decide +kernel
theorem dX0_buy_39 : decode cX0_buy 39 = .ok (.istore 5, 2) := by decide +kernel
theorem dX0_buy_41 : decode cX0_buy 41 = .ok (.aload_n 0, 1) := by decide +kernel
theorem dX0_buy_42 : decode cX0_buy 42 = .ok (.iload_n 3, 1) := by decide +kernel
theorem dX0_buy_43 : decode cX0_buy 43 = .ok (.iload 4, 2) := by decide +kernel
theorem dX0_buy_45 : decode cX0_buy 45 = .ok (.iload_n 2, 1) := by decide +kernel
theorem dX0_buy_46 : decode cX0_buy 46 = .ok (.invokevirtual 96, 3) := by decide +kernel
theorem dX0_buy_49 : decode cX0_buy 49 = .ok (.istore 6, 2) := by decide +kernel
theorem dX0_buy_51 : decode cX0_buy 51 = .ok (.aload_n 0, 1) := by decide +kernel
theorem dX0_buy_52 : decode cX0_buy 52 = .ok (.getfield 30, 3) := by decide +kernel
theorem dX0_buy_55 : decode cX0_buy 55 = .ok (.iload_n 1, 1) := by decide +kernel
theorem dX0_buy_56 : decode cX0_buy 56 = .ok (.dup2, 1) := by decide +kernel
theorem dX0_buy_57 : decode cX0_buy 57 = .ok (.iaload, 1) := by decide +kernel
theorem dX0_buy_58 : decode cX0_buy 58 = .ok (.iload 5, 2) := by decide +kernel
theorem dX0_buy_60 : decode cX0_buy 60 = .ok (.isub, 1) := by decide +kernel
theorem dX0_buy_61 : decode cX0_buy 61 = .ok (.iastore, 1) := by decide +kernel
theorem dX0_buy_62 : decode cX0_buy 62 = .ok (.aload_n 0, 1) := by decide +kernel
theorem dX0_buy_63 : decode cX0_buy 63 = .ok (.iload_n 2, 1) := by decide +kernel
theorem dX0_buy_64 : decode cX0_buy 64 = .ok (.iload 5, 2) := by decide +kernel
theorem dX0_buy_66 : decode cX0_buy 66 = .ok (.invokevirtual 71, 3) := by decide +kernel
theorem dX0_buy_69 : decode cX0_buy 69 = .ok (.aload_n 0, 1) := by decide +kernel
theorem dX0_buy_70 : decode cX0_buy 70 = .ok (.iload_n 3, 1) := by decide +kernel
theorem dX0_buy_71 : decode cX0_buy 71 = .ok (.iload 4, 2) := by decide +kernel
theorem dX0_buy_73 : decode cX0_buy 73 = .ok (.iload_n 2, 1) := by decide +kernel
theorem dX0_buy_74 : decode cX0_buy 74 = .ok (.iload 6, 2) := by decide +kernel
theorem dX0_buy_76 : decode cX0_buy 76 = .ok (.ineg, 1) := by decide +kernel
theorem dX0_buy_77 : decode cX0_buy 77 = .ok (.invokevirtual 90, 3) := by decide +kernel
theorem dX0_buy_80 : decode cX0_buy 80 = .ok (.aload_n 0, 1) := by decide +kernel
theorem dX0_buy_81 : decode cX0_buy 81 = .ok (.iload_n 3, 1) := by decide +kernel
theorem dX0_buy_82 : decode cX0_buy 82 = .ok (.iload 4, 2) := by decide +kernel
theorem dX0_buy_84 : decode cX0_buy 84 = .ok (.iload_n 1, 1) := by decide +kernel
theorem dX0_buy_85 : decode cX0_buy 85 = .ok (.iload 6, 2) := by decide +kernel
theorem dX0_buy_87 : decode cX0_buy 87 = .ok (.invokevirtual 90, 3) := by decide +kernel
theorem dX0_buy_90 : decode cX0_buy 90 = .ok (.iload 5, 2) := by decide +kernel
theorem dX0_buy_92 : decode cX0_buy 92 = .ok (.ireturn, 1) := by decide +kernel
set_option maxRecDepth 20000 in
theorem ggX0_setToll_X0_needFerry : GoodIn wsX0_setToll wsX0_needFerry := goodIn_ca (goodIn_r _ [8, 9, 10, 11, 38, 39, 40, 41, 42, 43, 44, 45, 46, 47] (by decide +kernel) (by decide +kernel)) (goodIn_sub (fun _ h => List.mem_cons_of_mem _ (List.mem_append_left _ (List.mem_append_right _ h))) (by decide +kernel))
set_option maxRecDepth 20000 in
theorem gX0_setToll_X0_needFerry : GoodIn wsX0_setToll (wsV RX0 75 RX0 yX0_needFerry wsX0_needFerry) := goodIn_app (goodIn_of _ (by decide +kernel)) ggX0_setToll_X0_needFerry
set_option maxRecDepth 20000 in
theorem ggX0_setToll_X0_needPerson : GoodIn wsX0_setToll wsX0_needPerson := goodIn_ca (goodIn_r _ [15, 9, 10, 16, 38, 39, 40, 41, 42, 43, 44, 45, 46, 47] (by decide +kernel) (by decide +kernel)) (goodIn_sub (fun _ h => List.mem_cons_of_mem _ (List.mem_append_left _ (List.mem_append_right _ h))) (by decide +kernel))
set_option maxRecDepth 20000 in
theorem gX0_setToll_X0_needPerson : GoodIn wsX0_setToll (wsV RX0 60 RX0 yX0_needPerson wsX0_needPerson) := goodIn_app (goodIn_of _ (by decide +kernel)) ggX0_setToll_X0_needPerson
set_option maxRecDepth 20000 in
theorem ggX0_setToll_X0_needToll : GoodIn wsX0_setToll wsX0_needToll := goodIn_ca (goodIn_r _ [19, 20, 21] (by decide +kernel) (by decide +kernel)) (goodIn_sub (fun _ h => List.mem_cons_of_mem _ (List.mem_append_right _ h)) (by decide +kernel))
set_option maxRecDepth 20000 in
theorem gX0_setToll_X0_needToll : GoodIn wsX0_setToll (va_wsS RX0 42 yX0_needToll wsX0_needToll) := goodIn_app (goodIn_of _ (by decide +kernel)) ggX0_setToll_X0_needToll
set_option maxRecDepth 20000 in
theorem ggX0_setToll_X0_findMaster : GoodIn wsX0_setToll wsX0_findMaster := goodIn_r _ [25, 16, 26, 27, 28, 7, 29, 30, 31, 32, 33, 34, 35, 36, 37, 38, 39, 40, 41, 42, 43, 44, 45, 46, 47] (by decide +kernel) (by decide +kernel)
set_option maxRecDepth 20000 in
theorem gX0_setToll_X0_findMaster : GoodIn wsX0_setToll (wsV RX0 114 RX0 yX0_findMaster wsX0_findMaster) := goodIn_app (goodIn_of _ (by decide +kernel)) ggX0_setToll_X0_findMaster
theorem dX0_setToll_0 : decode cX0_setToll 0 = .ok (.aload_n 0, 1) := by decide +kernel
theorem dX0_setToll_1 : decode cX0_setToll 1 = .ok (.iload_n 1, 1) := by decide +kernel
theorem dX0_setToll_2 : decode cX0_setToll 2 = .ok (.invokevirtual 75, 3) := by decide +kernel
theorem dX0_setToll_5 : decode cX0_setToll 5 = .ok (.aload_n 0, 1) := by decide +kernel
theorem dX0_setToll_6 : decode cX0_setToll 6 = .ok (.iload_n 2, 1) := by decide +kernel
theorem dX0_setToll_7 : decode cX0_setToll 7 = .ok (.invokevirtual 60, 3) := by decide +kernel
theorem dX0_setToll_10 : decode cX0_setToll 10 = .ok (.iload_n 3, 1) := by decide +kernel
theorem dX0_setToll_11 : decode cX0_setToll 11 = .ok (.invokestatic 42, 3) := by decide +kernel
theorem dX0_setToll_14 : decode cX0_setToll 14 = .ok (.aload_n 0, 1) := by decide +kernel
theorem dX0_setToll_15 : decode cX0_setToll 15 = .ok (.iload_n 1, 1) := by decide +kernel
theorem dX0_setToll_16 : decode cX0_setToll 16 = .ok (.invokevirtual 114, 3) := by decide +kernel
theorem dX0_setToll_19 : decode cX0_setToll 19 = .ok (.iload_n 2, 1) := by decide +kernel
theorem dX0_setToll_20 : decode cX0_setToll 20 = .ok (.if_icmp .eq 13, 3) := by decide +kernel
theorem dX0_setToll_23 : decode cX0_setToll 23 = .ok (.new 46, 3) := by decide +kernel
theorem dX0_setToll_26 : decode cX0_setToll 26 = .ok (.dup, 1) := by decide +kernel
theorem dX0_setToll_27 : decode cX0_setToll 27 = .ok (.ldc 117, 2) := by decide +kernel
theorem dX0_setToll_29 : decode cX0_setToll 29 = .ok (.invokespecial 50, 3) := by decide +kernel
theorem dX0_setToll_32 : decode cX0_setToll 32 = .ok (.athrow, 1) := by decide +kernel
theorem dX0_setToll_33 : decode cX0_setToll 33 = .ok (.aload_n 0, 1) := by decide +kernel
theorem dX0_setToll_34 : decode cX0_setToll 34 = .ok (.getfield 13, 3) := by decide +kernel
theorem dX0_setToll_37 : decode cX0_setToll 37 = .ok (.iload_n 1, 1) := by decide +kernel
theorem dX0_setToll_38 : decode cX0_setToll 38 = .ok (.iaload, 1) := by decide +kernel
theorem dX0_setToll_39 : decode cX0_setToll 39 = .ok (.istore 4, 2) := by decide +kernel
theorem dX0_setToll_41 : decode cX0_setToll 41 = .ok (.aload_n 0, 1) := by decide +kernel
theorem dX0_setToll_42 : decode cX0_setToll 42 = .ok (.getfield 13, 3) := by decide +kernel
theorem dX0_setToll_45 : decode cX0_setToll 45 = .ok (.iload_n 1, 1) := by decide +kernel
theorem dX0_setToll_46 : decode cX0_setToll 46 = .ok (.iload_n 3, 1) := by decide +kernel
theorem dX0_setToll_47 : decode cX0_setToll 47 = .ok (.iastore, 1) := by decide +kernel
theorem dX0_setToll_48 : decode cX0_setToll 48 = .ok (.iload 4, 2) := by decide +kernel
theorem dX0_setToll_50 : decode cX0_setToll 50 = .ok (.ireturn, 1) := by decide +kernel
set_option maxRecDepth 20000 in
theorem ggX0_carry_X0_needFerry : GoodIn wsX0_carry wsX0_needFerry := goodIn_ca (goodIn_r _ [10, 11, 12, 13, 43, 44, 45, 46, 47, 48, 49, 50, 51, 52] (by decide +kernel) (by decide +kernel)) (goodIn_sub (fun _ h => List.mem_cons_of_mem _ (List.mem_append_left _ (List.mem_append_right _ h))) (by decide +kernel))
set_option maxRecDepth 20000 in
theorem gX0_carry_X0_needFerry : GoodIn wsX0_carry (wsV RX0 75 RX0 yX0_needFerry wsX0_needFerry) := goodIn_app (goodIn_of _ (by decide +kernel)) ggX0_carry_X0_needFerry
set_option maxRecDepth 20000 in
theorem ggX0_carry_X0_needHour : GoodIn wsX0_carry wsX0_needHour := goodIn_ca (goodIn_r _ [16, 11, 12] (by decide +kernel) (by decide +kernel)) (goodIn_sub (fun _ h => List.mem_cons_of_mem _ (List.mem_append_left _ (List.mem_append_right _ h))) (by decide +kernel))
set_option maxRecDepth 20000 in
theorem gX0_carry_X0_needHour : GoodIn wsX0_carry (va_wsS RX0 119 yX0_needHour wsX0_needHour) := goodIn_app (goodIn_of _ (by decide +kernel)) ggX0_carry_X0_needHour
set_option maxRecDepth 20000 in
theorem ggX0_carry_X0_needPassengers : GoodIn wsX0_carry wsX0_needPassengers := goodIn_ca (goodIn_r _ [19, 20, 21] (by decide +kernel) (by decide +kernel)) (goodIn_sub (fun _ h => List.mem_cons_of_mem _ (List.mem_append_right _ h)) (by decide +kernel))
set_option maxRecDepth 20000 in
theorem gX0_carry_X0_needPassengers : GoodIn wsX0_carry (va_wsS RX0 122 yX0_needPassengers wsX0_needPassengers) := goodIn_app (goodIn_of _ (by decide +kernel)) ggX0_carry_X0_needPassengers
set_option maxRecDepth 20000 in
theorem ggX0_carry_X0_fareOf : GoodIn wsX0_carry wsX0_fareOf := goodIn_r _ [25, 1, 26, 27, 28, 9, 29, 30, 31, 32, 33, 43, 44, 45, 46, 47, 48, 49, 50, 51, 52] (by decide +kernel) (by decide +kernel)
set_option maxRecDepth 20000 in
theorem gX0_carry_X0_fareOf : GoodIn wsX0_carry (wsV RX0 125 RX0 yX0_fareOf wsX0_fareOf) := goodIn_app (goodIn_of _ (by decide +kernel)) ggX0_carry_X0_fareOf
set_option maxRecDepth 20000 in
theorem ggX0_carry_X0_addCoins : GoodIn wsX0_carry wsX0_addCoins := goodIn_r _ [37, 38, 39, 40, 41, 42, 43, 44, 45, 46, 47, 48, 49, 50, 51, 52] (by decide +kernel) (by decide +kernel)
set_option maxRecDepth 20000 in
theorem gX0_carry_X0_addCoins : GoodIn wsX0_carry (wsV RX0 71 RX0 yX0_addCoins wsX0_addCoins) := goodIn_app (goodIn_of _ (by decide +kernel)) ggX0_carry_X0_addCoins
theorem dX0_carry_0 : decode cX0_carry 0 = .ok (.aload_n 0, 1) := by decide +kernel
theorem dX0_carry_1 : decode cX0_carry 1 = .ok (.iload_n 1, 1) := by decide +kernel
theorem dX0_carry_2 : decode cX0_carry 2 = .ok (.invokevirtual 75, 3) := by decide +kernel
theorem dX0_carry_5 : decode cX0_carry 5 = .ok (.iload_n 2, 1) := by decide +kernel
theorem dX0_carry_6 : decode cX0_carry 6 = .ok (.invokestatic 119, 3) := by decide +kernel
theorem dX0_carry_9 : decode cX0_carry 9 = .ok (.iload_n 3, 1) := by decide +kernel
theorem dX0_carry_10 : decode cX0_carry 10 = .ok (.invokestatic 122, 3) := by decide +kernel
theorem dX0_carry_13 : decode cX0_carry 13 = .ok (.iload_n 2, 1) := by decide +kernel
theorem dX0_carry_14 : decode cX0_carry 14 = .ok (.bipush 6, 2) := by decide +kernel
theorem dX0_carry_16 : decode cX0_carry 16 = .ok (.idiv, 1) := by decide +kernel
theorem dX0_carry_17 : decode cX0_carry 17 = .ok (.istore 4, 2) := by decide +kernel
theorem dX0_carry_19 : decode cX0_carry 19 = .ok (.aload_n 0, 1) := by decide +kernel
theorem dX0_carry_20 : decode cX0_carry 20 = .ok (.getfield 13, 3) := by decide +kernel
theorem dX0_carry_23 : decode cX0_carry 23 = .ok (.iload_n 1, 1) := by decide +kernel
theorem dX0_carry_24 : decode cX0_carry 24 = .ok (.iaload, 1) := by decide +kernel
theorem dX0_carry_25 : decode cX0_carry 25 = .ok (.iload_n 3, 1) := by decide +kernel
theorem dX0_carry_26 : decode cX0_carry 26 = .ok (.imul, 1) := by decide +kernel
theorem dX0_carry_27 : decode cX0_carry 27 = .ok (.istore 5, 2) := by decide +kernel
theorem dX0_carry_29 : decode cX0_carry 29 = .ok (.iconst 0, 1) := by decide +kernel
theorem dX0_carry_30 : decode cX0_carry 30 = .ok (.istore 6, 2) := by decide +kernel
theorem dX0_carry_32 : decode cX0_carry 32 = .ok (.iload 6, 2) := by decide +kernel
theorem dX0_carry_34 : decode cX0_carry 34 = .ok (.aload_n 0, 1) := by decide +kernel
theorem dX0_carry_35 : decode cX0_carry 35 = .ok (.getfield 23, 3) := by decide +kernel
theorem dX0_carry_38 : decode cX0_carry 38 = .ok (.if_icmp .ge 48, 3) := by decide +kernel
theorem dX0_carry_41 : decode cX0_carry 41 = .ok (.aload_n 0, 1) := by decide +kernel
theorem dX0_carry_42 : decode cX0_carry 42 = .ok (.iload 6, 2) := by decide +kernel
theorem dX0_carry_44 : decode cX0_carry 44 = .ok (.iload_n 1, 1) := by decide +kernel
theorem dX0_carry_45 : decode cX0_carry 45 = .ok (.iload 4, 2) := by decide +kernel
theorem dX0_carry_47 : decode cX0_carry 47 = .ok (.iload_n 3, 1) := by decide +kernel
theorem dX0_carry_48 : decode cX0_carry 48 = .ok (.invokevirtual 125, 3) := by decide +kernel
theorem dX0_carry_51 : decode cX0_carry 51 = .ok (.istore 7, 2) := by decide +kernel
theorem dX0_carry_53 : decode cX0_carry 53 = .ok (.aload_n 0, 1) := by decide +kernel
theorem dX0_carry_54 : decode cX0_carry 54 = .ok (.getfield 33, 3) := by decide +kernel
theorem dX0_carry_57 : decode cX0_carry 57 = .ok (.iload 6, 2) := by decide +kernel
theorem dX0_carry_59 : decode cX0_carry 59 = .ok (.dup2, 1) := by decide +kernel
theorem dX0_carry_60 : decode cX0_carry 60 = .ok (.iaload, 1) := by decide +kernel
theorem dX0_carry_61 : decode cX0_carry 61 = .ok (.iload 7, 2) := by decide +kernel
theorem dX0_carry_63 : decode cX0_carry 63 = .ok (.iadd, 1) := by decide +kernel
theorem dX0_carry_64 : decode cX0_carry 64 = .ok (.iastore, 1) := by decide +kernel
theorem dX0_carry_65 : decode cX0_carry 65 = .ok (.aload_n 0, 1) := by decide +kernel
theorem dX0_carry_66 : decode cX0_carry 66 = .ok (.iload 6, 2) := by decide +kernel
theorem dX0_carry_68 : decode cX0_carry 68 = .ok (.iload 7, 2) := by decide +kernel
theorem dX0_carry_70 : decode cX0_carry 70 = .ok (.invokevirtual 71, 3) := by decide +kernel
theorem dX0_carry_73 : decode cX0_carry 73 = .ok (.iload 5, 2) := by decide +kernel
theorem dX0_carry_75 : decode cX0_carry 75 = .ok (.iload 7, 2) := by decide +kernel
theorem dX0_carry_77 : decode cX0_carry 77 = .ok (.isub, 1) := by decide +kernel
theorem dX0_carry_78 : decode cX0_carry 78 = .ok (.istore 5, 2) := by decide +kernel
theorem dX0_carry_80 : decode cX0_carry 80 = .ok (.iinc 6 1, 3) := by decide +kernel
theorem dX0_carry_83 : decode cX0_carry 83 = .ok (.goto (-51), 3) := by decide +kernel
theorem dX0_carry_86 : decode cX0_carry 86 = .ok (.aload_n 0, 1) := by decide +kernel
theorem dX0_carry_87 : decode cX0_carry 87 = .ok (.dup, 1) := by decide +kernel
theorem dX0_carry_88 : decode cX0_carry 88 = .ok (.getfield 39, 3) := by decide +kernel
theorem dX0_carry_91 : decode cX0_carry 91 = .ok (.iload 5, 2) := by decide +kernel
theorem dX0_carry_93 : decode cX0_carry 93 = .ok (.iadd, 1) := by decide +kernel
theorem dX0_carry_94 : decode cX0_carry 94 = .ok (.putfield 39, 3) := by decide +kernel
theorem dX0_carry_97 : decode cX0_carry 97 = .ok (.aload_n 0, 1) := by decide +kernel
theorem dX0_carry_98 : decode cX0_carry 98 = .ok (.getfield 17, 3) := by decide +kernel
theorem dX0_carry_101 : decode cX0_carry 101 = .ok (.iload_n 1, 1) := by decide +kernel
theorem dX0_carry_102 : decode cX0_carry 102 = .ok (.dup2, 1) := by decide +kernel
theorem dX0_carry_103 : decode cX0_carry 103 = .ok (.iaload, 1) := by decide +kernel
theorem dX0_carry_104 : decode cX0_carry 104 = .ok (.iload_n 3, 1) := by decide +kernel
theorem dX0_carry_105 : decode cX0_carry 105 = .ok (.iadd, 1) := by decide +kernel
theorem dX0_carry_106 : decode cX0_carry 106 = .ok (.iastore, 1) := by decide +kernel
theorem dX0_carry_107 : decode cX0_carry 107 = .ok (.iload 5, 2) := by decide +kernel
theorem dX0_carry_109 : decode cX0_carry 109 = .ok (.ireturn, 1) := by decide +kernel
set_option maxRecDepth 20000 in
theorem ggX0_die_X0_needPerson : GoodIn wsX0_die wsX0_needPerson := goodIn_ca (goodIn_r _ [8, 9, 10, 1, 67, 68, 69, 70, 71, 72, 73, 74, 75, 76] (by decide +kernel) (by decide +kernel)) (goodIn_sub (fun _ h => List.mem_cons_of_mem _ (List.mem_append_left _ (List.mem_append_right _ h))) (by decide +kernel))
set_option maxRecDepth 20000 in
theorem gX0_die_X0_needPerson : GoodIn wsX0_die (wsV RX0 60 RX0 yX0_needPerson wsX0_needPerson) := goodIn_app (goodIn_of _ (by decide +kernel)) ggX0_die_X0_needPerson
set_option maxRecDepth 20000 in
theorem ggX0_die_X0_needAlive : GoodIn wsX0_die wsX0_needAlive := goodIn_ca (goodIn_r _ [14, 15, 16, 17, 67, 68, 69, 70, 71, 72, 73, 74, 75, 76] (by decide +kernel) (by decide +kernel)) (goodIn_sub (fun _ h => List.mem_cons_of_mem _ (List.mem_append_right _ h)) (by decide +kernel))
set_option maxRecDepth 20000 in
theorem gX0_die_X0_needAlive : GoodIn wsX0_die (wsV RX0 63 RX0 yX0_needAlive wsX0_needAlive) := goodIn_app (goodIn_of _ (by decide +kernel)) ggX0_die_X0_needAlive
set_option maxRecDepth 20000 in
theorem ggX0_die_X0_countHeirs : GoodIn wsX0_die wsX0_countHeirs := goodIn_r _ [21, 1, 22, 23, 24, 7, 25, 26, 27, 28, 29, 17, 30, 31, 32, 33, 34, 67, 68, 69, 70, 71, 72, 73, 74, 75, 76] (by decide +kernel) (by decide +kernel)
set_option maxRecDepth 20000 in
theorem gX0_die_X0_countHeirs : GoodIn wsX0_die (wsV RX0 129 RX0 yX0_countHeirs wsX0_countHeirs) := goodIn_app (goodIn_of _ (by decide +kernel)) ggX0_die_X0_countHeirs
set_option maxRecDepth 20000 in
theorem ggX0_die_X0_isHeir : GoodIn wsX0_die wsX0_isHeir := goodIn_r _ [29, 17, 30, 31, 32, 33, 7, 34, 1, 67, 68, 69, 70, 71, 72, 73, 74, 75, 76] (by decide +kernel) (by decide +kernel)
set_option maxRecDepth 20000 in
theorem gX0_die_X0_isHeir : GoodIn wsX0_die (wsV RX0 132 RX0 yX0_isHeir wsX0_isHeir) := goodIn_app (goodIn_of _ (by decide +kernel)) ggX0_die_X0_isHeir
set_option maxRecDepth 20000 in
theorem ggX0_die_X0_hand : GoodIn wsX0_die wsX0_hand := goodIn_r _ [38, 39, 3, 40, 41, 42, 7, 43, 44, 45, 46, 47, 48, 49, 50, 51, 52, 53, 54, 55, 56, 57, 58, 59, 60, 61, 62, 67, 68, 69, 70, 71, 72, 73, 74, 75, 76] (by decide +kernel) (by decide +kernel)
set_option maxRecDepth 20000 in
theorem gX0_die_X0_hand : GoodIn wsX0_die (wsV RX0 136 RX0 yX0_hand wsX0_hand) := goodIn_app (goodIn_of _ (by decide +kernel)) ggX0_die_X0_hand
set_option maxRecDepth 20000 in
theorem ggX0_die_X0_bury : GoodIn wsX0_die wsX0_bury := goodIn_r _ [66, 39, 44, 3, 17, 45, 46, 7, 47, 67, 68, 69, 70, 71, 72, 73, 74, 75, 76] (by decide +kernel) (by decide +kernel)
set_option maxRecDepth 20000 in
theorem gX0_die_X0_bury : GoodIn wsX0_die (wsV RX0 139 RX0 yX0_bury wsX0_bury) := goodIn_app (goodIn_of _ (by decide +kernel)) ggX0_die_X0_bury
theorem dX0_die_0 : decode cX0_die 0 = .ok (.aload_n 0, 1) := by decide +kernel
theorem dX0_die_1 : decode cX0_die 1 = .ok (.iload_n 1, 1) := by decide +kernel
theorem dX0_die_2 : decode cX0_die 2 = .ok (.invokevirtual 60, 3) := by decide +kernel
theorem dX0_die_5 : decode cX0_die 5 = .ok (.aload_n 0, 1) := by decide +kernel
theorem dX0_die_6 : decode cX0_die 6 = .ok (.iload_n 1, 1) := by decide +kernel
theorem dX0_die_7 : decode cX0_die 7 = .ok (.invokevirtual 63, 3) := by decide +kernel
theorem dX0_die_10 : decode cX0_die 10 = .ok (.aload_n 0, 1) := by decide +kernel
theorem dX0_die_11 : decode cX0_die 11 = .ok (.iload_n 1, 1) := by decide +kernel
theorem dX0_die_12 : decode cX0_die 12 = .ok (.invokevirtual 129, 3) := by decide +kernel
theorem dX0_die_15 : decode cX0_die 15 = .ok (.istore_n 2, 1) := by decide +kernel
theorem dX0_die_16 : decode cX0_die 16 = .ok (.iconst 0, 1) := by decide +kernel
theorem dX0_die_17 : decode cX0_die 17 = .ok (.istore_n 3, 1) := by decide +kernel
theorem dX0_die_18 : decode cX0_die 18 = .ok (.iconst 0, 1) := by decide +kernel
theorem dX0_die_19 : decode cX0_die 19 = .ok (.istore 4, 2) := by decide +kernel
theorem dX0_die_21 : decode cX0_die 21 = .ok (.iload 4, 2) := by decide +kernel
theorem dX0_die_23 : decode cX0_die 23 = .ok (.aload_n 0, 1) := by decide +kernel
theorem dX0_die_24 : decode cX0_die 24 = .ok (.getfield 23, 3) := by decide +kernel
theorem dX0_die_27 : decode cX0_die 27 = .ok (.if_icmp .ge 31, 3) := by decide +kernel
theorem dX0_die_30 : decode cX0_die 30 = .ok (.aload_n 0, 1) := by decide +kernel
theorem dX0_die_31 : decode cX0_die 31 = .ok (.iload 4, 2) := by decide +kernel
theorem dX0_die_33 : decode cX0_die 33 = .ok (.iload_n 1, 1) := by decide +kernel
theorem dX0_die_34 : decode cX0_die 34 = .ok (.invokevirtual 132, 3) := by decide +kernel
theorem dX0_die_37 : decode cX0_die 37 = .ok (.ifCond .eq 15, 3) := by decide +kernel
theorem dX0_die_40 : decode cX0_die 40 = .ok (.aload_n 0, 1) := by decide +kernel
theorem dX0_die_41 : decode cX0_die 41 = .ok (.iload_n 1, 1) := by decide +kernel
theorem dX0_die_42 : decode cX0_die 42 = .ok (.iload 4, 2) := by decide +kernel
theorem dX0_die_44 : decode cX0_die 44 = .ok (.iload_n 2, 1) := by decide +kernel
theorem dX0_die_45 : decode cX0_die 45 = .ok (.iload_n 3, 1) := by decide +kernel
theorem dX0_die_46 : decode cX0_die 46 = .ok (.invokevirtual 136, 3) := by decide +kernel
theorem dX0_die_49 : decode cX0_die 49 = .ok (.iinc 3 1, 3) := by decide +kernel
theorem dX0_die_52 : decode cX0_die 52 = .ok (.iinc 4 1, 3) := by decide +kernel
theorem dX0_die_55 : decode cX0_die 55 = .ok (.goto (-34), 3) := by decide +kernel
theorem dX0_die_58 : decode cX0_die 58 = .ok (.iload_n 2, 1) := by decide +kernel
theorem dX0_die_59 : decode cX0_die 59 = .ok (.ifCond .ne 18, 3) := by decide +kernel
theorem dX0_die_62 : decode cX0_die 62 = .ok (.aload_n 0, 1) := by decide +kernel
theorem dX0_die_63 : decode cX0_die 63 = .ok (.dup, 1) := by decide +kernel
theorem dX0_die_64 : decode cX0_die 64 = .ok (.getfield 39, 3) := by decide +kernel
theorem dX0_die_67 : decode cX0_die 67 = .ok (.aload_n 0, 1) := by decide +kernel
theorem dX0_die_68 : decode cX0_die 68 = .ok (.getfield 30, 3) := by decide +kernel
theorem dX0_die_71 : decode cX0_die 71 = .ok (.iload_n 1, 1) := by decide +kernel
theorem dX0_die_72 : decode cX0_die 72 = .ok (.iaload, 1) := by decide +kernel
theorem dX0_die_73 : decode cX0_die 73 = .ok (.iadd, 1) := by decide +kernel
theorem dX0_die_74 : decode cX0_die 74 = .ok (.putfield 39, 3) := by decide +kernel
theorem dX0_die_77 : decode cX0_die 77 = .ok (.aload_n 0, 1) := by decide +kernel
theorem dX0_die_78 : decode cX0_die 78 = .ok (.iload_n 1, 1) := by decide +kernel
theorem dX0_die_79 : decode cX0_die 79 = .ok (.invokevirtual 139, 3) := by decide +kernel
theorem dX0_die_82 : decode cX0_die 82 = .ok (.iload_n 2, 1) := by decide +kernel
theorem dX0_die_83 : decode cX0_die 83 = .ok (.ireturn, 1) := by decide +kernel
theorem dX0_ferries_0 : decode cX0_ferries 0 = .ok (.aload_n 0, 1) := by decide +kernel
theorem dX0_ferries_1 : decode cX0_ferries 1 = .ok (.getfield 9, 3) := by decide +kernel
theorem dX0_ferries_4 : decode cX0_ferries 4 = .ok (.ireturn, 1) := by decide +kernel
set_option maxRecDepth 20000 in
theorem ggX0_toll_X0_needFerry : GoodIn wsX0_toll wsX0_needFerry := goodIn_ca (goodIn_r _ [6, 7, 8, 9, 10, 11, 12, 13, 14, 15, 16, 17, 18, 19] (by decide +kernel) (by decide +kernel)) (goodIn_sub (fun _ h => List.mem_cons_of_mem _ (List.mem_append_right _ h)) (by decide +kernel))
set_option maxRecDepth 20000 in
theorem gX0_toll_X0_needFerry : GoodIn wsX0_toll (wsV RX0 75 RX0 yX0_needFerry wsX0_needFerry) := goodIn_app (goodIn_of _ (by decide +kernel)) ggX0_toll_X0_needFerry
theorem dX0_toll_0 : decode cX0_toll 0 = .ok (.aload_n 0, 1) := by decide +kernel
theorem dX0_toll_1 : decode cX0_toll 1 = .ok (.iload_n 1, 1) := by decide +kernel
theorem dX0_toll_2 : decode cX0_toll 2 = .ok (.invokevirtual 75, 3) := by decide +kernel
theorem dX0_toll_5 : decode cX0_toll 5 = .ok (.aload_n 0, 1) := by decide +kernel
theorem dX0_toll_6 : decode cX0_toll 6 = .ok (.getfield 13, 3) := by decide +kernel
theorem dX0_toll_9 : decode cX0_toll 9 = .ok (.iload_n 1, 1) := by decide +kernel
theorem dX0_toll_10 : decode cX0_toll 10 = .ok (.iaload, 1) := by decide +kernel
theorem dX0_toll_11 : decode cX0_toll 11 = .ok (.ireturn, 1) := by decide +kernel
set_option maxRecDepth 20000 in
theorem ggX0_carried_X0_needFerry : GoodIn wsX0_carried wsX0_needFerry := goodIn_ca (goodIn_r _ [6, 7, 8, 9, 10, 11, 12, 13, 14, 15, 16, 17, 18, 19] (by decide +kernel) (by decide +kernel)) (goodIn_sub (fun _ h => List.mem_cons_of_mem _ (List.mem_append_right _ h)) (by decide +kernel))
set_option maxRecDepth 20000 in
theorem gX0_carried_X0_needFerry : GoodIn wsX0_carried (wsV RX0 75 RX0 yX0_needFerry wsX0_needFerry) := goodIn_app (goodIn_of _ (by decide +kernel)) ggX0_carried_X0_needFerry
theorem dX0_carried_0 : decode cX0_carried 0 = .ok (.aload_n 0, 1) := by decide +kernel
theorem dX0_carried_1 : decode cX0_carried 1 = .ok (.iload_n 1, 1) := by decide +kernel
theorem dX0_carried_2 : decode cX0_carried 2 = .ok (.invokevirtual 75, 3) := by decide +kernel
theorem dX0_carried_5 : decode cX0_carried 5 = .ok (.aload_n 0, 1) := by decide +kernel
theorem dX0_carried_6 : decode cX0_carried 6 = .ok (.getfield 17, 3) := by decide +kernel
theorem dX0_carried_9 : decode cX0_carried 9 = .ok (.iload_n 1, 1) := by decide +kernel
theorem dX0_carried_10 : decode cX0_carried 10 = .ok (.iaload, 1) := by decide +kernel
theorem dX0_carried_11 : decode cX0_carried 11 = .ok (.ireturn, 1) := by decide +kernel
set_option maxRecDepth 20000 in
theorem ggX0_shares_X0_needFerry : GoodIn wsX0_shares wsX0_needFerry := goodIn_ca (goodIn_r _ [5, 6, 7, 8, 25, 26, 27, 28, 29, 30, 31, 32, 33, 34] (by decide +kernel) (by decide +kernel)) (goodIn_sub (fun _ h => List.mem_cons_of_mem _ (List.mem_append_right _ h)) (by decide +kernel))
set_option maxRecDepth 20000 in
theorem gX0_shares_X0_needFerry : GoodIn wsX0_shares (wsV RX0 75 RX0 yX0_needFerry wsX0_needFerry) := goodIn_app (goodIn_of _ (by decide +kernel)) ggX0_shares_X0_needFerry
set_option maxRecDepth 20000 in
theorem ggX0_shares_X0_needWatch : GoodIn wsX0_shares wsX0_needWatch := goodIn_ca (goodIn_r _ [11, 6, 7] (by decide +kernel) (by decide +kernel)) (goodIn_sub (fun _ h => List.mem_cons_of_mem _ (List.mem_append_right _ h)) (by decide +kernel))
set_option maxRecDepth 20000 in
theorem gX0_shares_X0_needWatch : GoodIn wsX0_shares (va_wsS RX0 78 yX0_needWatch wsX0_needWatch) := goodIn_app (goodIn_of _ (by decide +kernel)) ggX0_shares_X0_needWatch
set_option maxRecDepth 20000 in
theorem ggX0_shares_X0_needPerson : GoodIn wsX0_shares wsX0_needPerson := goodIn_ca (goodIn_r _ [15, 6, 7, 16, 25, 26, 27, 28, 29, 30, 31, 32, 33, 34] (by decide +kernel) (by decide +kernel)) (goodIn_sub (fun _ h => List.mem_cons_of_mem _ (List.mem_append_right _ h)) (by decide +kernel))
set_option maxRecDepth 20000 in
theorem gX0_shares_X0_needPerson : GoodIn wsX0_shares (wsV RX0 60 RX0 yX0_needPerson wsX0_needPerson) := goodIn_app (goodIn_of _ (by decide +kernel)) ggX0_shares_X0_needPerson
set_option maxRecDepth 20000 in
theorem ggX0_shares_X0_owns : GoodIn wsX0_shares wsX0_owns := goodIn_r _ [20, 21, 22, 23, 4, 24, 25, 26, 27, 28, 29, 30, 31, 32, 33, 34] (by decide +kernel) (by decide +kernel)
set_option maxRecDepth 20000 in
theorem gX0_shares_X0_owns : GoodIn wsX0_shares (wsV RX0 96 RX0 yX0_owns wsX0_owns) := goodIn_app (goodIn_of _ (by decide +kernel)) ggX0_shares_X0_owns
theorem dX0_shares_0 : decode cX0_shares 0 = .ok (.aload_n 0, 1) := by decide +kernel
theorem dX0_shares_1 : decode cX0_shares 1 = .ok (.iload_n 1, 1) := by decide +kernel
theorem dX0_shares_2 : decode cX0_shares 2 = .ok (.invokevirtual 75, 3) := by decide +kernel
theorem dX0_shares_5 : decode cX0_shares 5 = .ok (.iload_n 2, 1) := by decide +kernel
theorem dX0_shares_6 : decode cX0_shares 6 = .ok (.invokestatic 78, 3) := by decide +kernel
theorem dX0_shares_9 : decode cX0_shares 9 = .ok (.aload_n 0, 1) := by decide +kernel
theorem dX0_shares_10 : decode cX0_shares 10 = .ok (.iload_n 3, 1) := by decide +kernel
theorem dX0_shares_11 : decode cX0_shares 11 = .ok (.invokevirtual 60, 3) := by decide +kernel
theorem dX0_shares_14 : decode cX0_shares 14 = .ok (.aload_n 0, 1) := by decide +kernel
theorem dX0_shares_15 : decode cX0_shares 15 = .ok (.iload_n 1, 1) := by decide +kernel
theorem dX0_shares_16 : decode cX0_shares 16 = .ok (.iload_n 2, 1) := by decide +kernel
theorem dX0_shares_17 : decode cX0_shares 17 = .ok (.iload_n 3, 1) := by decide +kernel
theorem dX0_shares_18 : decode cX0_shares 18 = .ok (.invokevirtual 96, 3) := by decide +kernel
theorem dX0_shares_21 : decode cX0_shares 21 = .ok (.ireturn, 1) := by decide +kernel
set_option maxRecDepth 20000 in
theorem ggX0_crownShares_X0_needFerry : GoodIn wsX0_crownShares wsX0_needFerry := goodIn_ca (goodIn_r _ [5, 6, 7, 8, 25, 26, 27, 28, 29, 30, 31, 32, 33, 34] (by decide +kernel) (by decide +kernel)) (goodIn_sub (fun _ h => List.mem_cons_of_mem _ (List.mem_append_right _ h)) (by decide +kernel))
set_option maxRecDepth 20000 in
theorem gX0_crownShares_X0_needFerry : GoodIn wsX0_crownShares (wsV RX0 75 RX0 yX0_needFerry wsX0_needFerry) := goodIn_app (goodIn_of _ (by decide +kernel)) ggX0_crownShares_X0_needFerry
set_option maxRecDepth 20000 in
theorem ggX0_crownShares_X0_needWatch : GoodIn wsX0_crownShares wsX0_needWatch := goodIn_ca (goodIn_r _ [11, 6, 7] (by decide +kernel) (by decide +kernel)) (goodIn_sub (fun _ h => List.mem_cons_of_mem _ (List.mem_append_right _ h)) (by decide +kernel))
set_option maxRecDepth 20000 in
theorem gX0_crownShares_X0_needWatch : GoodIn wsX0_crownShares (va_wsS RX0 78 yX0_needWatch wsX0_needWatch) := goodIn_app (goodIn_of _ (by decide +kernel)) ggX0_crownShares_X0_needWatch
set_option maxRecDepth 20000 in
theorem ggX0_crownShares_X0_crownOwns : GoodIn wsX0_crownShares wsX0_crownOwns := goodIn_r _ [15, 16, 17, 18, 19, 4, 20, 21, 22, 23, 24, 25, 26, 27, 28, 29, 30, 31, 32, 33, 34] (by decide +kernel) (by decide +kernel)
set_option maxRecDepth 20000 in
theorem gX0_crownShares_X0_crownOwns : GoodIn wsX0_crownShares (wsV RX0 84 RX0 yX0_crownOwns wsX0_crownOwns) := goodIn_app (goodIn_of _ (by decide +kernel)) ggX0_crownShares_X0_crownOwns
theorem dX0_crownShares_0 : decode cX0_crownShares 0 = .ok (.aload_n 0, 1) := by decide +kernel
theorem dX0_crownShares_1 : decode cX0_crownShares 1 = .ok (.iload_n 1, 1) := by decide +kernel
theorem dX0_crownShares_2 : decode cX0_crownShares 2 = .ok (.invokevirtual 75, 3) := by decide +kernel
theorem dX0_crownShares_5 : decode cX0_crownShares 5 = .ok (.iload_n 2, 1) := by decide +kernel
theorem dX0_crownShares_6 : decode cX0_crownShares 6 = .ok (.invokestatic 78, 3) := by decide +kernel
theorem dX0_crownShares_9 : decode cX0_crownShares 9 = .ok (.aload_n 0, 1) := by decide +kernel
theorem dX0_crownShares_10 : decode cX0_crownShares 10 = .ok (.iload_n 1, 1) := by decide +kernel
theorem dX0_crownShares_11 : decode cX0_crownShares 11 = .ok (.iload_n 2, 1) := by decide +kernel
theorem dX0_crownShares_12 : decode cX0_crownShares 12 = .ok (.invokevirtual 84, 3) := by decide +kernel
theorem dX0_crownShares_15 : decode cX0_crownShares 15 = .ok (.ireturn, 1) := by decide +kernel
set_option maxRecDepth 20000 in
theorem ggX0_owners_X0_needFerry : GoodIn wsX0_owners wsX0_needFerry := goodIn_ca (goodIn_r _ [6, 7, 8, 9, 21, 22, 23, 24, 25, 26, 27, 28, 29, 30] (by decide +kernel) (by decide +kernel)) (goodIn_sub (fun _ h => List.mem_cons_of_mem _ (List.mem_append_right _ h)) (by decide +kernel))
set_option maxRecDepth 20000 in
theorem gX0_owners_X0_needFerry : GoodIn wsX0_owners (wsV RX0 75 RX0 yX0_needFerry wsX0_needFerry) := goodIn_app (goodIn_of _ (by decide +kernel)) ggX0_owners_X0_needFerry
set_option maxRecDepth 20000 in
theorem ggX0_owners_X0_needWatch : GoodIn wsX0_owners wsX0_needWatch := goodIn_ca (goodIn_r _ [12, 7, 8] (by decide +kernel) (by decide +kernel)) (goodIn_sub (fun _ h => List.mem_cons_of_mem _ (List.mem_append_right _ h)) (by decide +kernel))
set_option maxRecDepth 20000 in
theorem gX0_owners_X0_needWatch : GoodIn wsX0_owners (va_wsS RX0 78 yX0_needWatch wsX0_needWatch) := goodIn_app (goodIn_of _ (by decide +kernel)) ggX0_owners_X0_needWatch
set_option maxRecDepth 20000 in
theorem ggX0_owners_X0_owns : GoodIn wsX0_owners wsX0_owns := goodIn_r _ [16, 17, 18, 19, 5, 20, 21, 22, 23, 24, 25, 26, 27, 28, 29, 30] (by decide +kernel) (by decide +kernel)
set_option maxRecDepth 20000 in
theorem gX0_owners_X0_owns : GoodIn wsX0_owners (wsV RX0 96 RX0 yX0_owns wsX0_owns) := goodIn_app (goodIn_of _ (by decide +kernel)) ggX0_owners_X0_owns
theorem dX0_owners_0 : decode cX0_owners 0 = .ok (.aload_n 0, 1) := by decide +kernel
theorem dX0_owners_1 : decode cX0_owners 1 = .ok (.iload_n 1, 1) := by decide +kernel
theorem dX0_owners_2 : decode cX0_owners 2 = .ok (.invokevirtual 75, 3) := by decide +kernel
theorem dX0_owners_5 : decode cX0_owners 5 = .ok (.iload_n 2, 1) := by decide +kernel
theorem dX0_owners_6 : decode cX0_owners 6 = .ok (.invokestatic 78, 3) := by decide +kernel
theorem dX0_owners_9 : decode cX0_owners 9 = .ok (.iconst 0, 1) := by decide +kernel
theorem dX0_owners_10 : decode cX0_owners 10 = .ok (.istore_n 3, 1) := by decide +kernel
theorem dX0_owners_11 : decode cX0_owners 11 = .ok (.iconst 0, 1) := by decide +kernel
theorem dX0_owners_12 : decode cX0_owners 12 = .ok (.istore 4, 2) := by decide +kernel
theorem dX0_owners_14 : decode cX0_owners 14 = .ok (.iload 4, 2) := by decide +kernel
theorem dX0_owners_16 : decode cX0_owners 16 = .ok (.aload_n 0, 1) := by decide +kernel
theorem dX0_owners_17 : decode cX0_owners 17 = .ok (.getfield 23, 3) := by decide +kernel
theorem dX0_owners_20 : decode cX0_owners 20 = .ok (.if_icmp .ge 23, 3) := by decide +kernel
theorem dX0_owners_23 : decode cX0_owners 23 = .ok (.aload_n 0, 1) := by decide +kernel
theorem dX0_owners_24 : decode cX0_owners 24 = .ok (.iload_n 1, 1) := by decide +kernel
theorem dX0_owners_25 : decode cX0_owners 25 = .ok (.iload_n 2, 1) := by decide +kernel
theorem dX0_owners_26 : decode cX0_owners 26 = .ok (.iload 4, 2) := by decide +kernel
theorem dX0_owners_28 : decode cX0_owners 28 = .ok (.invokevirtual 96, 3) := by decide +kernel
theorem dX0_owners_31 : decode cX0_owners 31 = .ok (.ifCond .le 6, 3) := by decide +kernel
theorem dX0_owners_34 : decode cX0_owners 34 = .ok (.iinc 3 1, 3) := by decide +kernel
theorem dX0_owners_37 : decode cX0_owners 37 = .ok (.iinc 4 1, 3) := by decide +kernel
theorem dX0_owners_40 : decode cX0_owners 40 = .ok (.goto (-26), 3) := by decide +kernel
theorem dX0_owners_43 : decode cX0_owners 43 = .ok (.iload_n 3, 1) := by decide +kernel
theorem dX0_owners_44 : decode cX0_owners 44 = .ok (.ireturn, 1) := by decide +kernel
set_option maxRecDepth 20000 in
theorem ggX0_holder_X0_needFerry : GoodIn wsX0_holder wsX0_needFerry := goodIn_ca (goodIn_r _ [8, 9, 10, 11, 23, 24, 25, 26, 27, 28, 29, 30, 31, 32] (by decide +kernel) (by decide +kernel)) (goodIn_sub (fun _ h => List.mem_cons_of_mem _ (List.mem_append_right _ h)) (by decide +kernel))
set_option maxRecDepth 20000 in
theorem gX0_holder_X0_needFerry : GoodIn wsX0_holder (wsV RX0 75 RX0 yX0_needFerry wsX0_needFerry) := goodIn_app (goodIn_of _ (by decide +kernel)) ggX0_holder_X0_needFerry
set_option maxRecDepth 20000 in
theorem ggX0_holder_X0_needWatch : GoodIn wsX0_holder wsX0_needWatch := goodIn_ca (goodIn_r _ [14, 9, 10] (by decide +kernel) (by decide +kernel)) (goodIn_sub (fun _ h => List.mem_cons_of_mem _ (List.mem_append_right _ h)) (by decide +kernel))
set_option maxRecDepth 20000 in
theorem gX0_holder_X0_needWatch : GoodIn wsX0_holder (va_wsS RX0 78 yX0_needWatch wsX0_needWatch) := goodIn_app (goodIn_of _ (by decide +kernel)) ggX0_holder_X0_needWatch
set_option maxRecDepth 20000 in
theorem ggX0_holder_X0_owns : GoodIn wsX0_holder wsX0_owns := goodIn_r _ [18, 19, 20, 21, 7, 22, 23, 24, 25, 26, 27, 28, 29, 30, 31, 32] (by decide +kernel) (by decide +kernel)
set_option maxRecDepth 20000 in
theorem gX0_holder_X0_owns : GoodIn wsX0_holder (wsV RX0 96 RX0 yX0_owns wsX0_owns) := goodIn_app (goodIn_of _ (by decide +kernel)) ggX0_holder_X0_owns
theorem dX0_holder_0 : decode cX0_holder 0 = .ok (.aload_n 0, 1) := by decide +kernel
theorem dX0_holder_1 : decode cX0_holder 1 = .ok (.iload_n 1, 1) := by decide +kernel
theorem dX0_holder_2 : decode cX0_holder 2 = .ok (.invokevirtual 75, 3) := by decide +kernel
theorem dX0_holder_5 : decode cX0_holder 5 = .ok (.iload_n 2, 1) := by decide +kernel
theorem dX0_holder_6 : decode cX0_holder 6 = .ok (.invokestatic 78, 3) := by decide +kernel
theorem dX0_holder_9 : decode cX0_holder 9 = .ok (.iconst (-1), 1) := by decide +kernel
theorem dX0_holder_10 : decode cX0_holder 10 = .ok (.istore_n 3, 1) := by decide +kernel
theorem dX0_holder_11 : decode cX0_holder 11 = .ok (.iconst 0, 1) := by decide +kernel
theorem dX0_holder_12 : decode cX0_holder 12 = .ok (.istore 4, 2) := by decide +kernel
theorem dX0_holder_14 : decode cX0_holder 14 = .ok (.iconst 0, 1) := by decide +kernel
theorem dX0_holder_15 : decode cX0_holder 15 = .ok (.istore 5, 2) := by decide +kernel
theorem dX0_holder_17 : decode cX0_holder 17 = .ok (.iload 5, 2) := by decide +kernel
theorem dX0_holder_19 : decode cX0_holder 19 = .ok (.aload_n 0, 1) := by decide +kernel
theorem dX0_holder_20 : decode cX0_holder 20 = .ok (.getfield 23, 3) := by decide +kernel
theorem dX0_holder_23 : decode cX0_holder 23 = .ok (.if_icmp .ge 33, 3) := by decide +kernel
theorem dX0_holder_26 : decode cX0_holder 26 = .ok (.aload_n 0, 1) := by decide +kernel
theorem dX0_holder_27 : decode cX0_holder 27 = .ok (.iload_n 1, 1) := by decide +kernel
theorem dX0_holder_28 : decode cX0_holder 28 = .ok (.iload_n 2, 1) := by decide +kernel
theorem dX0_holder_29 : decode cX0_holder 29 = .ok (.iload 5, 2) := by decide +kernel
theorem dX0_holder_31 : decode cX0_holder 31 = .ok (.invokevirtual 96, 3) := by decide +kernel
theorem dX0_holder_34 : decode cX0_holder 34 = .ok (.istore 6, 2) := by decide +kernel
theorem dX0_holder_36 : decode cX0_holder 36 = .ok (.iload 6, 2) := by decide +kernel
theorem dX0_holder_38 : decode cX0_holder 38 = .ok (.iload 4, 2) := by decide +kernel
theorem dX0_holder_40 : decode cX0_holder 40 = .ok (.if_icmp .le 10, 3) := by decide +kernel
theorem dX0_holder_43 : decode cX0_holder 43 = .ok (.iload 5, 2) := by decide +kernel
theorem dX0_holder_45 : decode cX0_holder 45 = .ok (.istore_n 3, 1) := by decide +kernel
theorem dX0_holder_46 : decode cX0_holder 46 = .ok (.iload 6, 2) := by decide +kernel
theorem dX0_holder_48 : decode cX0_holder 48 = .ok (.istore 4, 2) := by decide +kernel
theorem dX0_holder_50 : decode cX0_holder 50 = .ok (.iinc 5 1, 3) := by decide +kernel
theorem dX0_holder_53 : decode cX0_holder 53 = .ok (.goto (-36), 3) := by decide +kernel
theorem dX0_holder_56 : decode cX0_holder 56 = .ok (.iload_n 3, 1) := by decide +kernel
theorem dX0_holder_57 : decode cX0_holder 57 = .ok (.iconst (-1), 1) := by decide +kernel
theorem dX0_holder_58 : decode cX0_holder 58 = .ok (.if_icmp .ne 13, 3) := by decide +kernel
theorem dX0_holder_61 : decode cX0_holder 61 = .ok (.new 46, 3) := by decide +kernel
theorem dX0_holder_64 : decode cX0_holder 64 = .ok (.dup, 1) := by decide +kernel
theorem dX0_holder_65 : decode cX0_holder 65 = .ok (.ldc 142, 2) := by decide +kernel
theorem dX0_holder_67 : decode cX0_holder 67 = .ok (.invokespecial 50, 3) := by decide +kernel
theorem dX0_holder_70 : decode cX0_holder 70 = .ok (.athrow, 1) := by decide +kernel
theorem dX0_holder_71 : decode cX0_holder 71 = .ok (.iload_n 3, 1) := by decide +kernel
theorem dX0_holder_72 : decode cX0_holder 72 = .ok (.ireturn, 1) := by decide +kernel
set_option maxRecDepth 20000 in
theorem ggX0_master_X0_needFerry : GoodIn wsX0_master wsX0_needFerry := goodIn_ca (goodIn_r _ [7, 8, 9, 10, 28, 29, 30, 31, 32, 33, 34, 35, 36, 37] (by decide +kernel) (by decide +kernel)) (goodIn_sub (fun _ h => List.mem_cons_of_mem _ (List.mem_append_right _ h)) (by decide +kernel))
set_option maxRecDepth 20000 in
theorem gX0_master_X0_needFerry : GoodIn wsX0_master (wsV RX0 75 RX0 yX0_needFerry wsX0_needFerry) := goodIn_app (goodIn_of _ (by decide +kernel)) ggX0_master_X0_needFerry
set_option maxRecDepth 20000 in
theorem ggX0_master_X0_findMaster : GoodIn wsX0_master wsX0_findMaster := goodIn_r _ [14, 15, 16, 17, 18, 6, 19, 20, 21, 22, 23, 24, 25, 26, 27, 28, 29, 30, 31, 32, 33, 34, 35, 36, 37] (by decide +kernel) (by decide +kernel)
set_option maxRecDepth 20000 in
theorem gX0_master_X0_findMaster : GoodIn wsX0_master (wsV RX0 114 RX0 yX0_findMaster wsX0_findMaster) := goodIn_app (goodIn_of _ (by decide +kernel)) ggX0_master_X0_findMaster
theorem dX0_master_0 : decode cX0_master 0 = .ok (.aload_n 0, 1) := by decide +kernel
theorem dX0_master_1 : decode cX0_master 1 = .ok (.iload_n 1, 1) := by decide +kernel
theorem dX0_master_2 : decode cX0_master 2 = .ok (.invokevirtual 75, 3) := by decide +kernel
theorem dX0_master_5 : decode cX0_master 5 = .ok (.aload_n 0, 1) := by decide +kernel
theorem dX0_master_6 : decode cX0_master 6 = .ok (.iload_n 1, 1) := by decide +kernel
theorem dX0_master_7 : decode cX0_master 7 = .ok (.invokevirtual 114, 3) := by decide +kernel
theorem dX0_master_10 : decode cX0_master 10 = .ok (.istore_n 2, 1) := by decide +kernel
theorem dX0_master_11 : decode cX0_master 11 = .ok (.iload_n 2, 1) := by decide +kernel
theorem dX0_master_12 : decode cX0_master 12 = .ok (.iconst (-1), 1) := by decide +kernel
theorem dX0_master_13 : decode cX0_master 13 = .ok (.if_icmp .ne 13, 3) := by decide +kernel
theorem dX0_master_16 : decode cX0_master 16 = .ok (.new 46, 3) := by decide +kernel
theorem dX0_master_19 : decode cX0_master 19 = .ok (.dup, 1) := by decide +kernel
theorem dX0_master_20 : decode cX0_master 20 = .ok (.ldc 144, 2) := by decide +kernel
theorem dX0_master_22 : decode cX0_master 22 = .ok (.invokespecial 50, 3) := by decide +kernel
theorem dX0_master_25 : decode cX0_master 25 = .ok (.athrow, 1) := by decide +kernel
theorem dX0_master_26 : decode cX0_master 26 = .ok (.iload_n 2, 1) := by decide +kernel
theorem dX0_master_27 : decode cX0_master 27 = .ok (.ireturn, 1) := by decide +kernel
set_option maxRecDepth 20000 in
theorem ggX0_hasMaster_X0_needFerry : GoodIn wsX0_hasMaster wsX0_needFerry := goodIn_ca (goodIn_r _ [5, 6, 7, 8, 26, 27, 28, 29, 30, 31, 32, 33, 34, 35] (by decide +kernel) (by decide +kernel)) (goodIn_sub (fun _ h => List.mem_cons_of_mem _ (List.mem_append_right _ h)) (by decide +kernel))
set_option maxRecDepth 20000 in
theorem gX0_hasMaster_X0_needFerry : GoodIn wsX0_hasMaster (wsV RX0 75 RX0 yX0_needFerry wsX0_needFerry) := goodIn_app (goodIn_of _ (by decide +kernel)) ggX0_hasMaster_X0_needFerry
set_option maxRecDepth 20000 in
theorem ggX0_hasMaster_X0_findMaster : GoodIn wsX0_hasMaster wsX0_findMaster := goodIn_r _ [12, 13, 14, 15, 16, 4, 17, 18, 19, 20, 21, 22, 23, 24, 25, 26, 27, 28, 29, 30, 31, 32, 33, 34, 35] (by decide +kernel) (by decide +kernel)
set_option maxRecDepth 20000 in
theorem gX0_hasMaster_X0_findMaster : GoodIn wsX0_hasMaster (wsV RX0 114 RX0 yX0_findMaster wsX0_findMaster) := goodIn_app (goodIn_of _ (by decide +kernel)) ggX0_hasMaster_X0_findMaster
theorem dX0_hasMaster_0 : decode cX0_hasMaster 0 = .ok (.aload_n 0, 1) := by decide +kernel
theorem dX0_hasMaster_1 : decode cX0_hasMaster 1 = .ok (.iload_n 1, 1) := by decide +kernel
theorem dX0_hasMaster_2 : decode cX0_hasMaster 2 = .ok (.invokevirtual 75, 3) := by decide +kernel
theorem dX0_hasMaster_5 : decode cX0_hasMaster 5 = .ok (.aload_n 0, 1) := by decide +kernel
theorem dX0_hasMaster_6 : decode cX0_hasMaster 6 = .ok (.iload_n 1, 1) := by decide +kernel
theorem dX0_hasMaster_7 : decode cX0_hasMaster 7 = .ok (.invokevirtual 114, 3) := by decide +kernel
theorem dX0_hasMaster_10 : decode cX0_hasMaster 10 = .ok (.iconst (-1), 1) := by decide +kernel
theorem dX0_hasMaster_11 : decode cX0_hasMaster 11 = .ok (.if_icmp .eq 7, 3) := by decide +kernel
theorem dX0_hasMaster_14 : decode cX0_hasMaster 14 = .ok (.iconst 1, 1) := by decide +kernel
theorem dX0_hasMaster_15 : decode cX0_hasMaster 15 = .ok (.goto 4, 3) := by decide +kernel
theorem dX0_hasMaster_18 : decode cX0_hasMaster 18 = .ok (.iconst 0, 1) := by decide +kernel
theorem dX0_hasMaster_19 : decode cX0_hasMaster 19 = .ok (.ireturn, 1) := by decide +kernel
set_option maxRecDepth 20000 in
theorem ggX0_shareValue_X0_needFerry : GoodIn wsX0_shareValue wsX0_needFerry := goodIn_ca (goodIn_r _ [5, 6, 7, 8, 18, 19, 20, 21, 22, 23, 24, 25, 26, 27] (by decide +kernel) (by decide +kernel)) (goodIn_sub (fun _ h => List.mem_cons_of_mem _ (List.mem_append_right _ h)) (by decide +kernel))
set_option maxRecDepth 20000 in
theorem gX0_shareValue_X0_needFerry : GoodIn wsX0_shareValue (wsV RX0 75 RX0 yX0_needFerry wsX0_needFerry) := goodIn_app (goodIn_of _ (by decide +kernel)) ggX0_shareValue_X0_needFerry
set_option maxRecDepth 20000 in
theorem ggX0_shareValue_X0_needWatch : GoodIn wsX0_shareValue wsX0_needWatch := goodIn_ca (goodIn_r _ [11, 6, 7] (by decide +kernel) (by decide +kernel)) (goodIn_sub (fun _ h => List.mem_cons_of_mem _ (List.mem_append_right _ h)) (by decide +kernel))
set_option maxRecDepth 20000 in
theorem gX0_shareValue_X0_needWatch : GoodIn wsX0_shareValue (va_wsS RX0 78 yX0_needWatch wsX0_needWatch) := goodIn_app (goodIn_of _ (by decide +kernel)) ggX0_shareValue_X0_needWatch
set_option maxRecDepth 20000 in
theorem ggX0_shareValue_X0_worth : GoodIn wsX0_shareValue wsX0_worth := goodIn_r _ [15, 16, 17, 18, 19, 20, 21, 22, 23, 24, 25, 26, 27] (by decide +kernel) (by decide +kernel)
set_option maxRecDepth 20000 in
theorem gX0_shareValue_X0_worth : GoodIn wsX0_shareValue (wsV RX0 146 RX0 yX0_worth wsX0_worth) := goodIn_app (goodIn_of _ (by decide +kernel)) ggX0_shareValue_X0_worth
theorem dX0_shareValue_0 : decode cX0_shareValue 0 = .ok (.aload_n 0, 1) := by decide +kernel
theorem dX0_shareValue_1 : decode cX0_shareValue 1 = .ok (.iload_n 1, 1) := by decide +kernel
theorem dX0_shareValue_2 : decode cX0_shareValue 2 = .ok (.invokevirtual 75, 3) := by decide +kernel
theorem dX0_shareValue_5 : decode cX0_shareValue 5 = .ok (.iload_n 2, 1) := by decide +kernel
theorem dX0_shareValue_6 : decode cX0_shareValue 6 = .ok (.invokestatic 78, 3) := by decide +kernel
theorem dX0_shareValue_9 : decode cX0_shareValue 9 = .ok (.aload_n 0, 1) := by decide +kernel
theorem dX0_shareValue_10 : decode cX0_shareValue 10 = .ok (.iload_n 1, 1) := by decide +kernel
theorem dX0_shareValue_11 : decode cX0_shareValue 11 = .ok (.iload_n 2, 1) := by decide +kernel
theorem dX0_shareValue_12 : decode cX0_shareValue 12 = .ok (.invokevirtual 146, 3) := by decide +kernel
theorem dX0_shareValue_15 : decode cX0_shareValue 15 = .ok (.ireturn, 1) := by decide +kernel
theorem dX0_people_0 : decode cX0_people 0 = .ok (.aload_n 0, 1) := by decide +kernel
theorem dX0_people_1 : decode cX0_people 1 = .ok (.getfield 23, 3) := by decide +kernel
theorem dX0_people_4 : decode cX0_people 4 = .ok (.ireturn, 1) := by decide +kernel
theorem dX0_living_0 : decode cX0_living 0 = .ok (.iconst 0, 1) := by decide +kernel
theorem dX0_living_1 : decode cX0_living 1 = .ok (.istore_n 1, 1) := by decide +kernel
theorem dX0_living_2 : decode cX0_living 2 = .ok (.iconst 0, 1) := by decide +kernel
theorem dX0_living_3 : decode cX0_living 3 = .ok (.istore_n 2, 1) := by decide +kernel
theorem dX0_living_4 : decode cX0_living 4 = .ok (.iload_n 2, 1) := by decide +kernel
theorem dX0_living_5 : decode cX0_living 5 = .ok (.aload_n 0, 1) := by decide +kernel
theorem dX0_living_6 : decode cX0_living 6 = .ok (.getfield 23, 3) := by decide +kernel
theorem dX0_living_9 : decode cX0_living 9 = .ok (.if_icmp .ge 21, 3) := by decide +kernel
theorem dX0_living_12 : decode cX0_living 12 = .ok (.aload_n 0, 1) := by decide +kernel
theorem dX0_living_13 : decode cX0_living 13 = .ok (.getfield 26, 3) := by decide +kernel
theorem dX0_living_16 : decode cX0_living 16 = .ok (.iload_n 2, 1) := by decide +kernel
theorem dX0_living_17 : decode cX0_living 17 = .ok (.baload, 1) := by decide +kernel
theorem dX0_living_18 : decode cX0_living 18 = .ok (.ifCond .eq 6, 3) := by decide +kernel
theorem dX0_living_21 : decode cX0_living 21 = .ok (.iinc 1 1, 3) := by decide +kernel
theorem dX0_living_24 : decode cX0_living 24 = .ok (.iinc 2 1, 3) := by decide +kernel
theorem dX0_living_27 : decode cX0_living 27 = .ok (.goto (-23), 3) := by decide +kernel
theorem dX0_living_30 : decode cX0_living 30 = .ok (.iload_n 1, 1) := by decide +kernel
theorem dX0_living_31 : decode cX0_living 31 = .ok (.ireturn, 1) := by decide +kernel
set_option maxRecDepth 20000 in
theorem ggX0_isAlive_X0_needPerson : GoodIn wsX0_isAlive wsX0_needPerson := goodIn_ca (goodIn_r _ [6, 7, 8, 9, 10, 11, 12, 13, 14, 15, 16, 17, 18, 19] (by decide +kernel) (by decide +kernel)) (goodIn_sub (fun _ h => List.mem_cons_of_mem _ (List.mem_append_right _ h)) (by decide +kernel))
set_option maxRecDepth 20000 in
theorem gX0_isAlive_X0_needPerson : GoodIn wsX0_isAlive (wsV RX0 60 RX0 yX0_needPerson wsX0_needPerson) := goodIn_app (goodIn_of _ (by decide +kernel)) ggX0_isAlive_X0_needPerson
theorem dX0_isAlive_0 : decode cX0_isAlive 0 = .ok (.aload_n 0, 1) := by decide +kernel
theorem dX0_isAlive_1 : decode cX0_isAlive 1 = .ok (.iload_n 1, 1) := by decide +kernel
theorem dX0_isAlive_2 : decode cX0_isAlive 2 = .ok (.invokevirtual 60, 3) := by decide +kernel
theorem dX0_isAlive_5 : decode cX0_isAlive 5 = .ok (.aload_n 0, 1) := by decide +kernel
theorem dX0_isAlive_6 : decode cX0_isAlive 6 = .ok (.getfield 26, 3) := by decide +kernel
theorem dX0_isAlive_9 : decode cX0_isAlive 9 = .ok (.iload_n 1, 1) := by decide +kernel
theorem dX0_isAlive_10 : decode cX0_isAlive 10 = .ok (.baload, 1) := by decide +kernel
theorem dX0_isAlive_11 : decode cX0_isAlive 11 = .ok (.ireturn, 1) := by decide +kernel
set_option maxRecDepth 20000 in
theorem ggX0_coins_X0_needPerson : GoodIn wsX0_coins wsX0_needPerson := goodIn_ca (goodIn_r _ [6, 7, 8, 9, 10, 11, 12, 13, 14, 15, 16, 17, 18, 19] (by decide +kernel) (by decide +kernel)) (goodIn_sub (fun _ h => List.mem_cons_of_mem _ (List.mem_append_right _ h)) (by decide +kernel))
set_option maxRecDepth 20000 in
theorem gX0_coins_X0_needPerson : GoodIn wsX0_coins (wsV RX0 60 RX0 yX0_needPerson wsX0_needPerson) := goodIn_app (goodIn_of _ (by decide +kernel)) ggX0_coins_X0_needPerson
theorem dX0_coins_0 : decode cX0_coins 0 = .ok (.aload_n 0, 1) := by decide +kernel
theorem dX0_coins_1 : decode cX0_coins 1 = .ok (.iload_n 1, 1) := by decide +kernel
theorem dX0_coins_2 : decode cX0_coins 2 = .ok (.invokevirtual 60, 3) := by decide +kernel
theorem dX0_coins_5 : decode cX0_coins 5 = .ok (.aload_n 0, 1) := by decide +kernel
theorem dX0_coins_6 : decode cX0_coins 6 = .ok (.getfield 30, 3) := by decide +kernel
theorem dX0_coins_9 : decode cX0_coins 9 = .ok (.iload_n 1, 1) := by decide +kernel
theorem dX0_coins_10 : decode cX0_coins 10 = .ok (.iaload, 1) := by decide +kernel
theorem dX0_coins_11 : decode cX0_coins 11 = .ok (.ireturn, 1) := by decide +kernel
set_option maxRecDepth 20000 in
theorem ggX0_earned_X0_needPerson : GoodIn wsX0_earned wsX0_needPerson := goodIn_ca (goodIn_r _ [6, 7, 8, 9, 10, 11, 12, 13, 14, 15, 16, 17, 18, 19] (by decide +kernel) (by decide +kernel)) (goodIn_sub (fun _ h => List.mem_cons_of_mem _ (List.mem_append_right _ h)) (by decide +kernel))
set_option maxRecDepth 20000 in
theorem gX0_earned_X0_needPerson : GoodIn wsX0_earned (wsV RX0 60 RX0 yX0_needPerson wsX0_needPerson) := goodIn_app (goodIn_of _ (by decide +kernel)) ggX0_earned_X0_needPerson
theorem dX0_earned_0 : decode cX0_earned 0 = .ok (.aload_n 0, 1) := by decide +kernel
theorem dX0_earned_1 : decode cX0_earned 1 = .ok (.iload_n 1, 1) := by decide +kernel
theorem dX0_earned_2 : decode cX0_earned 2 = .ok (.invokevirtual 60, 3) := by decide +kernel
theorem dX0_earned_5 : decode cX0_earned 5 = .ok (.aload_n 0, 1) := by decide +kernel
theorem dX0_earned_6 : decode cX0_earned 6 = .ok (.getfield 33, 3) := by decide +kernel
theorem dX0_earned_9 : decode cX0_earned 9 = .ok (.iload_n 1, 1) := by decide +kernel
theorem dX0_earned_10 : decode cX0_earned 10 = .ok (.iaload, 1) := by decide +kernel
theorem dX0_earned_11 : decode cX0_earned 11 = .ok (.ireturn, 1) := by decide +kernel
set_option maxRecDepth 20000 in
theorem ggX0_allShares_X0_needPerson : GoodIn wsX0_allShares wsX0_needPerson := goodIn_ca (goodIn_r _ [5, 6, 7, 8, 26, 27, 28, 29, 30, 31, 32, 33, 34, 35] (by decide +kernel) (by decide +kernel)) (goodIn_sub (fun _ h => List.mem_cons_of_mem _ (List.mem_append_right _ h)) (by decide +kernel))
set_option maxRecDepth 20000 in
theorem gX0_allShares_X0_needPerson : GoodIn wsX0_allShares (wsV RX0 60 RX0 yX0_needPerson wsX0_needPerson) := goodIn_app (goodIn_of _ (by decide +kernel)) ggX0_allShares_X0_needPerson
set_option maxRecDepth 20000 in
theorem ggX0_allShares_X0_countAllShares : GoodIn wsX0_allShares wsX0_countAllShares := goodIn_r _ [12, 13, 14, 15, 16, 4, 17, 18, 19, 20, 21, 22, 23, 24, 25, 26, 27, 28, 29, 30, 31, 32, 33, 34, 35] (by decide +kernel) (by decide +kernel)
set_option maxRecDepth 20000 in
theorem gX0_allShares_X0_countAllShares : GoodIn wsX0_allShares (wsV RX0 149 RX0 yX0_countAllShares wsX0_countAllShares) := goodIn_app (goodIn_of _ (by decide +kernel)) ggX0_allShares_X0_countAllShares
theorem dX0_allShares_0 : decode cX0_allShares 0 = .ok (.aload_n 0, 1) := by decide +kernel
theorem dX0_allShares_1 : decode cX0_allShares 1 = .ok (.iload_n 1, 1) := by decide +kernel
theorem dX0_allShares_2 : decode cX0_allShares 2 = .ok (.invokevirtual 60, 3) := by decide +kernel
theorem dX0_allShares_5 : decode cX0_allShares 5 = .ok (.aload_n 0, 1) := by decide +kernel
theorem dX0_allShares_6 : decode cX0_allShares 6 = .ok (.iload_n 1, 1) := by decide +kernel
theorem dX0_allShares_7 : decode cX0_allShares 7 = .ok (.invokevirtual 149, 3) := by decide +kernel
theorem dX0_allShares_10 : decode cX0_allShares 10 = .ok (.ireturn, 1) := by decide +kernel
set_option maxRecDepth 20000 in
theorem ggX0_hasParent_X0_needPerson : GoodIn wsX0_hasParent wsX0_needPerson := goodIn_ca (goodIn_r _ [6, 7, 8, 9, 10, 11, 12, 13, 14, 15, 16, 17, 18, 19] (by decide +kernel) (by decide +kernel)) (goodIn_sub (fun _ h => List.mem_cons_of_mem _ (List.mem_append_right _ h)) (by decide +kernel))
set_option maxRecDepth 20000 in
theorem gX0_hasParent_X0_needPerson : GoodIn wsX0_hasParent (wsV RX0 60 RX0 yX0_needPerson wsX0_needPerson) := goodIn_app (goodIn_of _ (by decide +kernel)) ggX0_hasParent_X0_needPerson
theorem dX0_hasParent_0 : decode cX0_hasParent 0 = .ok (.aload_n 0, 1) := by decide +kernel
theorem dX0_hasParent_1 : decode cX0_hasParent 1 = .ok (.iload_n 1, 1) := by decide +kernel
theorem dX0_hasParent_2 : decode cX0_hasParent 2 = .ok (.invokevirtual 60, 3) := by decide +kernel
theorem dX0_hasParent_5 : decode cX0_hasParent 5 = .ok (.aload_n 0, 1) := by decide +kernel
theorem dX0_hasParent_6 : decode cX0_hasParent 6 = .ok (.getfield 36, 3) := by decide +kernel
theorem dX0_hasParent_9 : decode cX0_hasParent 9 = .ok (.iload_n 1, 1) := by decide +kernel
theorem dX0_hasParent_10 : decode cX0_hasParent 10 = .ok (.iaload, 1) := by decide +kernel
theorem dX0_hasParent_11 : decode cX0_hasParent 11 = .ok (.iconst (-1), 1) := by decide +kernel
theorem dX0_hasParent_12 : decode cX0_hasParent 12 = .ok (.if_icmp .eq 7, 3) := by decide +kernel
theorem dX0_hasParent_15 : decode cX0_hasParent 15 = .ok (.iconst 1, 1) := by decide +kernel
theorem dX0_hasParent_16 : decode cX0_hasParent 16 = .ok (.goto 4, 3) := by decide +kernel
theorem dX0_hasParent_19 : decode cX0_hasParent 19 = .ok (.iconst 0, 1) := by decide +kernel
theorem dX0_hasParent_20 : decode cX0_hasParent 20 = .ok (.ireturn, 1) := by decide +kernel
set_option maxRecDepth 20000 in
theorem ggX0_parent_X0_needPerson : GoodIn wsX0_parent wsX0_needPerson := goodIn_ca (goodIn_r _ [8, 9, 10, 11, 12, 13, 14, 15, 16, 17, 18, 19, 20, 21] (by decide +kernel) (by decide +kernel)) (goodIn_sub (fun _ h => List.mem_cons_of_mem _ (List.mem_append_right _ h)) (by decide +kernel))
set_option maxRecDepth 20000 in
theorem gX0_parent_X0_needPerson : GoodIn wsX0_parent (wsV RX0 60 RX0 yX0_needPerson wsX0_needPerson) := goodIn_app (goodIn_of _ (by decide +kernel)) ggX0_parent_X0_needPerson
theorem dX0_parent_0 : decode cX0_parent 0 = .ok (.aload_n 0, 1) := by decide +kernel
theorem dX0_parent_1 : decode cX0_parent 1 = .ok (.iload_n 1, 1) := by decide +kernel
theorem dX0_parent_2 : decode cX0_parent 2 = .ok (.invokevirtual 60, 3) := by decide +kernel
theorem dX0_parent_5 : decode cX0_parent 5 = .ok (.aload_n 0, 1) := by decide +kernel
theorem dX0_parent_6 : decode cX0_parent 6 = .ok (.getfield 36, 3) := by decide +kernel
theorem dX0_parent_9 : decode cX0_parent 9 = .ok (.iload_n 1, 1) := by decide +kernel
theorem dX0_parent_10 : decode cX0_parent 10 = .ok (.iaload, 1) := by decide +kernel
theorem dX0_parent_11 : decode cX0_parent 11 = .ok (.iconst (-1), 1) := by decide +kernel
theorem dX0_parent_12 : decode cX0_parent 12 = .ok (.if_icmp .ne 13, 3) := by decide +kernel
theorem dX0_parent_15 : decode cX0_parent 15 = .ok (.new 46, 3) := by decide +kernel
theorem dX0_parent_18 : decode cX0_parent 18 = .ok (.dup, 1) := by decide +kernel
theorem dX0_parent_19 : decode cX0_parent 19 = .ok (.ldc 152, 2) := by decide +kernel
theorem dX0_parent_21 : decode cX0_parent 21 = .ok (.invokespecial 50, 3) := by decide +kernel
theorem dX0_parent_24 : decode cX0_parent 24 = .ok (.athrow, 1) := by decide +kernel
theorem dX0_parent_25 : decode cX0_parent 25 = .ok (.aload_n 0, 1) := by decide +kernel
theorem dX0_parent_26 : decode cX0_parent 26 = .ok (.getfield 36, 3) := by decide +kernel
theorem dX0_parent_29 : decode cX0_parent 29 = .ok (.iload_n 1, 1) := by decide +kernel
theorem dX0_parent_30 : decode cX0_parent 30 = .ok (.iaload, 1) := by decide +kernel
theorem dX0_parent_31 : decode cX0_parent 31 = .ok (.ireturn, 1) := by decide +kernel
set_option maxRecDepth 20000 in
theorem ggX0_children_X0_needPerson : GoodIn wsX0_children wsX0_needPerson := goodIn_ca (goodIn_r _ [5, 6, 7, 8, 14, 15, 16, 17, 18, 19, 20, 21, 22, 23] (by decide +kernel) (by decide +kernel)) (goodIn_sub (fun _ h => List.mem_cons_of_mem _ (List.mem_append_right _ h)) (by decide +kernel))
set_option maxRecDepth 20000 in
theorem gX0_children_X0_needPerson : GoodIn wsX0_children (wsV RX0 60 RX0 yX0_needPerson wsX0_needPerson) := goodIn_app (goodIn_of _ (by decide +kernel)) ggX0_children_X0_needPerson
set_option maxRecDepth 20000 in
theorem ggX0_children_X0_countChildren : GoodIn wsX0_children wsX0_countChildren := goodIn_r _ [12, 8, 13, 14, 15, 16, 17, 18, 19, 20, 21, 22, 23] (by decide +kernel) (by decide +kernel)
set_option maxRecDepth 20000 in
theorem gX0_children_X0_countChildren : GoodIn wsX0_children (wsV RX0 154 RX0 yX0_countChildren wsX0_countChildren) := goodIn_app (goodIn_of _ (by decide +kernel)) ggX0_children_X0_countChildren
theorem dX0_children_0 : decode cX0_children 0 = .ok (.aload_n 0, 1) := by decide +kernel
theorem dX0_children_1 : decode cX0_children 1 = .ok (.iload_n 1, 1) := by decide +kernel
theorem dX0_children_2 : decode cX0_children 2 = .ok (.invokevirtual 60, 3) := by decide +kernel
theorem dX0_children_5 : decode cX0_children 5 = .ok (.aload_n 0, 1) := by decide +kernel
theorem dX0_children_6 : decode cX0_children 6 = .ok (.iload_n 1, 1) := by decide +kernel
theorem dX0_children_7 : decode cX0_children 7 = .ok (.invokevirtual 154, 3) := by decide +kernel
theorem dX0_children_10 : decode cX0_children 10 = .ok (.ireturn, 1) := by decide +kernel
set_option maxRecDepth 20000 in
theorem ggX0_heirs_X0_needPerson : GoodIn wsX0_heirs wsX0_needPerson := goodIn_ca (goodIn_r _ [5, 6, 7, 8, 27, 28, 29, 30, 31, 32, 33, 34, 35, 36] (by decide +kernel) (by decide +kernel)) (goodIn_sub (fun _ h => List.mem_cons_of_mem _ (List.mem_append_right _ h)) (by decide +kernel))
set_option maxRecDepth 20000 in
theorem gX0_heirs_X0_needPerson : GoodIn wsX0_heirs (wsV RX0 60 RX0 yX0_needPerson wsX0_needPerson) := goodIn_app (goodIn_of _ (by decide +kernel)) ggX0_heirs_X0_needPerson
set_option maxRecDepth 20000 in
theorem ggX0_heirs_X0_countHeirs : GoodIn wsX0_heirs wsX0_countHeirs := goodIn_r _ [12, 8, 13, 14, 15, 4, 16, 17, 18, 19, 20, 21, 22, 23, 24, 25, 26, 27, 28, 29, 30, 31, 32, 33, 34, 35, 36] (by decide +kernel) (by decide +kernel)
set_option maxRecDepth 20000 in
theorem gX0_heirs_X0_countHeirs : GoodIn wsX0_heirs (wsV RX0 129 RX0 yX0_countHeirs wsX0_countHeirs) := goodIn_app (goodIn_of _ (by decide +kernel)) ggX0_heirs_X0_countHeirs
theorem dX0_heirs_0 : decode cX0_heirs 0 = .ok (.aload_n 0, 1) := by decide +kernel
theorem dX0_heirs_1 : decode cX0_heirs 1 = .ok (.iload_n 1, 1) := by decide +kernel
theorem dX0_heirs_2 : decode cX0_heirs 2 = .ok (.invokevirtual 60, 3) := by decide +kernel
theorem dX0_heirs_5 : decode cX0_heirs 5 = .ok (.aload_n 0, 1) := by decide +kernel
theorem dX0_heirs_6 : decode cX0_heirs 6 = .ok (.iload_n 1, 1) := by decide +kernel
theorem dX0_heirs_7 : decode cX0_heirs 7 = .ok (.invokevirtual 129, 3) := by decide +kernel
theorem dX0_heirs_10 : decode cX0_heirs 10 = .ok (.ireturn, 1) := by decide +kernel
set_option maxRecDepth 20000 in
theorem ggX0_heir_X0_needPerson : GoodIn wsX0_heir wsX0_needPerson := goodIn_ca (goodIn_r _ [7, 1, 2, 8, 23, 24, 25, 26, 27, 28, 29, 30, 31, 32] (by decide +kernel) (by decide +kernel)) (goodIn_sub (fun _ h => List.mem_cons_of_mem _ (List.mem_append_right _ h)) (by decide +kernel))
set_option maxRecDepth 20000 in
theorem gX0_heir_X0_needPerson : GoodIn wsX0_heir (wsV RX0 60 RX0 yX0_needPerson wsX0_needPerson) := goodIn_app (goodIn_of _ (by decide +kernel)) ggX0_heir_X0_needPerson
set_option maxRecDepth 20000 in
theorem ggX0_heir_X0_findHeir : GoodIn wsX0_heir wsX0_findHeir := goodIn_r _ [12, 8, 13, 14, 15, 6, 16, 17, 18, 19, 20, 21, 22, 23, 24, 25, 26, 27, 28, 29, 30, 31, 32] (by decide +kernel) (by decide +kernel)
set_option maxRecDepth 20000 in
theorem gX0_heir_X0_findHeir : GoodIn wsX0_heir (wsV RX0 157 RX0 yX0_findHeir wsX0_findHeir) := goodIn_app (goodIn_of _ (by decide +kernel)) ggX0_heir_X0_findHeir
theorem dX0_heir_0 : decode cX0_heir 0 = .ok (.aload_n 0, 1) := by decide +kernel
theorem dX0_heir_1 : decode cX0_heir 1 = .ok (.iload_n 1, 1) := by decide +kernel
theorem dX0_heir_2 : decode cX0_heir 2 = .ok (.invokevirtual 60, 3) := by decide +kernel
theorem dX0_heir_5 : decode cX0_heir 5 = .ok (.aload_n 0, 1) := by decide +kernel
theorem dX0_heir_6 : decode cX0_heir 6 = .ok (.iload_n 1, 1) := by decide +kernel
theorem dX0_heir_7 : decode cX0_heir 7 = .ok (.iload_n 2, 1) := by decide +kernel
theorem dX0_heir_8 : decode cX0_heir 8 = .ok (.invokevirtual 157, 3) := by decide +kernel
theorem dX0_heir_11 : decode cX0_heir 11 = .ok (.istore_n 3, 1) := by decide +kernel
theorem dX0_heir_12 : decode cX0_heir 12 = .ok (.iload_n 3, 1) := by decide +kernel
theorem dX0_heir_13 : decode cX0_heir 13 = .ok (.iconst (-1), 1) := by decide +kernel
theorem dX0_heir_14 : decode cX0_heir 14 = .ok (.if_icmp .ne 13, 3) := by decide +kernel
theorem dX0_heir_17 : decode cX0_heir 17 = .ok (.new 160, 3) := by decide +kernel
theorem dX0_heir_20 : decode cX0_heir 20 = .ok (.dup, 1) := by decide +kernel
theorem dX0_heir_21 : decode cX0_heir 21 = .ok (.ldc 162, 2) := by decide +kernel
theorem dX0_heir_23 : decode cX0_heir 23 = .ok (.invokespecial 164, 3) := by decide +kernel
theorem dX0_heir_26 : decode cX0_heir 26 = .ok (.athrow, 1) := by decide +kernel
theorem dX0_heir_27 : decode cX0_heir 27 = .ok (.iload_n 3, 1) := by decide +kernel
theorem dX0_heir_28 : decode cX0_heir 28 = .ok (.ireturn, 1) := by decide +kernel
theorem dX0_crownCoins_0 : decode cX0_crownCoins 0 = .ok (.aload_n 0, 1) := by decide +kernel
theorem dX0_crownCoins_1 : decode cX0_crownCoins 1 = .ok (.getfield 39, 3) := by decide +kernel
theorem dX0_crownCoins_4 : decode cX0_crownCoins 4 = .ok (.ireturn, 1) := by decide +kernel
set_option maxRecDepth 20000 in
theorem ggX0_price_X0_needPerson : GoodIn wsX0_price wsX0_needPerson := goodIn_ca (goodIn_r _ [5, 6, 7, 8, 35, 36, 37, 38, 39, 40, 41, 42, 43, 44] (by decide +kernel) (by decide +kernel)) (goodIn_sub (fun _ h => List.mem_cons_of_mem _ (List.mem_append_right _ h)) (by decide +kernel))
set_option maxRecDepth 20000 in
theorem gX0_price_X0_needPerson : GoodIn wsX0_price (wsV RX0 60 RX0 yX0_needPerson wsX0_needPerson) := goodIn_app (goodIn_of _ (by decide +kernel)) ggX0_price_X0_needPerson
set_option maxRecDepth 20000 in
theorem ggX0_price_X0_needFerry : GoodIn wsX0_price wsX0_needFerry := goodIn_ca (goodIn_r _ [12, 6, 7, 13, 35, 36, 37, 38, 39, 40, 41, 42, 43, 44] (by decide +kernel) (by decide +kernel)) (goodIn_sub (fun _ h => List.mem_cons_of_mem _ (List.mem_append_right _ h)) (by decide +kernel))
set_option maxRecDepth 20000 in
theorem gX0_price_X0_needFerry : GoodIn wsX0_price (wsV RX0 75 RX0 yX0_needFerry wsX0_needFerry) := goodIn_app (goodIn_of _ (by decide +kernel)) ggX0_price_X0_needFerry
set_option maxRecDepth 20000 in
theorem ggX0_price_X0_needWatch : GoodIn wsX0_price wsX0_needWatch := goodIn_ca (goodIn_r _ [16, 6, 7] (by decide +kernel) (by decide +kernel)) (goodIn_sub (fun _ h => List.mem_cons_of_mem _ (List.mem_append_right _ h)) (by decide +kernel))
set_option maxRecDepth 20000 in
theorem gX0_price_X0_needWatch : GoodIn wsX0_price (va_wsS RX0 78 yX0_needWatch wsX0_needWatch) := goodIn_app (goodIn_of _ (by decide +kernel)) ggX0_price_X0_needWatch
set_option maxRecDepth 20000 in
theorem ggX0_price_X0_priceOf : GoodIn wsX0_price wsX0_priceOf := goodIn_r _ [20, 21, 22, 23, 4, 24, 25, 26, 27, 28, 29, 30, 31, 32, 33, 34, 35, 36, 37, 38, 39, 40, 41, 42, 43, 44] (by decide +kernel) (by decide +kernel)
set_option maxRecDepth 20000 in
theorem gX0_price_X0_priceOf : GoodIn wsX0_price (wsV RX0 111 RX0 yX0_priceOf wsX0_priceOf) := goodIn_app (goodIn_of _ (by decide +kernel)) ggX0_price_X0_priceOf
theorem dX0_price_0 : decode cX0_price 0 = .ok (.aload_n 0, 1) := by decide +kernel
theorem dX0_price_1 : decode cX0_price 1 = .ok (.iload_n 1, 1) := by decide +kernel
theorem dX0_price_2 : decode cX0_price 2 = .ok (.invokevirtual 60, 3) := by decide +kernel
theorem dX0_price_5 : decode cX0_price 5 = .ok (.aload_n 0, 1) := by decide +kernel
theorem dX0_price_6 : decode cX0_price 6 = .ok (.iload_n 2, 1) := by decide +kernel
theorem dX0_price_7 : decode cX0_price 7 = .ok (.invokevirtual 75, 3) := by decide +kernel
theorem dX0_price_10 : decode cX0_price 10 = .ok (.iload_n 3, 1) := by decide +kernel
theorem dX0_price_11 : decode cX0_price 11 = .ok (.invokestatic 78, 3) := by decide +kernel
theorem dX0_price_14 : decode cX0_price 14 = .ok (.aload_n 0, 1) := by decide +kernel
theorem dX0_price_15 : decode cX0_price 15 = .ok (.iload_n 1, 1) := by decide +kernel
theorem dX0_price_16 : decode cX0_price 16 = .ok (.iload_n 2, 1) := by decide +kernel
theorem dX0_price_17 : decode cX0_price 17 = .ok (.iload_n 3, 1) := by decide +kernel
theorem dX0_price_18 : decode cX0_price 18 = .ok (.invokevirtual 111, 3) := by decide +kernel
theorem dX0_price_21 : decode cX0_price 21 = .ok (.ireturn, 1) := by decide +kernel
set_option maxRecDepth 20000 in
theorem ggX0_canBuy_X0_needSale : GoodIn wsX0_canBuy wsX0_needSale := goodIn_ca (goodIn_r _ [5, 6, 7, 8, 4, 9, 10, 11, 12, 13, 14, 15, 16, 17, 18, 19, 20, 49, 50, 51, 52, 53, 54, 55, 56, 57, 58] (by decide +kernel) (by decide +kernel)) (goodIn_sub (fun _ h => List.mem_cons_of_mem _ (List.mem_append_right _ h)) (by decide +kernel))
set_option maxRecDepth 20000 in
theorem gX0_canBuy_X0_needSale : GoodIn wsX0_canBuy (wsV RX0 102 RX0 yX0_needSale wsX0_needSale) := goodIn_app (goodIn_of _ (by decide +kernel)) ggX0_canBuy_X0_needSale
set_option maxRecDepth 20000 in
theorem ggX0_canBuy_X0_mayBuy : GoodIn wsX0_canBuy wsX0_mayBuy := goodIn_r _ [24, 25, 26, 27, 28, 29, 4, 30, 31, 32, 33, 34, 35, 36, 37, 38, 39, 40, 41, 42, 43, 44, 45, 46, 47, 48, 12, 49, 50, 51, 52, 53, 54, 55, 56, 57, 58] (by decide +kernel) (by decide +kernel)
set_option maxRecDepth 20000 in
theorem gX0_canBuy_X0_mayBuy : GoodIn wsX0_canBuy (wsV RX0 105 RX0 yX0_mayBuy wsX0_mayBuy) := goodIn_app (goodIn_of _ (by decide +kernel)) ggX0_canBuy_X0_mayBuy
theorem dX0_canBuy_0 : decode cX0_canBuy 0 = .ok (.aload_n 0, 1) := by decide +kernel
theorem dX0_canBuy_1 : decode cX0_canBuy 1 = .ok (.iload_n 1, 1) := by decide +kernel
theorem dX0_canBuy_2 : decode cX0_canBuy 2 = .ok (.iload_n 2, 1) := by decide +kernel
theorem dX0_canBuy_3 : decode cX0_canBuy 3 = .ok (.iload_n 3, 1) := by decide +kernel
theorem dX0_canBuy_4 : decode cX0_canBuy 4 = .ok (.iload 4, 2) := by decide +kernel
theorem dX0_canBuy_6 : decode cX0_canBuy 6 = .ok (.invokevirtual 102, 3) := by decide +kernel
theorem dX0_canBuy_9 : decode cX0_canBuy 9 = .ok (.aload_n 0, 1) := by decide +kernel
theorem dX0_canBuy_10 : decode cX0_canBuy 10 = .ok (.iload_n 1, 1) := by decide +kernel
theorem dX0_canBuy_11 : decode cX0_canBuy 11 = .ok (.iload_n 2, 1) := by decide +kernel
theorem dX0_canBuy_12 : decode cX0_canBuy 12 = .ok (.iload_n 3, 1) := by decide +kernel
theorem dX0_canBuy_13 : decode cX0_canBuy 13 = .ok (.iload 4, 2) := by decide +kernel
theorem dX0_canBuy_15 : decode cX0_canBuy 15 = .ok (.invokevirtual 105, 3) := by decide +kernel
theorem dX0_canBuy_18 : decode cX0_canBuy 18 = .ok (.ireturn, 1) := by decide +kernel
set_option maxRecDepth 20000 in
theorem ggX0_inheritance_X0_needPerson : GoodIn wsX0_inheritance wsX0_needPerson := goodIn_ca (goodIn_r _ [5, 6, 7, 8, 46, 47, 48, 49, 50, 51, 52, 53, 54, 55] (by decide +kernel) (by decide +kernel)) (goodIn_sub (fun _ h => List.mem_cons_of_mem _ (List.mem_append_right _ h)) (by decide +kernel))
set_option maxRecDepth 20000 in
theorem gX0_inheritance_X0_needPerson : GoodIn wsX0_inheritance (wsV RX0 60 RX0 yX0_needPerson wsX0_needPerson) := goodIn_app (goodIn_of _ (by decide +kernel)) ggX0_inheritance_X0_needPerson
set_option maxRecDepth 20000 in
theorem ggX0_inheritance_X0_needFerry : GoodIn wsX0_inheritance wsX0_needFerry := goodIn_ca (goodIn_r _ [12, 6, 7, 13, 46, 47, 48, 49, 50, 51, 52, 53, 54, 55] (by decide +kernel) (by decide +kernel)) (goodIn_sub (fun _ h => List.mem_cons_of_mem _ (List.mem_append_right _ h)) (by decide +kernel))
set_option maxRecDepth 20000 in
theorem gX0_inheritance_X0_needFerry : GoodIn wsX0_inheritance (wsV RX0 75 RX0 yX0_needFerry wsX0_needFerry) := goodIn_app (goodIn_of _ (by decide +kernel)) ggX0_inheritance_X0_needFerry
set_option maxRecDepth 20000 in
theorem ggX0_inheritance_X0_needWatch : GoodIn wsX0_inheritance wsX0_needWatch := goodIn_ca (goodIn_r _ [16, 6, 7] (by decide +kernel) (by decide +kernel)) (goodIn_sub (fun _ h => List.mem_cons_of_mem _ (List.mem_append_right _ h)) (by decide +kernel))
set_option maxRecDepth 20000 in
theorem gX0_inheritance_X0_needWatch : GoodIn wsX0_inheritance (va_wsS RX0 78 yX0_needWatch wsX0_needWatch) := goodIn_app (goodIn_of _ (by decide +kernel)) ggX0_inheritance_X0_needWatch
set_option maxRecDepth 20000 in
theorem ggX0_inheritance_X0_isHeir : GoodIn wsX0_inheritance wsX0_isHeir := goodIn_r _ [20, 21, 22, 23, 24, 25, 4, 26, 8, 46, 47, 48, 49, 50, 51, 52, 53, 54, 55] (by decide +kernel) (by decide +kernel)
set_option maxRecDepth 20000 in
theorem gX0_inheritance_X0_isHeir : GoodIn wsX0_inheritance (wsV RX0 132 RX0 yX0_isHeir wsX0_isHeir) := goodIn_app (goodIn_of _ (by decide +kernel)) ggX0_inheritance_X0_isHeir
set_option maxRecDepth 20000 in
theorem ggX0_inheritance_X0_owns : GoodIn wsX0_inheritance wsX0_owns := goodIn_r _ [30, 31, 32, 33, 4, 34, 46, 47, 48, 49, 50, 51, 52, 53, 54, 55] (by decide +kernel) (by decide +kernel)
set_option maxRecDepth 20000 in
theorem gX0_inheritance_X0_owns : GoodIn wsX0_inheritance (wsV RX0 96 RX0 yX0_owns wsX0_owns) := goodIn_app (goodIn_of _ (by decide +kernel)) ggX0_inheritance_X0_owns
set_option maxRecDepth 20000 in
theorem ggX0_inheritance_X0_countHeirs : GoodIn wsX0_inheritance wsX0_countHeirs := goodIn_r _ [38, 8, 39, 40, 41, 4, 42, 17, 18, 19, 20, 21, 22, 23, 24, 25, 26, 46, 47, 48, 49, 50, 51, 52, 53, 54, 55] (by decide +kernel) (by decide +kernel)
set_option maxRecDepth 20000 in
theorem gX0_inheritance_X0_countHeirs : GoodIn wsX0_inheritance (wsV RX0 129 RX0 yX0_countHeirs wsX0_countHeirs) := goodIn_app (goodIn_of _ (by decide +kernel)) ggX0_inheritance_X0_countHeirs
set_option maxRecDepth 20000 in
theorem ggX0_inheritance_X0_countHeirsBelow : GoodIn wsX0_inheritance wsX0_countHeirsBelow := goodIn_r _ [42, 17, 18, 19, 4, 20, 21, 22, 23, 24, 25, 26, 8, 46, 47, 48, 49, 50, 51, 52, 53, 54, 55] (by decide +kernel) (by decide +kernel)
set_option maxRecDepth 20000 in
theorem gX0_inheritance_X0_countHeirsBelow : GoodIn wsX0_inheritance (wsV RX0 165 RX0 yX0_countHeirsBelow wsX0_countHeirsBelow) := goodIn_app (goodIn_of _ (by decide +kernel)) ggX0_inheritance_X0_countHeirsBelow
set_option maxRecDepth 20000 in
theorem ggX0_inheritance_X0_partOf : GoodIn wsX0_inheritance wsX0_partOf := goodIn_r _ [45] (by decide +kernel) (by decide +kernel)
set_option maxRecDepth 20000 in
theorem gX0_inheritance_X0_partOf : GoodIn wsX0_inheritance (va_wsS RX0 168 yX0_partOf wsX0_partOf) := goodIn_app (goodIn_of _ (by decide +kernel)) ggX0_inheritance_X0_partOf
theorem dX0_inheritance_0 : decode cX0_inheritance 0 = .ok (.aload_n 0, 1) := by decide +kernel
theorem dX0_inheritance_1 : decode cX0_inheritance 1 = .ok (.iload_n 1, 1) := by decide +kernel
theorem dX0_inheritance_2 : decode cX0_inheritance 2 = .ok (.invokevirtual 60, 3) := by decide +kernel
theorem dX0_inheritance_5 : decode cX0_inheritance 5 = .ok (.aload_n 0, 1) := by decide +kernel
theorem dX0_inheritance_6 : decode cX0_inheritance 6 = .ok (.iload_n 2, 1) := by decide +kernel
theorem dX0_inheritance_7 : decode cX0_inheritance 7 = .ok (.invokevirtual 60, 3) := by decide +kernel
theorem dX0_inheritance_10 : decode cX0_inheritance 10 = .ok (.aload_n 0, 1) := by decide +kernel
theorem dX0_inheritance_11 : decode cX0_inheritance 11 = .ok (.iload_n 3, 1) := by decide +kernel
theorem dX0_inheritance_12 : decode cX0_inheritance 12 = .ok (.invokevirtual 75, 3) := by decide +kernel
theorem dX0_inheritance_15 : decode cX0_inheritance 15 = .ok (.iload 4, 2) := by decide +kernel
theorem dX0_inheritance_17 : decode cX0_inheritance 17 = .ok (.invokestatic 78, 3) := by decide +kernel
theorem dX0_inheritance_20 : decode cX0_inheritance 20 = .ok (.aload_n 0, 1) := by decide +kernel
theorem dX0_inheritance_21 : decode cX0_inheritance 21 = .ok (.iload_n 2, 1) := by decide +kernel
theorem dX0_inheritance_22 : decode cX0_inheritance 22 = .ok (.iload_n 1, 1) := by decide +kernel
theorem dX0_inheritance_23 : decode cX0_inheritance 23 = .ok (.invokevirtual 132, 3) := by decide +kernel
theorem dX0_inheritance_26 : decode cX0_inheritance 26 = .ok (.ifCond .ne 5, 3) := by decide +kernel
theorem dX0_inheritance_29 : decode cX0_inheritance 29 = .ok (.iconst 0, 1) := by decide +kernel
theorem dX0_inheritance_30 : decode cX0_inheritance 30 = .ok (.ireturn, 1) := by decide +kernel
theorem dX0_inheritance_31 : decode cX0_inheritance 31 = .ok (.aload_n 0, 1) := by decide +kernel
theorem dX0_inheritance_32 : decode cX0_inheritance 32 = .ok (.iload_n 3, 1) := by decide +kernel
theorem dX0_inheritance_33 : decode cX0_inheritance 33 = .ok (.iload 4, 2) := by decide +kernel
theorem dX0_inheritance_35 : decode cX0_inheritance 35 = .ok (.iload_n 1, 1) := by decide +kernel
theorem dX0_inheritance_36 : decode cX0_inheritance 36 = .ok (.invokevirtual 96, 3) := by decide +kernel
theorem dX0_inheritance_39 : decode cX0_inheritance 39 = .ok (.aload_n 0, 1) := by decide +kernel
theorem dX0_inheritance_40 : decode cX0_inheritance 40 = .ok (.iload_n 1, 1) := by decide +kernel
theorem dX0_inheritance_41 : decode cX0_inheritance 41 = .ok (.invokevirtual 129, 3) := by decide +kernel
theorem dX0_inheritance_44 : decode cX0_inheritance 44 = .ok (.aload_n 0, 1) := by decide +kernel
theorem dX0_inheritance_45 : decode cX0_inheritance 45 = .ok (.iload_n 2, 1) := by decide +kernel
theorem dX0_inheritance_46 : decode cX0_inheritance 46 = .ok (.iload_n 1, 1) := by decide +kernel
theorem dX0_inheritance_47 : decode cX0_inheritance 47 = .ok (.invokevirtual 165, 3) := by decide +kernel
theorem dX0_inheritance_50 : decode cX0_inheritance 50 = .ok (.invokestatic 168, 3) := by decide +kernel
theorem dX0_inheritance_53 : decode cX0_inheritance 53 = .ok (.ireturn, 1) := by decide +kernel
set_option maxRecDepth 20000 in
theorem ggX0_fare_X0_needPerson : GoodIn wsX0_fare wsX0_needPerson := goodIn_ca (goodIn_r _ [5, 6, 7, 8, 35, 36, 37, 38, 39, 40, 41, 42, 43, 44] (by decide +kernel) (by decide +kernel)) (goodIn_sub (fun _ h => List.mem_cons_of_mem _ (List.mem_append_left _ (List.mem_append_right _ h))) (by decide +kernel))
set_option maxRecDepth 20000 in
theorem gX0_fare_X0_needPerson : GoodIn wsX0_fare (wsV RX0 60 RX0 yX0_needPerson wsX0_needPerson) := goodIn_app (goodIn_of _ (by decide +kernel)) ggX0_fare_X0_needPerson
set_option maxRecDepth 20000 in
theorem ggX0_fare_X0_needFerry : GoodIn wsX0_fare wsX0_needFerry := goodIn_ca (goodIn_r _ [12, 6, 7, 13, 35, 36, 37, 38, 39, 40, 41, 42, 43, 44] (by decide +kernel) (by decide +kernel)) (goodIn_sub (fun _ h => List.mem_cons_of_mem _ (List.mem_append_left _ (List.mem_append_right _ h))) (by decide +kernel))
set_option maxRecDepth 20000 in
theorem gX0_fare_X0_needFerry : GoodIn wsX0_fare (wsV RX0 75 RX0 yX0_needFerry wsX0_needFerry) := goodIn_app (goodIn_of _ (by decide +kernel)) ggX0_fare_X0_needFerry
set_option maxRecDepth 20000 in
theorem ggX0_fare_X0_needHour : GoodIn wsX0_fare wsX0_needHour := goodIn_ca (goodIn_r _ [16, 6, 7] (by decide +kernel) (by decide +kernel)) (goodIn_sub (fun _ h => List.mem_cons_of_mem _ (List.mem_append_left _ (List.mem_append_right _ h))) (by decide +kernel))
set_option maxRecDepth 20000 in
theorem gX0_fare_X0_needHour : GoodIn wsX0_fare (va_wsS RX0 119 yX0_needHour wsX0_needHour) := goodIn_app (goodIn_of _ (by decide +kernel)) ggX0_fare_X0_needHour
set_option maxRecDepth 20000 in
theorem ggX0_fare_X0_needPassengers : GoodIn wsX0_fare wsX0_needPassengers := goodIn_ca (goodIn_r _ [19, 20, 21] (by decide +kernel) (by decide +kernel)) (goodIn_sub (fun _ h => List.mem_cons_of_mem _ (List.mem_append_right _ h)) (by decide +kernel))
set_option maxRecDepth 20000 in
theorem gX0_fare_X0_needPassengers : GoodIn wsX0_fare (va_wsS RX0 122 yX0_needPassengers wsX0_needPassengers) := goodIn_app (goodIn_of _ (by decide +kernel)) ggX0_fare_X0_needPassengers
set_option maxRecDepth 20000 in
theorem ggX0_fare_X0_fareOf : GoodIn wsX0_fare wsX0_fareOf := goodIn_r _ [25, 26, 27, 28, 29, 4, 30, 31, 32, 33, 34, 35, 36, 37, 38, 39, 40, 41, 42, 43, 44] (by decide +kernel) (by decide +kernel)
set_option maxRecDepth 20000 in
theorem gX0_fare_X0_fareOf : GoodIn wsX0_fare (wsV RX0 125 RX0 yX0_fareOf wsX0_fareOf) := goodIn_app (goodIn_of _ (by decide +kernel)) ggX0_fare_X0_fareOf
theorem dX0_fare_0 : decode cX0_fare 0 = .ok (.aload_n 0, 1) := by decide +kernel
theorem dX0_fare_1 : decode cX0_fare 1 = .ok (.iload_n 1, 1) := by decide +kernel
theorem dX0_fare_2 : decode cX0_fare 2 = .ok (.invokevirtual 60, 3) := by decide +kernel
theorem dX0_fare_5 : decode cX0_fare 5 = .ok (.aload_n 0, 1) := by decide +kernel
theorem dX0_fare_6 : decode cX0_fare 6 = .ok (.iload_n 2, 1) := by decide +kernel
theorem dX0_fare_7 : decode cX0_fare 7 = .ok (.invokevirtual 75, 3) := by decide +kernel
theorem dX0_fare_10 : decode cX0_fare 10 = .ok (.iload_n 3, 1) := by decide +kernel
theorem dX0_fare_11 : decode cX0_fare 11 = .ok (.invokestatic 119, 3) := by decide +kernel
theorem dX0_fare_14 : decode cX0_fare 14 = .ok (.iload 4, 2) := by decide +kernel
theorem dX0_fare_16 : decode cX0_fare 16 = .ok (.invokestatic 122, 3) := by decide +kernel
theorem dX0_fare_19 : decode cX0_fare 19 = .ok (.aload_n 0, 1) := by decide +kernel
theorem dX0_fare_20 : decode cX0_fare 20 = .ok (.iload_n 1, 1) := by decide +kernel
theorem dX0_fare_21 : decode cX0_fare 21 = .ok (.iload_n 2, 1) := by decide +kernel
theorem dX0_fare_22 : decode cX0_fare 22 = .ok (.iload_n 3, 1) := by decide +kernel
theorem dX0_fare_23 : decode cX0_fare 23 = .ok (.bipush 6, 2) := by decide +kernel
theorem dX0_fare_25 : decode cX0_fare 25 = .ok (.idiv, 1) := by decide +kernel
theorem dX0_fare_26 : decode cX0_fare 26 = .ok (.iload 4, 2) := by decide +kernel
theorem dX0_fare_28 : decode cX0_fare 28 = .ok (.invokevirtual 125, 3) := by decide +kernel
theorem dX0_fare_31 : decode cX0_fare 31 = .ok (.ireturn, 1) := by decide +kernel
theorem dX0_richest_0 : decode cX0_richest 0 = .ok (.iconst (-1), 1) := by decide +kernel
theorem dX0_richest_1 : decode cX0_richest 1 = .ok (.istore_n 1, 1) := by decide +kernel
theorem dX0_richest_2 : decode cX0_richest 2 = .ok (.iconst (-1), 1) := by decide +kernel
theorem dX0_richest_3 : decode cX0_richest 3 = .ok (.istore_n 2, 1) := by decide +kernel
theorem dX0_richest_4 : decode cX0_richest 4 = .ok (.iconst 0, 1) := by decide +kernel
theorem dX0_richest_5 : decode cX0_richest 5 = .ok (.istore_n 3, 1) := by decide +kernel
theorem dX0_richest_6 : decode cX0_richest 6 = .ok (.iload_n 3, 1) := by decide +kernel
theorem dX0_richest_7 : decode cX0_richest 7 = .ok (.aload_n 0, 1) := by decide +kernel
theorem dX0_richest_8 : decode cX0_richest 8 = .ok (.getfield 23, 3) := by decide +kernel
theorem dX0_richest_11 : decode cX0_richest 11 = .ok (.if_icmp .ge 37, 3) := by decide +kernel
theorem dX0_richest_14 : decode cX0_richest 14 = .ok (.aload_n 0, 1) := by decide +kernel
theorem dX0_richest_15 : decode cX0_richest 15 = .ok (.getfield 26, 3) := by decide +kernel
theorem dX0_richest_18 : decode cX0_richest 18 = .ok (.iload_n 3, 1) := by decide +kernel
theorem dX0_richest_19 : decode cX0_richest 19 = .ok (.baload, 1) := by decide +kernel
theorem dX0_richest_20 : decode cX0_richest 20 = .ok (.ifCond .eq 22, 3) := by decide +kernel
theorem dX0_richest_23 : decode cX0_richest 23 = .ok (.aload_n 0, 1) := by decide +kernel
theorem dX0_richest_24 : decode cX0_richest 24 = .ok (.getfield 30, 3) := by decide +kernel
theorem dX0_richest_27 : decode cX0_richest 27 = .ok (.iload_n 3, 1) := by decide +kernel
theorem dX0_richest_28 : decode cX0_richest 28 = .ok (.iaload, 1) := by decide +kernel
theorem dX0_richest_29 : decode cX0_richest 29 = .ok (.iload_n 2, 1) := by decide +kernel
theorem dX0_richest_30 : decode cX0_richest 30 = .ok (.if_icmp .le 12, 3) := by decide +kernel
theorem dX0_richest_33 : decode cX0_richest 33 = .ok (.iload_n 3, 1) := by decide +kernel
theorem dX0_richest_34 : decode cX0_richest 34 = .ok (.istore_n 1, 1) := by decide +kernel
theorem dX0_richest_35 : decode cX0_richest 35 = .ok (.aload_n 0, 1) := by decide +kernel
theorem dX0_richest_36 : decode cX0_richest 36 = .ok (.getfield 30, 3) := by decide +kernel
theorem dX0_richest_39 : decode cX0_richest 39 = .ok (.iload_n 3, 1) := by decide +kernel
theorem dX0_richest_40 : decode cX0_richest 40 = .ok (.iaload, 1) := by decide +kernel
theorem dX0_richest_41 : decode cX0_richest 41 = .ok (.istore_n 2, 1) := by decide +kernel
theorem dX0_richest_42 : decode cX0_richest 42 = .ok (.iinc 3 1, 3) := by decide +kernel
theorem dX0_richest_45 : decode cX0_richest 45 = .ok (.goto (-39), 3) := by decide +kernel
theorem dX0_richest_48 : decode cX0_richest 48 = .ok (.iload_n 1, 1) := by decide +kernel
theorem dX0_richest_49 : decode cX0_richest 49 = .ok (.iconst (-1), 1) := by decide +kernel
theorem dX0_richest_50 : decode cX0_richest 50 = .ok (.if_icmp .ne 13, 3) := by decide +kernel
theorem dX0_richest_53 : decode cX0_richest 53 = .ok (.new 46, 3) := by decide +kernel
theorem dX0_richest_56 : decode cX0_richest 56 = .ok (.dup, 1) := by decide +kernel
theorem dX0_richest_57 : decode cX0_richest 57 = .ok (.ldc 171, 2) := by decide +kernel
theorem dX0_richest_59 : decode cX0_richest 59 = .ok (.invokespecial 50, 3) := by decide +kernel
theorem dX0_richest_62 : decode cX0_richest 62 = .ok (.athrow, 1) := by decide +kernel
theorem dX0_richest_63 : decode cX0_richest 63 = .ok (.iload_n 1, 1) := by decide +kernel
theorem dX0_richest_64 : decode cX0_richest 64 = .ok (.ireturn, 1) := by decide +kernel
theorem dX0_meanCoins_0 : decode cX0_meanCoins 0 = .ok (.iconst 0, 1) := by decide +kernel
theorem dX0_meanCoins_1 : decode cX0_meanCoins 1 = .ok (.istore_n 1, 1) := by decide +kernel
theorem dX0_meanCoins_2 : decode cX0_meanCoins 2 = .ok (.iconst 0, 1) := by decide +kernel
theorem dX0_meanCoins_3 : decode cX0_meanCoins 3 = .ok (.istore_n 2, 1) := by decide +kernel
theorem dX0_meanCoins_4 : decode cX0_meanCoins 4 = .ok (.iconst 0, 1) := by decide +kernel
theorem dX0_meanCoins_5 : decode cX0_meanCoins 5 = .ok (.istore_n 3, 1) := by decide +kernel
theorem dX0_meanCoins_6 : decode cX0_meanCoins 6 = .ok (.iload_n 3, 1) := by decide +kernel
theorem dX0_meanCoins_7 : decode cX0_meanCoins 7 = .ok (.aload_n 0, 1) := by decide +kernel
theorem dX0_meanCoins_8 : decode cX0_meanCoins 8 = .ok (.getfield 23, 3) := by decide +kernel
theorem dX0_meanCoins_11 : decode cX0_meanCoins 11 = .ok (.if_icmp .ge 30, 3) := by decide +kernel
theorem dX0_meanCoins_14 : decode cX0_meanCoins 14 = .ok (.aload_n 0, 1) := by decide +kernel
theorem dX0_meanCoins_15 : decode cX0_meanCoins 15 = .ok (.getfield 26, 3) := by decide +kernel
theorem dX0_meanCoins_18 : decode cX0_meanCoins 18 = .ok (.iload_n 3, 1) := by decide +kernel
theorem dX0_meanCoins_19 : decode cX0_meanCoins 19 = .ok (.baload, 1) := by decide +kernel
theorem dX0_meanCoins_20 : decode cX0_meanCoins 20 = .ok (.ifCond .eq 15, 3) := by decide +kernel
theorem dX0_meanCoins_23 : decode cX0_meanCoins 23 = .ok (.iinc 1 1, 3) := by decide +kernel
theorem dX0_meanCoins_26 : decode cX0_meanCoins 26 = .ok (.iload_n 2, 1) := by decide +kernel
theorem dX0_meanCoins_27 : decode cX0_meanCoins 27 = .ok (.aload_n 0, 1) := by decide +kernel
theorem dX0_meanCoins_28 : decode cX0_meanCoins 28 = .ok (.getfield 30, 3) := by decide +kernel
theorem dX0_meanCoins_31 : decode cX0_meanCoins 31 = .ok (.iload_n 3, 1) := by decide +kernel
theorem dX0_meanCoins_32 : decode cX0_meanCoins 32 = .ok (.iaload, 1) := by decide +kernel
theorem dX0_meanCoins_33 : decode cX0_meanCoins 33 = .ok (.iadd, 1) := by decide +kernel
theorem dX0_meanCoins_34 : decode cX0_meanCoins 34 = .ok (.istore_n 2, 1) := by decide +kernel
theorem dX0_meanCoins_35 : decode cX0_meanCoins 35 = .ok (.iinc 3 1, 3) := by decide +kernel
theorem dX0_meanCoins_38 : decode cX0_meanCoins 38 = .ok (.goto (-32), 3) := by decide +kernel
theorem dX0_meanCoins_41 : decode cX0_meanCoins 41 = .ok (.iload_n 1, 1) := by decide +kernel
theorem dX0_meanCoins_42 : decode cX0_meanCoins 42 = .ok (.ifCond .ne 5, 3) := by decide +kernel
theorem dX0_meanCoins_45 : decode cX0_meanCoins 45 = .ok (.dconst 0, 1) := by decide +kernel
theorem dX0_meanCoins_46 : decode cX0_meanCoins 46 = .ok (.dreturn, 1) := by decide +kernel
theorem dX0_meanCoins_47 : decode cX0_meanCoins 47 = .ok (.iload_n 2, 1) := by decide +kernel
theorem dX0_meanCoins_48 : decode cX0_meanCoins 48 = .ok (.i2d, 1) := by decide +kernel
theorem dX0_meanCoins_49 : decode cX0_meanCoins 49 = .ok (.iload_n 1, 1) := by decide +kernel
theorem dX0_meanCoins_50 : decode cX0_meanCoins 50 = .ok (.i2d, 1) := by decide +kernel
theorem dX0_meanCoins_51 : decode cX0_meanCoins 51 = .ok (.ddiv, 1) := by decide +kernel
theorem dX0_meanCoins_52 : decode cX0_meanCoins 52 = .ok (.dreturn, 1) := by decide +kernel
set_option maxRecDepth 20000 in
theorem ggX0_digest_X0_mix : GoodIn wsX0_digest wsX0_mix := goodIn_r _ [8, 9] (by decide +kernel) (by decide +kernel)
set_option maxRecDepth 20000 in
theorem gX0_digest_X0_mix : GoodIn wsX0_digest (va_wsS RX0 175 yX0_mix wsX0_mix) := goodIn_app (goodIn_of _ (by decide +kernel)) ggX0_digest_X0_mix
set_option maxRecDepth 20000 in
theorem ggX0_digest_X0_living : GoodIn wsX0_digest wsX0_living := goodIn_r _ [13, 3, 14, 64, 65, 66, 67, 68, 69, 70, 71, 72, 73] (by decide +kernel) (by decide +kernel)
set_option maxRecDepth 20000 in
theorem gX0_digest_X0_living : GoodIn wsX0_digest (wsV RX0 179 RX0 yX0_living wsX0_living) := goodIn_app (goodIn_of _ (by decide +kernel)) ggX0_digest_X0_living
set_option maxRecDepth 20000 in
theorem ggX0_digest_X0_mixFerry : GoodIn wsX0_digest wsX0_mixFerry := goodIn_r _ [18, 19, 20, 3, 5, 6, 7, 8, 9, 21, 22, 23, 24, 25, 26, 27, 28, 64, 65, 66, 67, 68, 69, 70, 71, 72, 73] (by decide +kernel) (by decide +kernel)
set_option maxRecDepth 20000 in
theorem gX0_digest_X0_mixFerry : GoodIn wsX0_digest (wsV RX0 183 RX0 yX0_mixFerry wsX0_mixFerry) := goodIn_app (goodIn_of _ (by decide +kernel)) ggX0_digest_X0_mixFerry
set_option maxRecDepth 20000 in
theorem ggX0_digest_X0_mixPerson : GoodIn wsX0_digest wsX0_mixPerson := goodIn_r _ [32, 14, 33, 34, 5, 6, 7, 8, 9, 35, 36, 37, 38, 2, 39, 40, 41, 42, 21, 22, 23, 24, 25, 26, 27, 28, 43, 44, 45, 46, 3, 47, 48, 49, 50, 51, 52, 53, 54, 55, 56, 57, 58, 59, 60, 61, 62, 63, 64, 65, 66, 67, 68, 69, 70, 71, 72, 73] (by decide +kernel) (by decide +kernel)
set_option maxRecDepth 20000 in
theorem gX0_digest_X0_mixPerson : GoodIn wsX0_digest (wsV RX0 187 RX0 yX0_mixPerson wsX0_mixPerson) := goodIn_app (goodIn_of _ (by decide +kernel)) ggX0_digest_X0_mixPerson
theorem dX0_digest_0 : decode cX0_digest 0 = .ok (.ldc2_w 173, 3) := by decide +kernel
theorem dX0_digest_3 : decode cX0_digest 3 = .ok (.lstore_n 1, 1) := by decide +kernel
theorem dX0_digest_4 : decode cX0_digest 4 = .ok (.lload_n 1, 1) := by decide +kernel
theorem dX0_digest_5 : decode cX0_digest 5 = .ok (.aload_n 0, 1) := by decide +kernel
theorem dX0_digest_6 : decode cX0_digest 6 = .ok (.getfield 9, 3) := by decide +kernel
theorem dX0_digest_9 : decode cX0_digest 9 = .ok (.i2l, 1) := by decide +kernel
theorem dX0_digest_10 : decode cX0_digest 10 = .ok (.invokestatic 175, 3) := by decide +kernel
theorem dX0_digest_13 : decode cX0_digest 13 = .ok (.lstore_n 1, 1) := by decide +kernel
theorem dX0_digest_14 : decode cX0_digest 14 = .ok (.lload_n 1, 1) := by decide +kernel
theorem dX0_digest_15 : decode cX0_digest 15 = .ok (.aload_n 0, 1) := by decide +kernel
theorem dX0_digest_16 : decode cX0_digest 16 = .ok (.getfield 23, 3) := by decide +kernel
theorem dX0_digest_19 : decode cX0_digest 19 = .ok (.i2l, 1) := by decide +kernel
theorem dX0_digest_20 : decode cX0_digest 20 = .ok (.invokestatic 175, 3) := by decide +kernel
theorem dX0_digest_23 : decode cX0_digest 23 = .ok (.lstore_n 1, 1) := by decide +kernel
theorem dX0_digest_24 : decode cX0_digest 24 = .ok (.lload_n 1, 1) := by decide +kernel
theorem dX0_digest_25 : decode cX0_digest 25 = .ok (.aload_n 0, 1) := by decide +kernel
theorem dX0_digest_26 : decode cX0_digest 26 = .ok (.invokevirtual 179, 3) := by decide +kernel
theorem dX0_digest_29 : decode cX0_digest 29 = .ok (.i2l, 1) := by decide +kernel
theorem dX0_digest_30 : decode cX0_digest 30 = .ok (.invokestatic 175, 3) := by decide +kernel
theorem dX0_digest_33 : decode cX0_digest 33 = .ok (.lstore_n 1, 1) := by decide +kernel
theorem dX0_digest_34 : decode cX0_digest 34 = .ok (.lload_n 1, 1) := by decide +kernel
theorem dX0_digest_35 : decode cX0_digest 35 = .ok (.aload_n 0, 1) := by decide +kernel
theorem dX0_digest_36 : decode cX0_digest 36 = .ok (.getfield 39, 3) := by decide +kernel
theorem dX0_digest_39 : decode cX0_digest 39 = .ok (.i2l, 1) := by decide +kernel
theorem dX0_digest_40 : decode cX0_digest 40 = .ok (.invokestatic 175, 3) := by decide +kernel
theorem dX0_digest_43 : decode cX0_digest 43 = .ok (.lstore_n 1, 1) := by decide +kernel
theorem dX0_digest_44 : decode cX0_digest 44 = .ok (.iconst 0, 1) := by decide +kernel
theorem dX0_digest_45 : decode cX0_digest 45 = .ok (.istore_n 3, 1) := by decide +kernel
theorem dX0_digest_46 : decode cX0_digest 46 = .ok (.iload_n 3, 1) := by decide +kernel
theorem dX0_digest_47 : decode cX0_digest 47 = .ok (.aload_n 0, 1) := by decide +kernel
theorem dX0_digest_48 : decode cX0_digest 48 = .ok (.getfield 9, 3) := by decide +kernel
theorem dX0_digest_51 : decode cX0_digest 51 = .ok (.if_icmp .ge 16, 3) := by decide +kernel
theorem dX0_digest_54 : decode cX0_digest 54 = .ok (.aload_n 0, 1) := by decide +kernel
theorem dX0_digest_55 : decode cX0_digest 55 = .ok (.lload_n 1, 1) := by decide +kernel
theorem dX0_digest_56 : decode cX0_digest 56 = .ok (.iload_n 3, 1) := by decide +kernel
theorem dX0_digest_57 : decode cX0_digest 57 = .ok (.invokevirtual 183, 3) := by decide +kernel
theorem dX0_digest_60 : decode cX0_digest 60 = .ok (.lstore_n 1, 1) := by decide +kernel
theorem dX0_digest_61 : decode cX0_digest 61 = .ok (.iinc 3 1, 3) := by decide +kernel
theorem dX0_digest_64 : decode cX0_digest 64 = .ok (.goto (-18), 3) := by decide +kernel
theorem dX0_digest_67 : decode cX0_digest 67 = .ok (.iconst 0, 1) := by decide +kernel
theorem dX0_digest_68 : decode cX0_digest 68 = .ok (.istore_n 3, 1) := by decide +kernel
theorem dX0_digest_69 : decode cX0_digest 69 = .ok (.iload_n 3, 1) := by decide +kernel
theorem dX0_digest_70 : decode cX0_digest 70 = .ok (.aload_n 0, 1) := by decide +kernel
theorem dX0_digest_71 : decode cX0_digest 71 = .ok (.getfield 23, 3) := by decide +kernel
theorem dX0_digest_74 : decode cX0_digest 74 = .ok (.if_icmp .ge 16, 3) := by decide +kernel
theorem dX0_digest_77 : decode cX0_digest 77 = .ok (.aload_n 0, 1) := by decide +kernel
theorem dX0_digest_78 : decode cX0_digest 78 = .ok (.lload_n 1, 1) := by decide +kernel
theorem dX0_digest_79 : decode cX0_digest 79 = .ok (.iload_n 3, 1) := by decide +kernel
theorem dX0_digest_80 : decode cX0_digest 80 = .ok (.invokevirtual 187, 3) := by decide +kernel
theorem dX0_digest_83 : decode cX0_digest 83 = .ok (.lstore_n 1, 1) := by decide +kernel
theorem dX0_digest_84 : decode cX0_digest 84 = .ok (.iinc 3 1, 3) := by decide +kernel
theorem dX0_digest_87 : decode cX0_digest 87 = .ok (.goto (-18), 3) := by decide +kernel
theorem dX0_digest_90 : decode cX0_digest 90 = .ok (.lload_n 1, 1) := by decide +kernel
theorem dX0_digest_91 : decode cX0_digest 91 = .ok (.lreturn, 1) := by decide +kernel
theorem dX0_needFerry_0 : decode cX0_needFerry 0 = .ok (.iload_n 1, 1) := by decide +kernel
theorem dX0_needFerry_1 : decode cX0_needFerry 1 = .ok (.ifCond .lt 11, 3) := by decide +kernel
theorem dX0_needFerry_4 : decode cX0_needFerry 4 = .ok (.iload_n 1, 1) := by decide +kernel
theorem dX0_needFerry_5 : decode cX0_needFerry 5 = .ok (.aload_n 0, 1) := by decide +kernel
theorem dX0_needFerry_6 : decode cX0_needFerry 6 = .ok (.getfield 9, 3) := by decide +kernel
theorem dX0_needFerry_9 : decode cX0_needFerry 9 = .ok (.if_icmp .lt 13, 3) := by decide +kernel
theorem dX0_needFerry_12 : decode cX0_needFerry 12 = .ok (.new 160, 3) := by decide +kernel
theorem dX0_needFerry_15 : decode cX0_needFerry 15 = .ok (.dup, 1) := by decide +kernel
theorem dX0_needFerry_16 : decode cX0_needFerry 16 = .ok (.ldc 190, 2) := by decide +kernel
theorem dX0_needFerry_18 : decode cX0_needFerry 18 = .ok (.invokespecial 164, 3) := by decide +kernel
theorem dX0_needFerry_21 : decode cX0_needFerry 21 = .ok (.athrow, 1) := by decide +kernel
theorem dX0_needFerry_22 : decode cX0_needFerry 22 = .ok (.return_, 1) := by decide +kernel
theorem dX0_needWatch_0 : decode cX0_needWatch 0 = .ok (.iload_n 0, 1) := by decide +kernel
theorem dX0_needWatch_1 : decode cX0_needWatch 1 = .ok (.ifCond .lt 8, 3) := by decide +kernel
theorem dX0_needWatch_4 : decode cX0_needWatch 4 = .ok (.iload_n 0, 1) := by decide +kernel
theorem dX0_needWatch_5 : decode cX0_needWatch 5 = .ok (.iconst 4, 1) := by decide +kernel
theorem dX0_needWatch_6 : decode cX0_needWatch 6 = .ok (.if_icmp .lt 13, 3) := by decide +kernel
theorem dX0_needWatch_9 : decode cX0_needWatch 9 = .ok (.new 160, 3) := by decide +kernel
theorem dX0_needWatch_12 : decode cX0_needWatch 12 = .ok (.dup, 1) := by decide +kernel
theorem dX0_needWatch_13 : decode cX0_needWatch 13 = .ok (.ldc 192, 2) := by decide +kernel
theorem dX0_needWatch_15 : decode cX0_needWatch 15 = .ok (.invokespecial 164, 3) := by decide +kernel
theorem dX0_needWatch_18 : decode cX0_needWatch 18 = .ok (.athrow, 1) := by decide +kernel
theorem dX0_needWatch_19 : decode cX0_needWatch 19 = .ok (.return_, 1) := by decide +kernel
theorem dX0_needHour_0 : decode cX0_needHour 0 = .ok (.iload_n 0, 1) := by decide +kernel
theorem dX0_needHour_1 : decode cX0_needHour 1 = .ok (.ifCond .lt 9, 3) := by decide +kernel
theorem dX0_needHour_4 : decode cX0_needHour 4 = .ok (.iload_n 0, 1) := by decide +kernel
theorem dX0_needHour_5 : decode cX0_needHour 5 = .ok (.bipush 24, 2) := by decide +kernel
theorem dX0_needHour_7 : decode cX0_needHour 7 = .ok (.if_icmp .lt 13, 3) := by decide +kernel
theorem dX0_needHour_10 : decode cX0_needHour 10 = .ok (.new 160, 3) := by decide +kernel
theorem dX0_needHour_13 : decode cX0_needHour 13 = .ok (.dup, 1) := by decide +kernel
theorem dX0_needHour_14 : decode cX0_needHour 14 = .ok (.ldc 194, 2) := by decide +kernel
theorem dX0_needHour_16 : decode cX0_needHour 16 = .ok (.invokespecial 164, 3) := by decide +kernel
theorem dX0_needHour_19 : decode cX0_needHour 19 = .ok (.athrow, 1) := by decide +kernel
theorem dX0_needHour_20 : decode cX0_needHour 20 = .ok (.return_, 1) := by decide +kernel
theorem dX0_needPerson_0 : decode cX0_needPerson 0 = .ok (.iload_n 1, 1) := by decide +kernel
theorem dX0_needPerson_1 : decode cX0_needPerson 1 = .ok (.ifCond .lt 11, 3) := by decide +kernel
theorem dX0_needPerson_4 : decode cX0_needPerson 4 = .ok (.iload_n 1, 1) := by decide +kernel
theorem dX0_needPerson_5 : decode cX0_needPerson 5 = .ok (.aload_n 0, 1) := by decide +kernel
theorem dX0_needPerson_6 : decode cX0_needPerson 6 = .ok (.getfield 23, 3) := by decide +kernel
theorem dX0_needPerson_9 : decode cX0_needPerson 9 = .ok (.if_icmp .lt 13, 3) := by decide +kernel
theorem dX0_needPerson_12 : decode cX0_needPerson 12 = .ok (.new 160, 3) := by decide +kernel
theorem dX0_needPerson_15 : decode cX0_needPerson 15 = .ok (.dup, 1) := by decide +kernel
theorem dX0_needPerson_16 : decode cX0_needPerson 16 = .ok (.ldc 196, 2) := by decide +kernel
theorem dX0_needPerson_18 : decode cX0_needPerson 18 = .ok (.invokespecial 164, 3) := by decide +kernel
theorem dX0_needPerson_21 : decode cX0_needPerson 21 = .ok (.athrow, 1) := by decide +kernel
theorem dX0_needPerson_22 : decode cX0_needPerson 22 = .ok (.return_, 1) := by decide +kernel
set_option maxRecDepth 20000 in
theorem ggX0_needSale_X0_needPerson : GoodIn wsX0_needSale wsX0_needPerson := goodIn_ca (goodIn_r _ [5, 6, 7, 8, 17, 18, 19, 20, 21, 22, 23, 24, 25, 26] (by decide +kernel) (by decide +kernel)) (goodIn_sub (fun _ h => List.mem_cons_of_mem _ (List.mem_append_right _ h)) (by decide +kernel))
set_option maxRecDepth 20000 in
theorem gX0_needSale_X0_needPerson : GoodIn wsX0_needSale (wsV RX0 60 RX0 yX0_needPerson wsX0_needPerson) := goodIn_app (goodIn_of _ (by decide +kernel)) ggX0_needSale_X0_needPerson
set_option maxRecDepth 20000 in
theorem ggX0_needSale_X0_needFerry : GoodIn wsX0_needSale wsX0_needFerry := goodIn_ca (goodIn_r _ [12, 6, 7, 13, 17, 18, 19, 20, 21, 22, 23, 24, 25, 26] (by decide +kernel) (by decide +kernel)) (goodIn_sub (fun _ h => List.mem_cons_of_mem _ (List.mem_append_right _ h)) (by decide +kernel))
set_option maxRecDepth 20000 in
theorem gX0_needSale_X0_needFerry : GoodIn wsX0_needSale (wsV RX0 75 RX0 yX0_needFerry wsX0_needFerry) := goodIn_app (goodIn_of _ (by decide +kernel)) ggX0_needSale_X0_needFerry
set_option maxRecDepth 20000 in
theorem ggX0_needSale_X0_needWatch : GoodIn wsX0_needSale wsX0_needWatch := goodIn_ca (goodIn_r _ [16, 6, 7] (by decide +kernel) (by decide +kernel)) (goodIn_sub (fun _ h => List.mem_cons_of_mem _ (List.mem_append_right _ h)) (by decide +kernel))
set_option maxRecDepth 20000 in
theorem gX0_needSale_X0_needWatch : GoodIn wsX0_needSale (va_wsS RX0 78 yX0_needWatch wsX0_needWatch) := goodIn_app (goodIn_of _ (by decide +kernel)) ggX0_needSale_X0_needWatch
theorem dX0_needSale_0 : decode cX0_needSale 0 = .ok (.aload_n 0, 1) := by decide +kernel
theorem dX0_needSale_1 : decode cX0_needSale 1 = .ok (.iload_n 1, 1) := by decide +kernel
theorem dX0_needSale_2 : decode cX0_needSale 2 = .ok (.invokevirtual 60, 3) := by decide +kernel
theorem dX0_needSale_5 : decode cX0_needSale 5 = .ok (.aload_n 0, 1) := by decide +kernel
theorem dX0_needSale_6 : decode cX0_needSale 6 = .ok (.iload_n 2, 1) := by decide +kernel
theorem dX0_needSale_7 : decode cX0_needSale 7 = .ok (.invokevirtual 60, 3) := by decide +kernel
theorem dX0_needSale_10 : decode cX0_needSale 10 = .ok (.aload_n 0, 1) := by decide +kernel
theorem dX0_needSale_11 : decode cX0_needSale 11 = .ok (.iload_n 3, 1) := by decide +kernel
theorem dX0_needSale_12 : decode cX0_needSale 12 = .ok (.invokevirtual 75, 3) := by decide +kernel
theorem dX0_needSale_15 : decode cX0_needSale 15 = .ok (.iload 4, 2) := by decide +kernel
theorem dX0_needSale_17 : decode cX0_needSale 17 = .ok (.invokestatic 78, 3) := by decide +kernel
theorem dX0_needSale_20 : decode cX0_needSale 20 = .ok (.return_, 1) := by decide +kernel
theorem dX0_needToll_0 : decode cX0_needToll 0 = .ok (.iload_n 0, 1) := by decide +kernel
theorem dX0_needToll_1 : decode cX0_needToll 1 = .ok (.ifCond .lt 9, 3) := by decide +kernel
theorem dX0_needToll_4 : decode cX0_needToll 4 = .ok (.iload_n 0, 1) := by decide +kernel
theorem dX0_needToll_5 : decode cX0_needToll 5 = .ok (.bipush 20, 2) := by decide +kernel
theorem dX0_needToll_7 : decode cX0_needToll 7 = .ok (.if_icmp .le 13, 3) := by decide +kernel
theorem dX0_needToll_10 : decode cX0_needToll 10 = .ok (.new 66, 3) := by decide +kernel
theorem dX0_needToll_13 : decode cX0_needToll 13 = .ok (.dup, 1) := by decide +kernel
theorem dX0_needToll_14 : decode cX0_needToll 14 = .ok (.ldc 198, 2) := by decide +kernel
theorem dX0_needToll_16 : decode cX0_needToll 16 = .ok (.invokespecial 70, 3) := by decide +kernel
theorem dX0_needToll_19 : decode cX0_needToll 19 = .ok (.athrow, 1) := by decide +kernel
theorem dX0_needToll_20 : decode cX0_needToll 20 = .ok (.return_, 1) := by decide +kernel
theorem dX0_needShares_0 : decode cX0_needShares 0 = .ok (.iload_n 0, 1) := by decide +kernel
theorem dX0_needShares_1 : decode cX0_needShares 1 = .ok (.iconst 1, 1) := by decide +kernel
theorem dX0_needShares_2 : decode cX0_needShares 2 = .ok (.if_icmp .lt 9, 3) := by decide +kernel
theorem dX0_needShares_5 : decode cX0_needShares 5 = .ok (.iload_n 0, 1) := by decide +kernel
theorem dX0_needShares_6 : decode cX0_needShares 6 = .ok (.bipush 64, 2) := by decide +kernel
theorem dX0_needShares_8 : decode cX0_needShares 8 = .ok (.if_icmp .le 13, 3) := by decide +kernel
theorem dX0_needShares_11 : decode cX0_needShares 11 = .ok (.new 66, 3) := by decide +kernel
theorem dX0_needShares_14 : decode cX0_needShares 14 = .ok (.dup, 1) := by decide +kernel
theorem dX0_needShares_15 : decode cX0_needShares 15 = .ok (.ldc 200, 2) := by decide +kernel
theorem dX0_needShares_17 : decode cX0_needShares 17 = .ok (.invokespecial 70, 3) := by decide +kernel
theorem dX0_needShares_20 : decode cX0_needShares 20 = .ok (.athrow, 1) := by decide +kernel
theorem dX0_needShares_21 : decode cX0_needShares 21 = .ok (.return_, 1) := by decide +kernel
theorem dX0_needPassengers_0 : decode cX0_needPassengers 0 = .ok (.iload_n 0, 1) := by decide +kernel
theorem dX0_needPassengers_1 : decode cX0_needPassengers 1 = .ok (.iconst 1, 1) := by decide +kernel
theorem dX0_needPassengers_2 : decode cX0_needPassengers 2 = .ok (.if_icmp .lt 10, 3) := by decide +kernel
theorem dX0_needPassengers_5 : decode cX0_needPassengers 5 = .ok (.iload_n 0, 1) := by decide +kernel
theorem dX0_needPassengers_6 : decode cX0_needPassengers 6 = .ok (.sipush 200, 3) := by decide +kernel
theorem dX0_needPassengers_9 : decode cX0_needPassengers 9 = .ok (.if_icmp .le 13, 3) := by decide +kernel
theorem dX0_needPassengers_12 : decode cX0_needPassengers 12 = .ok (.new 66, 3) := by decide +kernel
theorem dX0_needPassengers_15 : decode cX0_needPassengers 15 = .ok (.dup, 1) := by decide +kernel
theorem dX0_needPassengers_16 : decode cX0_needPassengers 16 = .ok (.ldc 202, 2) := by decide +kernel
theorem dX0_needPassengers_18 : decode cX0_needPassengers 18 = .ok (.invokespecial 70, 3) := by decide +kernel
theorem dX0_needPassengers_21 : decode cX0_needPassengers 21 = .ok (.athrow, 1) := by decide +kernel
theorem dX0_needPassengers_22 : decode cX0_needPassengers 22 = .ok (.return_, 1) := by decide +kernel
theorem dX0_needAlive_0 : decode cX0_needAlive 0 = .ok (.aload_n 0, 1) := by decide +kernel
theorem dX0_needAlive_1 : decode cX0_needAlive 1 = .ok (.getfield 26, 3) := by decide +kernel
theorem dX0_needAlive_4 : decode cX0_needAlive 4 = .ok (.iload_n 1, 1) := by decide +kernel
theorem dX0_needAlive_5 : decode cX0_needAlive 5 = .ok (.baload, 1) := by decide +kernel
theorem dX0_needAlive_6 : decode cX0_needAlive 6 = .ok (.ifCond .ne 13, 3) := by decide +kernel
theorem dX0_needAlive_9 : decode cX0_needAlive 9 = .ok (.new 46, 3) := by decide +kernel
theorem dX0_needAlive_12 : decode cX0_needAlive 12 = .ok (.dup, 1) := by decide +kernel
theorem dX0_needAlive_13 : decode cX0_needAlive 13 = .ok (.ldc 204, 2) := by decide +kernel
theorem dX0_needAlive_15 : decode cX0_needAlive 15 = .ok (.invokespecial 50, 3) := by decide +kernel
theorem dX0_needAlive_18 : decode cX0_needAlive 18 = .ok (.athrow, 1) := by decide +kernel
theorem dX0_needAlive_19 : decode cX0_needAlive 19 = .ok (.return_, 1) := by decide +kernel
theorem dX0_needRoomForPerson_0 : decode cX0_needRoomForPerson 0 = .ok (.aload_n 0, 1) := by decide +kernel
theorem dX0_needRoomForPerson_1 : decode cX0_needRoomForPerson 1 = .ok (.getfield 23, 3) := by decide +kernel
theorem dX0_needRoomForPerson_4 : decode cX0_needRoomForPerson 4 = .ok (.bipush 12, 2) := by decide +kernel
theorem dX0_needRoomForPerson_6 : decode cX0_needRoomForPerson 6 = .ok (.if_icmp .lt 13, 3) := by decide +kernel
theorem dX0_needRoomForPerson_9 : decode cX0_needRoomForPerson 9 = .ok (.new 46, 3) := by decide +kernel
theorem dX0_needRoomForPerson_12 : decode cX0_needRoomForPerson 12 = .ok (.dup, 1) := by decide +kernel
theorem dX0_needRoomForPerson_13 : decode cX0_needRoomForPerson 13 = .ok (.ldc 206, 2) := by decide +kernel
theorem dX0_needRoomForPerson_15 : decode cX0_needRoomForPerson 15 = .ok (.invokespecial 50, 3) := by decide +kernel
theorem dX0_needRoomForPerson_18 : decode cX0_needRoomForPerson 18 = .ok (.athrow, 1) := by decide +kernel
theorem dX0_needRoomForPerson_19 : decode cX0_needRoomForPerson 19 = .ok (.return_, 1) := by decide +kernel
theorem dX0_settle_0 : decode cX0_settle 0 = .ok (.aload_n 0, 1) := by decide +kernel
theorem dX0_settle_1 : decode cX0_settle 1 = .ok (.getfield 23, 3) := by decide +kernel
theorem dX0_settle_4 : decode cX0_settle 4 = .ok (.istore_n 2, 1) := by decide +kernel
theorem dX0_settle_5 : decode cX0_settle 5 = .ok (.aload_n 0, 1) := by decide +kernel
theorem dX0_settle_6 : decode cX0_settle 6 = .ok (.getfield 26, 3) := by decide +kernel
theorem dX0_settle_9 : decode cX0_settle 9 = .ok (.iload_n 2, 1) := by decide +kernel
theorem dX0_settle_10 : decode cX0_settle 10 = .ok (.iconst 1, 1) := by decide +kernel
theorem dX0_settle_11 : decode cX0_settle 11 = .ok (.bastore, 1) := by decide +kernel
theorem dX0_settle_12 : decode cX0_settle 12 = .ok (.aload_n 0, 1) := by decide +kernel
theorem dX0_settle_13 : decode cX0_settle 13 = .ok (.getfield 36, 3) := by decide +kernel
theorem dX0_settle_16 : decode cX0_settle 16 = .ok (.iload_n 2, 1) := by decide +kernel
theorem dX0_settle_17 : decode cX0_settle 17 = .ok (.iload_n 1, 1) := by decide +kernel
theorem dX0_settle_18 : decode cX0_settle 18 = .ok (.iastore, 1) := by decide +kernel
theorem dX0_settle_19 : decode cX0_settle 19 = .ok (.aload_n 0, 1) := by decide +kernel
theorem dX0_settle_20 : decode cX0_settle 20 = .ok (.iload_n 2, 1) := by decide +kernel
theorem dX0_settle_21 : decode cX0_settle 21 = .ok (.iconst 1, 1) := by decide +kernel
theorem dX0_settle_22 : decode cX0_settle 22 = .ok (.iadd, 1) := by decide +kernel
theorem dX0_settle_23 : decode cX0_settle 23 = .ok (.putfield 23, 3) := by decide +kernel
theorem dX0_settle_26 : decode cX0_settle 26 = .ok (.iload_n 2, 1) := by decide +kernel
theorem dX0_settle_27 : decode cX0_settle 27 = .ok (.ireturn, 1) := by decide +kernel
theorem dX0_addCoins_0 : decode cX0_addCoins 0 = .ok (.aload_n 0, 1) := by decide +kernel
theorem dX0_addCoins_1 : decode cX0_addCoins 1 = .ok (.getfield 30, 3) := by decide +kernel
theorem dX0_addCoins_4 : decode cX0_addCoins 4 = .ok (.iload_n 1, 1) := by decide +kernel
theorem dX0_addCoins_5 : decode cX0_addCoins 5 = .ok (.sipush 9999, 3) := by decide +kernel
theorem dX0_addCoins_8 : decode cX0_addCoins 8 = .ok (.aload_n 0, 1) := by decide +kernel
theorem dX0_addCoins_9 : decode cX0_addCoins 9 = .ok (.getfield 30, 3) := by decide +kernel
theorem dX0_addCoins_12 : decode cX0_addCoins 12 = .ok (.iload_n 1, 1) := by decide +kernel
theorem dX0_addCoins_13 : decode cX0_addCoins 13 = .ok (.iaload, 1) := by decide +kernel
theorem dX0_addCoins_14 : decode cX0_addCoins 14 = .ok (.iload_n 2, 1) := by decide +kernel
theorem dX0_addCoins_15 : decode cX0_addCoins 15 = .ok (.iadd, 1) := by decide +kernel
theorem dX0_addCoins_16 : decode cX0_addCoins 16 = .ok (.invokestatic 208, 3) := by decide +kernel
theorem dX0_addCoins_19 : decode cX0_addCoins 19 = .ok (.iastore, 1) := by decide +kernel
theorem dX0_addCoins_20 : decode cX0_addCoins 20 = .ok (.return_, 1) := by decide +kernel
theorem dX0_countChildren_0 : decode cX0_countChildren 0 = .ok (.iconst 0, 1) := by decide +kernel
theorem dX0_countChildren_1 : decode cX0_countChildren 1 = .ok (.istore_n 2, 1) := by decide +kernel
theorem dX0_countChildren_2 : decode cX0_countChildren 2 = .ok (.iconst 0, 1) := by decide +kernel
theorem dX0_countChildren_3 : decode cX0_countChildren 3 = .ok (.istore_n 3, 1) := by decide +kernel
theorem dX0_countChildren_4 : decode cX0_countChildren 4 = .ok (.iload_n 3, 1) := by decide +kernel
theorem dX0_countChildren_5 : decode cX0_countChildren 5 = .ok (.aload_n 0, 1) := by decide +kernel
theorem dX0_countChildren_6 : decode cX0_countChildren 6 = .ok (.getfield 23, 3) := by decide +kernel
theorem dX0_countChildren_9 : decode cX0_countChildren 9 = .ok (.if_icmp .ge 22, 3) := by decide +kernel
theorem dX0_countChildren_12 : decode cX0_countChildren 12 = .ok (.aload_n 0, 1) := by decide +kernel
theorem dX0_countChildren_13 : decode cX0_countChildren 13 = .ok (.getfield 36, 3) := by decide +kernel
theorem dX0_countChildren_16 : decode cX0_countChildren 16 = .ok (.iload_n 3, 1) := by decide +kernel
theorem dX0_countChildren_17 : decode cX0_countChildren 17 = .ok (.iaload, 1) := by decide +kernel
theorem dX0_countChildren_18 : decode cX0_countChildren 18 = .ok (.iload_n 1, 1) := by decide +kernel
theorem dX0_countChildren_19 : decode cX0_countChildren 19 = .ok (.if_icmp .ne 6, 3) := by decide +kernel
theorem dX0_countChildren_22 : decode cX0_countChildren 22 = .ok (.iinc 2 1, 3) := by decide +kernel
theorem dX0_countChildren_25 : decode cX0_countChildren 25 = .ok (.iinc 3 1, 3) := by decide +kernel
theorem dX0_countChildren_28 : decode cX0_countChildren 28 = .ok (.goto (-24), 3) := by decide +kernel
theorem dX0_countChildren_31 : decode cX0_countChildren 31 = .ok (.iload_n 2, 1) := by decide +kernel
theorem dX0_countChildren_32 : decode cX0_countChildren 32 = .ok (.ireturn, 1) := by decide +kernel
theorem dX0_slot_0 : decode cX0_slot 0 = .ok (.iload_n 0, 1) := by decide +kernel
theorem dX0_slot_1 : decode cX0_slot 1 = .ok (.iconst 4, 1) := by decide +kernel
theorem dX0_slot_2 : decode cX0_slot 2 = .ok (.imul, 1) := by decide +kernel
theorem dX0_slot_3 : decode cX0_slot 3 = .ok (.iload_n 1, 1) := by decide +kernel
theorem dX0_slot_4 : decode cX0_slot 4 = .ok (.iadd, 1) := by decide +kernel
theorem dX0_slot_5 : decode cX0_slot 5 = .ok (.bipush 12, 2) := by decide +kernel
theorem dX0_slot_7 : decode cX0_slot 7 = .ok (.imul, 1) := by decide +kernel
theorem dX0_slot_8 : decode cX0_slot 8 = .ok (.iload_n 2, 1) := by decide +kernel
theorem dX0_slot_9 : decode cX0_slot 9 = .ok (.iadd, 1) := by decide +kernel
theorem dX0_slot_10 : decode cX0_slot 10 = .ok (.ireturn, 1) := by decide +kernel
set_option maxRecDepth 20000 in
theorem ggX0_owns_X0_slot : GoodIn wsX0_owns wsX0_slot := goodIn_r _ [5] (by decide +kernel) (by decide +kernel)
set_option maxRecDepth 20000 in
theorem gX0_owns_X0_slot : GoodIn wsX0_owns (va_wsS RX0 213 yX0_slot wsX0_slot) := goodIn_app (goodIn_of _ (by decide +kernel)) ggX0_owns_X0_slot
theorem dX0_owns_0 : decode cX0_owns 0 = .ok (.aload_n 0, 1) := by decide +kernel
theorem dX0_owns_1 : decode cX0_owns 1 = .ok (.getfield 20, 3) := by decide +kernel
theorem dX0_owns_4 : decode cX0_owns 4 = .ok (.iload_n 1, 1) := by decide +kernel
theorem dX0_owns_5 : decode cX0_owns 5 = .ok (.iload_n 2, 1) := by decide +kernel
theorem dX0_owns_6 : decode cX0_owns 6 = .ok (.iload_n 3, 1) := by decide +kernel
theorem dX0_owns_7 : decode cX0_owns 7 = .ok (.invokestatic 213, 3) := by decide +kernel
theorem dX0_owns_10 : decode cX0_owns 10 = .ok (.iaload, 1) := by decide +kernel
theorem dX0_owns_11 : decode cX0_owns 11 = .ok (.ireturn, 1) := by decide +kernel
set_option maxRecDepth 20000 in
theorem ggX0_addShares_X0_slot : GoodIn wsX0_addShares wsX0_slot := goodIn_r _ [5] (by decide +kernel) (by decide +kernel)
set_option maxRecDepth 20000 in
theorem gX0_addShares_X0_slot : GoodIn wsX0_addShares (va_wsS RX0 213 yX0_slot wsX0_slot) := goodIn_app (goodIn_of _ (by decide +kernel)) ggX0_addShares_X0_slot
theorem dX0_addShares_0 : decode cX0_addShares 0 = .ok (.aload_n 0, 1) := by decide +kernel
theorem dX0_addShares_1 : decode cX0_addShares 1 = .ok (.getfield 20, 3) := by decide +kernel
theorem dX0_addShares_4 : decode cX0_addShares 4 = .ok (.iload_n 1, 1) := by decide +kernel
theorem dX0_addShares_5 : decode cX0_addShares 5 = .ok (.iload_n 2, 1) := by decide +kernel
theorem dX0_addShares_6 : decode cX0_addShares 6 = .ok (.iload_n 3, 1) := by decide +kernel
theorem dX0_addShares_7 : decode cX0_addShares 7 = .ok (.invokestatic 213, 3) := by decide +kernel
theorem dX0_addShares_10 : decode cX0_addShares 10 = .ok (.dup2, 1) := by decide +kernel
theorem dX0_addShares_11 : decode cX0_addShares 11 = .ok (.iaload, 1) := by decide +kernel
theorem dX0_addShares_12 : decode cX0_addShares 12 = .ok (.iload 4, 2) := by decide +kernel
theorem dX0_addShares_14 : decode cX0_addShares 14 = .ok (.iadd, 1) := by decide +kernel
theorem dX0_addShares_15 : decode cX0_addShares 15 = .ok (.iastore, 1) := by decide +kernel
theorem dX0_addShares_16 : decode cX0_addShares 16 = .ok (.return_, 1) := by decide +kernel
set_option maxRecDepth 20000 in
theorem ggX0_crownOwns_X0_owns : GoodIn wsX0_crownOwns wsX0_owns := goodIn_r _ [6, 7, 8, 9, 5, 10, 11, 12, 13, 14, 15, 16, 17, 18, 19, 20] (by decide +kernel) (by decide +kernel)
set_option maxRecDepth 20000 in
theorem gX0_crownOwns_X0_owns : GoodIn wsX0_crownOwns (wsV RX0 96 RX0 yX0_owns wsX0_owns) := goodIn_app (goodIn_of _ (by decide +kernel)) ggX0_crownOwns_X0_owns
theorem dX0_crownOwns_0 : decode cX0_crownOwns 0 = .ok (.bipush 64, 2) := by decide +kernel
theorem dX0_crownOwns_2 : decode cX0_crownOwns 2 = .ok (.istore_n 3, 1) := by decide +kernel
theorem dX0_crownOwns_3 : decode cX0_crownOwns 3 = .ok (.iconst 0, 1) := by decide +kernel
theorem dX0_crownOwns_4 : decode cX0_crownOwns 4 = .ok (.istore 4, 2) := by decide +kernel
theorem dX0_crownOwns_6 : decode cX0_crownOwns 6 = .ok (.iload 4, 2) := by decide +kernel
theorem dX0_crownOwns_8 : decode cX0_crownOwns 8 = .ok (.aload_n 0, 1) := by decide +kernel
theorem dX0_crownOwns_9 : decode cX0_crownOwns 9 = .ok (.getfield 23, 3) := by decide +kernel
theorem dX0_crownOwns_12 : decode cX0_crownOwns 12 = .ok (.if_icmp .ge 20, 3) := by decide +kernel
theorem dX0_crownOwns_15 : decode cX0_crownOwns 15 = .ok (.iload_n 3, 1) := by decide +kernel
theorem dX0_crownOwns_16 : decode cX0_crownOwns 16 = .ok (.aload_n 0, 1) := by decide +kernel
theorem dX0_crownOwns_17 : decode cX0_crownOwns 17 = .ok (.iload_n 1, 1) := by decide +kernel
theorem dX0_crownOwns_18 : decode cX0_crownOwns 18 = .ok (.iload_n 2, 1) := by decide +kernel
theorem dX0_crownOwns_19 : decode cX0_crownOwns 19 = .ok (.iload 4, 2) := by decide +kernel
theorem dX0_crownOwns_21 : decode cX0_crownOwns 21 = .ok (.invokevirtual 96, 3) := by decide +kernel
theorem dX0_crownOwns_24 : decode cX0_crownOwns 24 = .ok (.isub, 1) := by decide +kernel
theorem dX0_crownOwns_25 : decode cX0_crownOwns 25 = .ok (.istore_n 3, 1) := by decide +kernel
theorem dX0_crownOwns_26 : decode cX0_crownOwns 26 = .ok (.iinc 4 1, 3) := by decide +kernel
theorem dX0_crownOwns_29 : decode cX0_crownOwns 29 = .ok (.goto (-23), 3) := by decide +kernel
theorem dX0_crownOwns_32 : decode cX0_crownOwns 32 = .ok (.iload_n 3, 1) := by decide +kernel
theorem dX0_crownOwns_33 : decode cX0_crownOwns 33 = .ok (.ireturn, 1) := by decide +kernel
set_option maxRecDepth 20000 in
theorem ggX0_countSharesOfFerry_X0_owns : GoodIn wsX0_countSharesOfFerry wsX0_owns := goodIn_r _ [5, 6, 7, 8, 4, 9, 10, 11, 12, 13, 14, 15, 16, 17, 18, 19] (by decide +kernel) (by decide +kernel)
set_option maxRecDepth 20000 in
theorem gX0_countSharesOfFerry_X0_owns : GoodIn wsX0_countSharesOfFerry (wsV RX0 96 RX0 yX0_owns wsX0_owns) := goodIn_app (goodIn_of _ (by decide +kernel)) ggX0_countSharesOfFerry_X0_owns
theorem dX0_countSharesOfFerry_0 : decode cX0_countSharesOfFerry 0 = .ok (.iconst 0, 1) := by decide +kernel
theorem dX0_countSharesOfFerry_1 : decode cX0_countSharesOfFerry 1 = .ok (.istore_n 3, 1) := by decide +kernel
theorem dX0_countSharesOfFerry_2 : decode cX0_countSharesOfFerry 2 = .ok (.iconst 0, 1) := by decide +kernel
theorem dX0_countSharesOfFerry_3 : decode cX0_countSharesOfFerry 3 = .ok (.istore 4, 2) := by decide +kernel
theorem dX0_countSharesOfFerry_5 : decode cX0_countSharesOfFerry 5 = .ok (.iload 4, 2) := by decide +kernel
theorem dX0_countSharesOfFerry_7 : decode cX0_countSharesOfFerry 7 = .ok (.iconst 4, 1) := by decide +kernel
theorem dX0_countSharesOfFerry_8 : decode cX0_countSharesOfFerry 8 = .ok (.if_icmp .ge 20, 3) := by decide +kernel
theorem dX0_countSharesOfFerry_11 : decode cX0_countSharesOfFerry 11 = .ok (.iload_n 3, 1) := by decide +kernel
theorem dX0_countSharesOfFerry_12 : decode cX0_countSharesOfFerry 12 = .ok (.aload_n 0, 1) := by decide +kernel
theorem dX0_countSharesOfFerry_13 : decode cX0_countSharesOfFerry 13 = .ok (.iload_n 1, 1) := by decide +kernel
theorem dX0_countSharesOfFerry_14 : decode cX0_countSharesOfFerry 14 = .ok (.iload 4, 2) := by decide +kernel
theorem dX0_countSharesOfFerry_16 : decode cX0_countSharesOfFerry 16 = .ok (.iload_n 2, 1) := by decide +kernel
theorem dX0_countSharesOfFerry_17 : decode cX0_countSharesOfFerry 17 = .ok (.invokevirtual 96, 3) := by decide +kernel
theorem dX0_countSharesOfFerry_20 : decode cX0_countSharesOfFerry 20 = .ok (.iadd, 1) := by decide +kernel
theorem dX0_countSharesOfFerry_21 : decode cX0_countSharesOfFerry 21 = .ok (.istore_n 3, 1) := by decide +kernel
theorem dX0_countSharesOfFerry_22 : decode cX0_countSharesOfFerry 22 = .ok (.iinc 4 1, 3) := by decide +kernel
theorem dX0_countSharesOfFerry_25 : decode cX0_countSharesOfFerry 25 = .ok (.goto (-20), 3) := by decide +kernel
theorem dX0_countSharesOfFerry_28 : decode cX0_countSharesOfFerry 28 = .ok (.iload_n 3, 1) := by decide +kernel
theorem dX0_countSharesOfFerry_29 : decode cX0_countSharesOfFerry 29 = .ok (.ireturn, 1) := by decide +kernel
set_option maxRecDepth 20000 in
theorem ggX0_countAllShares_X0_countSharesOfFerry : GoodIn wsX0_countAllShares wsX0_countSharesOfFerry := goodIn_r _ [6, 7, 8, 9, 5, 10, 11, 12, 13, 14, 15, 16, 17, 18, 19, 20, 21, 22, 23, 24] (by decide +kernel) (by decide +kernel)
set_option maxRecDepth 20000 in
theorem gX0_countAllShares_X0_countSharesOfFerry : GoodIn wsX0_countAllShares (wsV RX0 216 RX0 yX0_countSharesOfFerry wsX0_countSharesOfFerry) := goodIn_app (goodIn_of _ (by decide +kernel)) ggX0_countAllShares_X0_countSharesOfFerry
theorem dX0_countAllShares_0 : decode cX0_countAllShares 0 = .ok (.iconst 0, 1) := by decide +kernel
theorem dX0_countAllShares_1 : decode cX0_countAllShares 1 = .ok (.istore_n 2, 1) := by decide +kernel
theorem dX0_countAllShares_2 : decode cX0_countAllShares 2 = .ok (.iconst 0, 1) := by decide +kernel
theorem dX0_countAllShares_3 : decode cX0_countAllShares 3 = .ok (.istore_n 3, 1) := by decide +kernel
theorem dX0_countAllShares_4 : decode cX0_countAllShares 4 = .ok (.iload_n 3, 1) := by decide +kernel
theorem dX0_countAllShares_5 : decode cX0_countAllShares 5 = .ok (.aload_n 0, 1) := by decide +kernel
theorem dX0_countAllShares_6 : decode cX0_countAllShares 6 = .ok (.getfield 9, 3) := by decide +kernel
theorem dX0_countAllShares_9 : decode cX0_countAllShares 9 = .ok (.if_icmp .ge 18, 3) := by decide +kernel
theorem dX0_countAllShares_12 : decode cX0_countAllShares 12 = .ok (.iload_n 2, 1) := by decide +kernel
theorem dX0_countAllShares_13 : decode cX0_countAllShares 13 = .ok (.aload_n 0, 1) := by decide +kernel
theorem dX0_countAllShares_14 : decode cX0_countAllShares 14 = .ok (.iload_n 3, 1) := by decide +kernel
theorem dX0_countAllShares_15 : decode cX0_countAllShares 15 = .ok (.iload_n 1, 1) := by decide +kernel
theorem dX0_countAllShares_16 : decode cX0_countAllShares 16 = .ok (.invokevirtual 216, 3) := by decide +kernel
theorem dX0_countAllShares_19 : decode cX0_countAllShares 19 = .ok (.iadd, 1) := by decide +kernel
theorem dX0_countAllShares_20 : decode cX0_countAllShares 20 = .ok (.istore_n 2, 1) := by decide +kernel
theorem dX0_countAllShares_21 : decode cX0_countAllShares 21 = .ok (.iinc 3 1, 3) := by decide +kernel
theorem dX0_countAllShares_24 : decode cX0_countAllShares 24 = .ok (.goto (-20), 3) := by decide +kernel
theorem dX0_countAllShares_27 : decode cX0_countAllShares 27 = .ok (.iload_n 2, 1) := by decide +kernel
theorem dX0_countAllShares_28 : decode cX0_countAllShares 28 = .ok (.ireturn, 1) := by decide +kernel
set_option maxRecDepth 20000 in
theorem ggX0_findMaster_X0_countSharesOfFerry : GoodIn wsX0_findMaster wsX0_countSharesOfFerry := goodIn_r _ [6, 7, 8, 9, 5, 10, 11, 12, 13, 14, 15, 16, 17, 18, 19, 20, 21, 22, 23, 24] (by decide +kernel) (by decide +kernel)
set_option maxRecDepth 20000 in
theorem gX0_findMaster_X0_countSharesOfFerry : GoodIn wsX0_findMaster (wsV RX0 216 RX0 yX0_countSharesOfFerry wsX0_countSharesOfFerry) := goodIn_app (goodIn_of _ (by decide +kernel)) ggX0_findMaster_X0_countSharesOfFerry
theorem dX0_findMaster_0 : decode cX0_findMaster 0 = .ok (.iconst 0, 1) := by decide +kernel
theorem dX0_findMaster_1 : decode cX0_findMaster 1 = .ok (.istore_n 2, 1) := by decide +kernel
theorem dX0_findMaster_2 : decode cX0_findMaster 2 = .ok (.iload_n 2, 1) := by decide +kernel
theorem dX0_findMaster_3 : decode cX0_findMaster 3 = .ok (.aload_n 0, 1) := by decide +kernel
theorem dX0_findMaster_4 : decode cX0_findMaster 4 = .ok (.getfield 23, 3) := by decide +kernel
theorem dX0_findMaster_7 : decode cX0_findMaster 7 = .ok (.if_icmp .ge 23, 3) := by decide +kernel
theorem dX0_findMaster_10 : decode cX0_findMaster 10 = .ok (.aload_n 0, 1) := by decide +kernel
theorem dX0_findMaster_11 : decode cX0_findMaster 11 = .ok (.iload_n 1, 1) := by decide +kernel
theorem dX0_findMaster_12 : decode cX0_findMaster 12 = .ok (.iload_n 2, 1) := by decide +kernel
theorem dX0_findMaster_13 : decode cX0_findMaster 13 = .ok (.invokevirtual 216, 3) := by decide +kernel
theorem dX0_findMaster_16 : decode cX0_findMaster 16 = .ok (.sipush 128, 3) := by decide +kernel
theorem dX0_findMaster_19 : decode cX0_findMaster 19 = .ok (.if_icmp .le 5, 3) := by decide +kernel
theorem dX0_findMaster_22 : decode cX0_findMaster 22 = .ok (.iload_n 2, 1) := by decide +kernel
theorem dX0_findMaster_23 : decode cX0_findMaster 23 = .ok (.ireturn, 1) := by decide +kernel
theorem dX0_findMaster_24 : decode cX0_findMaster 24 = .ok (.iinc 2 1, 3) := by decide +kernel
theorem dX0_findMaster_27 : decode cX0_findMaster 27 = .ok (.goto (-25), 3) := by decide +kernel
theorem dX0_findMaster_30 : decode cX0_findMaster 30 = .ok (.iconst (-1), 1) := by decide +kernel
theorem dX0_findMaster_31 : decode cX0_findMaster 31 = .ok (.ireturn, 1) := by decide +kernel
theorem dX0_worth_0 : decode cX0_worth 0 = .ok (.aload_n 0, 1) := by decide +kernel
theorem dX0_worth_1 : decode cX0_worth 1 = .ok (.getfield 13, 3) := by decide +kernel
theorem dX0_worth_4 : decode cX0_worth 4 = .ok (.iload_n 1, 1) := by decide +kernel
theorem dX0_worth_5 : decode cX0_worth 5 = .ok (.iaload, 1) := by decide +kernel
theorem dX0_worth_6 : decode cX0_worth 6 = .ok (.getstatic 219, 3) := by decide +kernel
theorem dX0_worth_9 : decode cX0_worth 9 = .ok (.iload_n 2, 1) := by decide +kernel
theorem dX0_worth_10 : decode cX0_worth 10 = .ok (.iaload, 1) := by decide +kernel
theorem dX0_worth_11 : decode cX0_worth 11 = .ok (.imul, 1) := by decide +kernel
theorem dX0_worth_12 : decode cX0_worth 12 = .ok (.iconst 1, 1) := by decide +kernel
theorem dX0_worth_13 : decode cX0_worth 13 = .ok (.iadd, 1) := by decide +kernel
theorem dX0_worth_14 : decode cX0_worth 14 = .ok (.ireturn, 1) := by decide +kernel
set_option maxRecDepth 20000 in
theorem ggX0_priceOf_X0_owns : GoodIn wsX0_priceOf wsX0_owns := goodIn_r _ [5, 6, 7, 8, 4, 9, 16, 17, 18, 19, 20, 21, 22, 23, 24, 25] (by decide +kernel) (by decide +kernel)
set_option maxRecDepth 20000 in
theorem gX0_priceOf_X0_owns : GoodIn wsX0_priceOf (wsV RX0 96 RX0 yX0_owns wsX0_owns) := goodIn_app (goodIn_of _ (by decide +kernel)) ggX0_priceOf_X0_owns
set_option maxRecDepth 20000 in
theorem ggX0_priceOf_X0_worth : GoodIn wsX0_priceOf wsX0_worth := goodIn_r _ [13, 14, 15, 16, 17, 18, 19, 20, 21, 22, 23, 24, 25] (by decide +kernel) (by decide +kernel)
set_option maxRecDepth 20000 in
theorem gX0_priceOf_X0_worth : GoodIn wsX0_priceOf (wsV RX0 146 RX0 yX0_worth wsX0_worth) := goodIn_app (goodIn_of _ (by decide +kernel)) ggX0_priceOf_X0_worth
theorem dX0_priceOf_0 : decode cX0_priceOf 0 = .ok (.aload_n 0, 1) := by decide +kernel
theorem dX0_priceOf_1 : decode cX0_priceOf 1 = .ok (.iload_n 2, 1) := by decide +kernel
theorem dX0_priceOf_2 : decode cX0_priceOf 2 = .ok (.iload_n 3, 1) := by decide +kernel
theorem dX0_priceOf_3 : decode cX0_priceOf 3 = .ok (.iload_n 1, 1) := by decide +kernel
theorem dX0_priceOf_4 : decode cX0_priceOf 4 = .ok (.invokevirtual 96, 3) := by decide +kernel
theorem dX0_priceOf_7 : decode cX0_priceOf 7 = .ok (.aload_n 0, 1) := by decide +kernel
theorem dX0_priceOf_8 : decode cX0_priceOf 8 = .ok (.iload_n 2, 1) := by decide +kernel
theorem dX0_priceOf_9 : decode cX0_priceOf 9 = .ok (.iload_n 3, 1) := by decide +kernel
theorem dX0_priceOf_10 : decode cX0_priceOf 10 = .ok (.invokevirtual 146, 3) := by decide +kernel
theorem dX0_priceOf_13 : decode cX0_priceOf 13 = .ok (.imul, 1) := by decide +kernel
theorem dX0_priceOf_14 : decode cX0_priceOf 14 = .ok (.ireturn, 1) := by decide +kernel
set_option maxRecDepth 20000 in
theorem ggX0_mayBuy_X0_priceOf : GoodIn wsX0_mayBuy wsX0_priceOf := goodIn_r _ [7, 8, 9, 10, 6, 11, 12, 13, 14, 15, 16, 17, 18, 19, 20, 21, 27, 28, 29, 30, 31, 32, 33, 34, 35, 36] (by decide +kernel) (by decide +kernel)
set_option maxRecDepth 20000 in
theorem gX0_mayBuy_X0_priceOf : GoodIn wsX0_mayBuy (wsV RX0 111 RX0 yX0_priceOf wsX0_priceOf) := goodIn_app (goodIn_of _ (by decide +kernel)) ggX0_mayBuy_X0_priceOf
set_option maxRecDepth 20000 in
theorem ggX0_mayBuy_X0_owns : GoodIn wsX0_mayBuy wsX0_owns := goodIn_r _ [11, 12, 13, 14, 6, 15, 27, 28, 29, 30, 31, 32, 33, 34, 35, 36] (by decide +kernel) (by decide +kernel)
set_option maxRecDepth 20000 in
theorem gX0_mayBuy_X0_owns : GoodIn wsX0_mayBuy (wsV RX0 96 RX0 yX0_owns wsX0_owns) := goodIn_app (goodIn_of _ (by decide +kernel)) ggX0_mayBuy_X0_owns
set_option maxRecDepth 20000 in
theorem ggX0_mayBuy_X0_otherOwnerHas : GoodIn wsX0_mayBuy wsX0_otherOwnerHas := goodIn_r _ [25, 26, 2, 8, 9, 10, 6, 11, 12, 13, 14, 15, 27, 28, 29, 30, 31, 32, 33, 34, 35, 36] (by decide +kernel) (by decide +kernel)
set_option maxRecDepth 20000 in
theorem gX0_mayBuy_X0_otherOwnerHas : GoodIn wsX0_mayBuy (wsV RX0 222 RX0 yX0_otherOwnerHas wsX0_otherOwnerHas) := goodIn_app (goodIn_of _ (by decide +kernel)) ggX0_mayBuy_X0_otherOwnerHas
theorem dX0_mayBuy_0 : decode cX0_mayBuy 0 = .ok (.aload_n 0, 1) := by decide +kernel
theorem dX0_mayBuy_1 : decode cX0_mayBuy 1 = .ok (.iload_n 2, 1) := by decide +kernel
theorem dX0_mayBuy_2 : decode cX0_mayBuy 2 = .ok (.iload_n 3, 1) := by decide +kernel
theorem dX0_mayBuy_3 : decode cX0_mayBuy 3 = .ok (.iload 4, 2) := by decide +kernel
theorem dX0_mayBuy_5 : decode cX0_mayBuy 5 = .ok (.invokevirtual 111, 3) := by decide +kernel
theorem dX0_mayBuy_8 : decode cX0_mayBuy 8 = .ok (.istore 5, 2) := by decide +kernel
theorem dX0_mayBuy_10 : decode cX0_mayBuy 10 = .ok (.aload_n 0, 1) := by decide +kernel
theorem dX0_mayBuy_11 : decode cX0_mayBuy 11 = .ok (.getfield 26, 3) := by decide +kernel
theorem dX0_mayBuy_14 : decode cX0_mayBuy 14 = .ok (.iload_n 1, 1) := by decide +kernel
theorem dX0_mayBuy_15 : decode cX0_mayBuy 15 = .ok (.baload, 1) := by decide +kernel
theorem dX0_mayBuy_16 : decode cX0_mayBuy 16 = .ok (.ifCond .eq 19, 3) := by decide +kernel
theorem dX0_mayBuy_19 : decode cX0_mayBuy 19 = .ok (.iload_n 1, 1) := by decide +kernel
theorem dX0_mayBuy_20 : decode cX0_mayBuy 20 = .ok (.iload_n 2, 1) := by decide +kernel
theorem dX0_mayBuy_21 : decode cX0_mayBuy 21 = .ok (.if_icmp .eq 14, 3) := by decide +kernel
theorem dX0_mayBuy_24 : decode cX0_mayBuy 24 = .ok (.aload_n 0, 1) := by decide +kernel
theorem dX0_mayBuy_25 : decode cX0_mayBuy 25 = .ok (.getfield 30, 3) := by decide +kernel
theorem dX0_mayBuy_28 : decode cX0_mayBuy 28 = .ok (.iload_n 1, 1) := by decide +kernel
theorem dX0_mayBuy_29 : decode cX0_mayBuy 29 = .ok (.iaload, 1) := by decide +kernel
theorem dX0_mayBuy_30 : decode cX0_mayBuy 30 = .ok (.iload 5, 2) := by decide +kernel
theorem dX0_mayBuy_32 : decode cX0_mayBuy 32 = .ok (.if_icmp .ge 5, 3) := by decide +kernel
theorem dX0_mayBuy_35 : decode cX0_mayBuy 35 = .ok (.iconst 0, 1) := by decide +kernel
theorem dX0_mayBuy_36 : decode cX0_mayBuy 36 = .ok (.ireturn, 1) := by decide +kernel
theorem dX0_mayBuy_37 : decode cX0_mayBuy 37 = .ok (.aload_n 0, 1) := by decide +kernel
theorem dX0_mayBuy_38 : decode cX0_mayBuy 38 = .ok (.iload_n 3, 1) := by decide +kernel
theorem dX0_mayBuy_39 : decode cX0_mayBuy 39 = .ok (.iload 4, 2) := by decide +kernel
theorem dX0_mayBuy_41 : decode cX0_mayBuy 41 = .ok (.iload_n 2, 1) := by decide +kernel
theorem dX0_mayBuy_42 : decode cX0_mayBuy 42 = .ok (.invokevirtual 96, 3) := by decide +kernel
theorem dX0_mayBuy_45 : decode cX0_mayBuy 45 = .ok (.ifCond .ne 5, 3) := by decide +kernel
theorem dX0_mayBuy_48 : decode cX0_mayBuy 48 = .ok (.iconst 0, 1) := by decide +kernel
theorem dX0_mayBuy_49 : decode cX0_mayBuy 49 = .ok (.ireturn, 1) := by decide +kernel
theorem dX0_mayBuy_50 : decode cX0_mayBuy 50 = .ok (.aload_n 0, 1) := by decide +kernel
theorem dX0_mayBuy_51 : decode cX0_mayBuy 51 = .ok (.iload_n 3, 1) := by decide +kernel
theorem dX0_mayBuy_52 : decode cX0_mayBuy 52 = .ok (.iload 4, 2) := by decide +kernel
theorem dX0_mayBuy_54 : decode cX0_mayBuy 54 = .ok (.iload_n 1, 1) := by decide +kernel
theorem dX0_mayBuy_55 : decode cX0_mayBuy 55 = .ok (.invokevirtual 96, 3) := by decide +kernel
theorem dX0_mayBuy_58 : decode cX0_mayBuy 58 = .ok (.ifCond .gt 16, 3) := by decide +kernel
theorem dX0_mayBuy_61 : decode cX0_mayBuy 61 = .ok (.aload_n 0, 1) := by decide +kernel
theorem dX0_mayBuy_62 : decode cX0_mayBuy 62 = .ok (.iload 5, 2) := by decide +kernel
theorem dX0_mayBuy_64 : decode cX0_mayBuy 64 = .ok (.iload_n 2, 1) := by decide +kernel
theorem dX0_mayBuy_65 : decode cX0_mayBuy 65 = .ok (.iload_n 3, 1) := by decide +kernel
theorem dX0_mayBuy_66 : decode cX0_mayBuy 66 = .ok (.iload 4, 2) := by decide +kernel
theorem dX0_mayBuy_68 : decode cX0_mayBuy 68 = .ok (.invokevirtual 222, 3) := by decide +kernel
theorem dX0_mayBuy_71 : decode cX0_mayBuy 71 = .ok (.ifCond .ne 7, 3) := by decide +kernel
theorem dX0_mayBuy_74 : decode cX0_mayBuy 74 = .ok (.iconst 1, 1) := by decide +kernel
theorem dX0_mayBuy_75 : decode cX0_mayBuy 75 = .ok (.goto 4, 3) := by decide +kernel
theorem dX0_mayBuy_78 : decode cX0_mayBuy 78 = .ok (.iconst 0, 1) := by decide +kernel
theorem dX0_mayBuy_79 : decode cX0_mayBuy 79 = .ok (.ireturn, 1) := by decide +kernel
set_option maxRecDepth 20000 in
theorem ggX0_otherOwnerHas_X0_owns : GoodIn wsX0_otherOwnerHas wsX0_owns := goodIn_r _ [7, 8, 9, 10, 6, 11, 12, 13, 14, 15, 16, 17, 18, 19, 20, 21] (by decide +kernel) (by decide +kernel)
set_option maxRecDepth 20000 in
theorem gX0_otherOwnerHas_X0_owns : GoodIn wsX0_otherOwnerHas (wsV RX0 96 RX0 yX0_owns wsX0_owns) := goodIn_app (goodIn_of _ (by decide +kernel)) ggX0_otherOwnerHas_X0_owns
theorem dX0_otherOwnerHas_0 : decode cX0_otherOwnerHas 0 = .ok (.iconst 0, 1) := by decide +kernel
theorem dX0_otherOwnerHas_1 : decode cX0_otherOwnerHas 1 = .ok (.istore 5, 2) := by decide +kernel
theorem dX0_otherOwnerHas_3 : decode cX0_otherOwnerHas 3 = .ok (.iload 5, 2) := by decide +kernel
theorem dX0_otherOwnerHas_5 : decode cX0_otherOwnerHas 5 = .ok (.aload_n 0, 1) := by decide +kernel
theorem dX0_otherOwnerHas_6 : decode cX0_otherOwnerHas 6 = .ok (.getfield 23, 3) := by decide +kernel
theorem dX0_otherOwnerHas_9 : decode cX0_otherOwnerHas 9 = .ok (.if_icmp .ge 40, 3) := by decide +kernel
theorem dX0_otherOwnerHas_12 : decode cX0_otherOwnerHas 12 = .ok (.iload 5, 2) := by decide +kernel
theorem dX0_otherOwnerHas_14 : decode cX0_otherOwnerHas 14 = .ok (.iload_n 2, 1) := by decide +kernel
theorem dX0_otherOwnerHas_15 : decode cX0_otherOwnerHas 15 = .ok (.if_icmp .eq 28, 3) := by decide +kernel
theorem dX0_otherOwnerHas_18 : decode cX0_otherOwnerHas 18 = .ok (.aload_n 0, 1) := by decide +kernel
theorem dX0_otherOwnerHas_19 : decode cX0_otherOwnerHas 19 = .ok (.iload_n 3, 1) := by decide +kernel
theorem dX0_otherOwnerHas_20 : decode cX0_otherOwnerHas 20 = .ok (.iload 4, 2) := by decide +kernel
theorem dX0_otherOwnerHas_22 : decode cX0_otherOwnerHas 22 = .ok (.iload 5, 2) := by decide +kernel
theorem dX0_otherOwnerHas_24 : decode cX0_otherOwnerHas 24 = .ok (.invokevirtual 96, 3) := by decide +kernel
theorem dX0_otherOwnerHas_27 : decode cX0_otherOwnerHas 27 = .ok (.ifCond .le 16, 3) := by decide +kernel
theorem dX0_otherOwnerHas_30 : decode cX0_otherOwnerHas 30 = .ok (.aload_n 0, 1) := by decide +kernel
theorem dX0_otherOwnerHas_31 : decode cX0_otherOwnerHas 31 = .ok (.getfield 30, 3) := by decide +kernel
theorem dX0_otherOwnerHas_34 : decode cX0_otherOwnerHas 34 = .ok (.iload 5, 2) := by decide +kernel
theorem dX0_otherOwnerHas_36 : decode cX0_otherOwnerHas 36 = .ok (.iaload, 1) := by decide +kernel
theorem dX0_otherOwnerHas_37 : decode cX0_otherOwnerHas 37 = .ok (.iload_n 1, 1) := by decide +kernel
theorem dX0_otherOwnerHas_38 : decode cX0_otherOwnerHas 38 = .ok (.if_icmp .lt 5, 3) := by decide +kernel
theorem dX0_otherOwnerHas_41 : decode cX0_otherOwnerHas 41 = .ok (.iconst 1, 1) := by decide +kernel
theorem dX0_otherOwnerHas_42 : decode cX0_otherOwnerHas 42 = .ok (.ireturn, 1) := by decide +kernel
theorem dX0_otherOwnerHas_43 : decode cX0_otherOwnerHas 43 = .ok (.iinc 5 1, 3) := by decide +kernel
theorem dX0_otherOwnerHas_46 : decode cX0_otherOwnerHas 46 = .ok (.goto (-43), 3) := by decide +kernel
theorem dX0_otherOwnerHas_49 : decode cX0_otherOwnerHas 49 = .ok (.iconst 0, 1) := by decide +kernel
theorem dX0_otherOwnerHas_50 : decode cX0_otherOwnerHas 50 = .ok (.ireturn, 1) := by decide +kernel
set_option maxRecDepth 20000 in
theorem ggX0_fareOf_X0_owns : GoodIn wsX0_fareOf wsX0_owns := goodIn_r _ [6, 7, 8, 9, 5, 10, 11, 12, 13, 14, 15, 16, 17, 18, 19, 20] (by decide +kernel) (by decide +kernel)
set_option maxRecDepth 20000 in
theorem gX0_fareOf_X0_owns : GoodIn wsX0_fareOf (wsV RX0 96 RX0 yX0_owns wsX0_owns) := goodIn_app (goodIn_of _ (by decide +kernel)) ggX0_fareOf_X0_owns
theorem dX0_fareOf_0 : decode cX0_fareOf 0 = .ok (.aload_n 0, 1) := by decide +kernel
theorem dX0_fareOf_1 : decode cX0_fareOf 1 = .ok (.getfield 13, 3) := by decide +kernel
theorem dX0_fareOf_4 : decode cX0_fareOf 4 = .ok (.iload_n 2, 1) := by decide +kernel
theorem dX0_fareOf_5 : decode cX0_fareOf 5 = .ok (.iaload, 1) := by decide +kernel
theorem dX0_fareOf_6 : decode cX0_fareOf 6 = .ok (.iload 4, 2) := by decide +kernel
theorem dX0_fareOf_8 : decode cX0_fareOf 8 = .ok (.imul, 1) := by decide +kernel
theorem dX0_fareOf_9 : decode cX0_fareOf 9 = .ok (.aload_n 0, 1) := by decide +kernel
theorem dX0_fareOf_10 : decode cX0_fareOf 10 = .ok (.iload_n 2, 1) := by decide +kernel
theorem dX0_fareOf_11 : decode cX0_fareOf 11 = .ok (.iload_n 3, 1) := by decide +kernel
theorem dX0_fareOf_12 : decode cX0_fareOf 12 = .ok (.iload_n 1, 1) := by decide +kernel
theorem dX0_fareOf_13 : decode cX0_fareOf 13 = .ok (.invokevirtual 96, 3) := by decide +kernel
theorem dX0_fareOf_16 : decode cX0_fareOf 16 = .ok (.imul, 1) := by decide +kernel
theorem dX0_fareOf_17 : decode cX0_fareOf 17 = .ok (.bipush 64, 2) := by decide +kernel
theorem dX0_fareOf_19 : decode cX0_fareOf 19 = .ok (.idiv, 1) := by decide +kernel
theorem dX0_fareOf_20 : decode cX0_fareOf 20 = .ok (.ireturn, 1) := by decide +kernel
theorem dX0_hasLivingChild_0 : decode cX0_hasLivingChild 0 = .ok (.iconst 0, 1) := by decide +kernel
theorem dX0_hasLivingChild_1 : decode cX0_hasLivingChild 1 = .ok (.istore_n 2, 1) := by decide +kernel
theorem dX0_hasLivingChild_2 : decode cX0_hasLivingChild 2 = .ok (.iload_n 2, 1) := by decide +kernel
theorem dX0_hasLivingChild_3 : decode cX0_hasLivingChild 3 = .ok (.aload_n 0, 1) := by decide +kernel
theorem dX0_hasLivingChild_4 : decode cX0_hasLivingChild 4 = .ok (.getfield 23, 3) := by decide +kernel
theorem dX0_hasLivingChild_7 : decode cX0_hasLivingChild 7 = .ok (.if_icmp .ge 30, 3) := by decide +kernel
theorem dX0_hasLivingChild_10 : decode cX0_hasLivingChild 10 = .ok (.aload_n 0, 1) := by decide +kernel
theorem dX0_hasLivingChild_11 : decode cX0_hasLivingChild 11 = .ok (.getfield 26, 3) := by decide +kernel
theorem dX0_hasLivingChild_14 : decode cX0_hasLivingChild 14 = .ok (.iload_n 2, 1) := by decide +kernel
theorem dX0_hasLivingChild_15 : decode cX0_hasLivingChild 15 = .ok (.baload, 1) := by decide +kernel
theorem dX0_hasLivingChild_16 : decode cX0_hasLivingChild 16 = .ok (.ifCond .eq 15, 3) := by decide +kernel
theorem dX0_hasLivingChild_19 : decode cX0_hasLivingChild 19 = .ok (.aload_n 0, 1) := by decide +kernel
theorem dX0_hasLivingChild_20 : decode cX0_hasLivingChild 20 = .ok (.getfield 36, 3) := by decide +kernel
theorem dX0_hasLivingChild_23 : decode cX0_hasLivingChild 23 = .ok (.iload_n 2, 1) := by decide +kernel
theorem dX0_hasLivingChild_24 : decode cX0_hasLivingChild 24 = .ok (.iaload, 1) := by decide +kernel
theorem dX0_hasLivingChild_25 : decode cX0_hasLivingChild 25 = .ok (.iload_n 1, 1) := by decide +kernel
theorem dX0_hasLivingChild_26 : decode cX0_hasLivingChild 26 = .ok (.if_icmp .ne 5, 3) := by decide +kernel
theorem dX0_hasLivingChild_29 : decode cX0_hasLivingChild 29 = .ok (.iconst 1, 1) := by decide +kernel
theorem dX0_hasLivingChild_30 : decode cX0_hasLivingChild 30 = .ok (.ireturn, 1) := by decide +kernel
theorem dX0_hasLivingChild_31 : decode cX0_hasLivingChild 31 = .ok (.iinc 2 1, 3) := by decide +kernel
theorem dX0_hasLivingChild_34 : decode cX0_hasLivingChild 34 = .ok (.goto (-32), 3) := by decide +kernel
theorem dX0_hasLivingChild_37 : decode cX0_hasLivingChild 37 = .ok (.iconst 0, 1) := by decide +kernel
theorem dX0_hasLivingChild_38 : decode cX0_hasLivingChild 38 = .ok (.ireturn, 1) := by decide +kernel
set_option maxRecDepth 20000 in
theorem ggX0_isHeir_X0_hasLivingChild : GoodIn wsX0_isHeir wsX0_hasLivingChild := goodIn_r _ [7, 8, 1, 2, 9, 10, 11, 12, 13, 14, 15, 16, 17, 18] (by decide +kernel) (by decide +kernel)
set_option maxRecDepth 20000 in
theorem gX0_isHeir_X0_hasLivingChild : GoodIn wsX0_isHeir (wsV RX0 225 RX0 yX0_hasLivingChild wsX0_hasLivingChild) := goodIn_app (goodIn_of _ (by decide +kernel)) ggX0_isHeir_X0_hasLivingChild
theorem dX0_isHeir_0 : decode cX0_isHeir 0 = .ok (.aload_n 0, 1) := by decide +kernel
theorem dX0_isHeir_1 : decode cX0_isHeir 1 = .ok (.getfield 26, 3) := by decide +kernel
theorem dX0_isHeir_4 : decode cX0_isHeir 4 = .ok (.iload_n 1, 1) := by decide +kernel
theorem dX0_isHeir_5 : decode cX0_isHeir 5 = .ok (.baload, 1) := by decide +kernel
theorem dX0_isHeir_6 : decode cX0_isHeir 6 = .ok (.ifCond .eq 8, 3) := by decide +kernel
theorem dX0_isHeir_9 : decode cX0_isHeir 9 = .ok (.iload_n 1, 1) := by decide +kernel
theorem dX0_isHeir_10 : decode cX0_isHeir 10 = .ok (.iload_n 2, 1) := by decide +kernel
theorem dX0_isHeir_11 : decode cX0_isHeir 11 = .ok (.if_icmp .ne 5, 3) := by decide +kernel
theorem dX0_isHeir_14 : decode cX0_isHeir 14 = .ok (.iconst 0, 1) := by decide +kernel
theorem dX0_isHeir_15 : decode cX0_isHeir 15 = .ok (.ireturn, 1) := by decide +kernel
theorem dX0_isHeir_16 : decode cX0_isHeir 16 = .ok (.aload_n 0, 1) := by decide +kernel
theorem dX0_isHeir_17 : decode cX0_isHeir 17 = .ok (.iload_n 2, 1) := by decide +kernel
theorem dX0_isHeir_18 : decode cX0_isHeir 18 = .ok (.invokevirtual 225, 3) := by decide +kernel
theorem dX0_isHeir_21 : decode cX0_isHeir 21 = .ok (.ifCond .eq 19, 3) := by decide +kernel
theorem dX0_isHeir_24 : decode cX0_isHeir 24 = .ok (.aload_n 0, 1) := by decide +kernel
theorem dX0_isHeir_25 : decode cX0_isHeir 25 = .ok (.getfield 36, 3) := by decide +kernel
theorem dX0_isHeir_28 : decode cX0_isHeir 28 = .ok (.iload_n 1, 1) := by decide +kernel
theorem dX0_isHeir_29 : decode cX0_isHeir 29 = .ok (.iaload, 1) := by decide +kernel
theorem dX0_isHeir_30 : decode cX0_isHeir 30 = .ok (.iload_n 2, 1) := by decide +kernel
theorem dX0_isHeir_31 : decode cX0_isHeir 31 = .ok (.if_icmp .ne 7, 3) := by decide +kernel
theorem dX0_isHeir_34 : decode cX0_isHeir 34 = .ok (.iconst 1, 1) := by decide +kernel
theorem dX0_isHeir_35 : decode cX0_isHeir 35 = .ok (.goto 4, 3) := by decide +kernel
theorem dX0_isHeir_38 : decode cX0_isHeir 38 = .ok (.iconst 0, 1) := by decide +kernel
theorem dX0_isHeir_39 : decode cX0_isHeir 39 = .ok (.ireturn, 1) := by decide +kernel
theorem dX0_isHeir_40 : decode cX0_isHeir 40 = .ok (.aload_n 0, 1) := by decide +kernel
theorem dX0_isHeir_41 : decode cX0_isHeir 41 = .ok (.getfield 36, 3) := by decide +kernel
theorem dX0_isHeir_44 : decode cX0_isHeir 44 = .ok (.iload_n 2, 1) := by decide +kernel
theorem dX0_isHeir_45 : decode cX0_isHeir 45 = .ok (.iaload, 1) := by decide +kernel
theorem dX0_isHeir_46 : decode cX0_isHeir 46 = .ok (.iconst (-1), 1) := by decide +kernel
theorem dX0_isHeir_47 : decode cX0_isHeir 47 = .ok (.if_icmp .eq 22, 3) := by decide +kernel
theorem dX0_isHeir_50 : decode cX0_isHeir 50 = .ok (.aload_n 0, 1) := by decide +kernel
theorem dX0_isHeir_51 : decode cX0_isHeir 51 = .ok (.getfield 36, 3) := by decide +kernel
theorem dX0_isHeir_54 : decode cX0_isHeir 54 = .ok (.iload_n 1, 1) := by decide +kernel
theorem dX0_isHeir_55 : decode cX0_isHeir 55 = .ok (.iaload, 1) := by decide +kernel
theorem dX0_isHeir_56 : decode cX0_isHeir 56 = .ok (.aload_n 0, 1) := by decide +kernel
theorem dX0_isHeir_57 : decode cX0_isHeir 57 = .ok (.getfield 36, 3) := by decide +kernel
theorem dX0_isHeir_60 : decode cX0_isHeir 60 = .ok (.iload_n 2, 1) := by decide +kernel
theorem dX0_isHeir_61 : decode cX0_isHeir 61 = .ok (.iaload, 1) := by decide +kernel
theorem dX0_isHeir_62 : decode cX0_isHeir 62 = .ok (.if_icmp .ne 7, 3) := by decide +kernel
theorem dX0_isHeir_65 : decode cX0_isHeir 65 = .ok (.iconst 1, 1) := by decide +kernel
theorem dX0_isHeir_66 : decode cX0_isHeir 66 = .ok (.goto 4, 3) := by decide +kernel
theorem dX0_isHeir_69 : decode cX0_isHeir 69 = .ok (.iconst 0, 1) := by decide +kernel
theorem dX0_isHeir_70 : decode cX0_isHeir 70 = .ok (.ireturn, 1) := by decide +kernel
set_option maxRecDepth 20000 in
theorem ggX0_countHeirs_X0_countHeirsBelow : GoodIn wsX0_countHeirs wsX0_countHeirsBelow := goodIn_r _ [6, 7, 8, 9, 5, 10, 11, 12, 13, 14, 15, 16, 1, 17, 18, 19, 20, 21, 22, 23, 24, 25, 26] (by decide +kernel) (by decide +kernel)
set_option maxRecDepth 20000 in
theorem gX0_countHeirs_X0_countHeirsBelow : GoodIn wsX0_countHeirs (wsV RX0 165 RX0 yX0_countHeirsBelow wsX0_countHeirsBelow) := goodIn_app (goodIn_of _ (by decide +kernel)) ggX0_countHeirs_X0_countHeirsBelow
theorem dX0_countHeirs_0 : decode cX0_countHeirs 0 = .ok (.aload_n 0, 1) := by decide +kernel
theorem dX0_countHeirs_1 : decode cX0_countHeirs 1 = .ok (.aload_n 0, 1) := by decide +kernel
theorem dX0_countHeirs_2 : decode cX0_countHeirs 2 = .ok (.getfield 23, 3) := by decide +kernel
theorem dX0_countHeirs_5 : decode cX0_countHeirs 5 = .ok (.iload_n 1, 1) := by decide +kernel
theorem dX0_countHeirs_6 : decode cX0_countHeirs 6 = .ok (.invokevirtual 165, 3) := by decide +kernel
theorem dX0_countHeirs_9 : decode cX0_countHeirs 9 = .ok (.ireturn, 1) := by decide +kernel
set_option maxRecDepth 20000 in
theorem ggX0_countHeirsBelow_X0_isHeir : GoodIn wsX0_countHeirsBelow wsX0_isHeir := goodIn_r _ [5, 6, 7, 8, 9, 10, 4, 11, 12, 13, 14, 15, 16, 17, 18, 19, 20, 21, 22] (by decide +kernel) (by decide +kernel)
set_option maxRecDepth 20000 in
theorem gX0_countHeirsBelow_X0_isHeir : GoodIn wsX0_countHeirsBelow (wsV RX0 132 RX0 yX0_isHeir wsX0_isHeir) := goodIn_app (goodIn_of _ (by decide +kernel)) ggX0_countHeirsBelow_X0_isHeir
theorem dX0_countHeirsBelow_0 : decode cX0_countHeirsBelow 0 = .ok (.iconst 0, 1) := by decide +kernel
theorem dX0_countHeirsBelow_1 : decode cX0_countHeirsBelow 1 = .ok (.istore_n 3, 1) := by decide +kernel
theorem dX0_countHeirsBelow_2 : decode cX0_countHeirsBelow 2 = .ok (.iconst 0, 1) := by decide +kernel
theorem dX0_countHeirsBelow_3 : decode cX0_countHeirsBelow 3 = .ok (.istore 4, 2) := by decide +kernel
theorem dX0_countHeirsBelow_5 : decode cX0_countHeirsBelow 5 = .ok (.iload 4, 2) := by decide +kernel
theorem dX0_countHeirsBelow_7 : decode cX0_countHeirsBelow 7 = .ok (.iload_n 1, 1) := by decide +kernel
theorem dX0_countHeirsBelow_8 : decode cX0_countHeirsBelow 8 = .ok (.if_icmp .ge 22, 3) := by decide +kernel
theorem dX0_countHeirsBelow_11 : decode cX0_countHeirsBelow 11 = .ok (.aload_n 0, 1) := by decide +kernel
theorem dX0_countHeirsBelow_12 : decode cX0_countHeirsBelow 12 = .ok (.iload 4, 2) := by decide +kernel
theorem dX0_countHeirsBelow_14 : decode cX0_countHeirsBelow 14 = .ok (.iload_n 2, 1) := by decide +kernel
theorem dX0_countHeirsBelow_15 : decode cX0_countHeirsBelow 15 = .ok (.invokevirtual 132, 3) := by decide +kernel
theorem dX0_countHeirsBelow_18 : decode cX0_countHeirsBelow 18 = .ok (.ifCond .eq 6, 3) := by decide +kernel
theorem dX0_countHeirsBelow_21 : decode cX0_countHeirsBelow 21 = .ok (.iinc 3 1, 3) := by decide +kernel
theorem dX0_countHeirsBelow_24 : decode cX0_countHeirsBelow 24 = .ok (.iinc 4 1, 3) := by decide +kernel
theorem dX0_countHeirsBelow_27 : decode cX0_countHeirsBelow 27 = .ok (.goto (-22), 3) := by decide +kernel
theorem dX0_countHeirsBelow_30 : decode cX0_countHeirsBelow 30 = .ok (.iload_n 3, 1) := by decide +kernel
theorem dX0_countHeirsBelow_31 : decode cX0_countHeirsBelow 31 = .ok (.ireturn, 1) := by decide +kernel
set_option maxRecDepth 20000 in
theorem ggX0_findHeir_X0_isHeir : GoodIn wsX0_findHeir wsX0_isHeir := goodIn_r _ [6, 7, 8, 9, 10, 11, 5, 12, 1, 13, 14, 15, 16, 17, 18, 19, 20, 21, 22] (by decide +kernel) (by decide +kernel)
set_option maxRecDepth 20000 in
theorem gX0_findHeir_X0_isHeir : GoodIn wsX0_findHeir (wsV RX0 132 RX0 yX0_isHeir wsX0_isHeir) := goodIn_app (goodIn_of _ (by decide +kernel)) ggX0_findHeir_X0_isHeir
theorem dX0_findHeir_0 : decode cX0_findHeir 0 = .ok (.iconst 0, 1) := by decide +kernel
theorem dX0_findHeir_1 : decode cX0_findHeir 1 = .ok (.istore_n 3, 1) := by decide +kernel
theorem dX0_findHeir_2 : decode cX0_findHeir 2 = .ok (.iconst 0, 1) := by decide +kernel
theorem dX0_findHeir_3 : decode cX0_findHeir 3 = .ok (.istore 4, 2) := by decide +kernel
theorem dX0_findHeir_5 : decode cX0_findHeir 5 = .ok (.iload 4, 2) := by decide +kernel
theorem dX0_findHeir_7 : decode cX0_findHeir 7 = .ok (.aload_n 0, 1) := by decide +kernel
theorem dX0_findHeir_8 : decode cX0_findHeir 8 = .ok (.getfield 23, 3) := by decide +kernel
theorem dX0_findHeir_11 : decode cX0_findHeir 11 = .ok (.if_icmp .ge 30, 3) := by decide +kernel
theorem dX0_findHeir_14 : decode cX0_findHeir 14 = .ok (.aload_n 0, 1) := by decide +kernel
theorem dX0_findHeir_15 : decode cX0_findHeir 15 = .ok (.iload 4, 2) := by decide +kernel
theorem dX0_findHeir_17 : decode cX0_findHeir 17 = .ok (.iload_n 1, 1) := by decide +kernel
theorem dX0_findHeir_18 : decode cX0_findHeir 18 = .ok (.invokevirtual 132, 3) := by decide +kernel
theorem dX0_findHeir_21 : decode cX0_findHeir 21 = .ok (.ifCond .eq 14, 3) := by decide +kernel
theorem dX0_findHeir_24 : decode cX0_findHeir 24 = .ok (.iload_n 3, 1) := by decide +kernel
theorem dX0_findHeir_25 : decode cX0_findHeir 25 = .ok (.iload_n 2, 1) := by decide +kernel
theorem dX0_findHeir_26 : decode cX0_findHeir 26 = .ok (.if_icmp .ne 6, 3) := by decide +kernel
theorem dX0_findHeir_29 : decode cX0_findHeir 29 = .ok (.iload 4, 2) := by decide +kernel
theorem dX0_findHeir_31 : decode cX0_findHeir 31 = .ok (.ireturn, 1) := by decide +kernel
theorem dX0_findHeir_32 : decode cX0_findHeir 32 = .ok (.iinc 3 1, 3) := by decide +kernel
theorem dX0_findHeir_35 : decode cX0_findHeir 35 = .ok (.iinc 4 1, 3) := by decide +kernel
theorem dX0_findHeir_38 : decode cX0_findHeir 38 = .ok (.goto (-33), 3) := by decide +kernel
theorem dX0_findHeir_41 : decode cX0_findHeir 41 = .ok (.iconst (-1), 1) := by decide +kernel
theorem dX0_findHeir_42 : decode cX0_findHeir 42 = .ok (.ireturn, 1) := by decide +kernel
theorem dX0_partOf_0 : decode cX0_partOf 0 = .ok (.iload_n 1, 1) := by decide +kernel
theorem dX0_partOf_1 : decode cX0_partOf 1 = .ok (.iconst 1, 1) := by decide +kernel
theorem dX0_partOf_2 : decode cX0_partOf 2 = .ok (.if_icmp .gt 5, 3) := by decide +kernel
theorem dX0_partOf_5 : decode cX0_partOf 5 = .ok (.iload_n 0, 1) := by decide +kernel
theorem dX0_partOf_6 : decode cX0_partOf 6 = .ok (.ireturn, 1) := by decide +kernel
theorem dX0_partOf_7 : decode cX0_partOf 7 = .ok (.iload_n 0, 1) := by decide +kernel
theorem dX0_partOf_8 : decode cX0_partOf 8 = .ok (.iconst 2, 1) := by decide +kernel
theorem dX0_partOf_9 : decode cX0_partOf 9 = .ok (.idiv, 1) := by decide +kernel
theorem dX0_partOf_10 : decode cX0_partOf 10 = .ok (.istore_n 3, 1) := by decide +kernel
theorem dX0_partOf_11 : decode cX0_partOf 11 = .ok (.iload_n 2, 1) := by decide +kernel
theorem dX0_partOf_12 : decode cX0_partOf 12 = .ok (.ifCond .ne 7, 3) := by decide +kernel
theorem dX0_partOf_15 : decode cX0_partOf 15 = .ok (.iload_n 0, 1) := by decide +kernel
theorem dX0_partOf_16 : decode cX0_partOf 16 = .ok (.iload_n 3, 1) := by decide +kernel
theorem dX0_partOf_17 : decode cX0_partOf 17 = .ok (.isub, 1) := by decide +kernel
theorem dX0_partOf_18 : decode cX0_partOf 18 = .ok (.ireturn, 1) := by decide +kernel
theorem dX0_partOf_19 : decode cX0_partOf 19 = .ok (.iload_n 1, 1) := by decide +kernel
theorem dX0_partOf_20 : decode cX0_partOf 20 = .ok (.iconst 1, 1) := by decide +kernel
theorem dX0_partOf_21 : decode cX0_partOf 21 = .ok (.isub, 1) := by decide +kernel
theorem dX0_partOf_22 : decode cX0_partOf 22 = .ok (.istore 4, 2) := by decide +kernel
theorem dX0_partOf_24 : decode cX0_partOf 24 = .ok (.iload_n 3, 1) := by decide +kernel
theorem dX0_partOf_25 : decode cX0_partOf 25 = .ok (.iload 4, 2) := by decide +kernel
theorem dX0_partOf_27 : decode cX0_partOf 27 = .ok (.idiv, 1) := by decide +kernel
theorem dX0_partOf_28 : decode cX0_partOf 28 = .ok (.istore 5, 2) := by decide +kernel
theorem dX0_partOf_30 : decode cX0_partOf 30 = .ok (.iload_n 2, 1) := by decide +kernel
theorem dX0_partOf_31 : decode cX0_partOf 31 = .ok (.iconst 1, 1) := by decide +kernel
theorem dX0_partOf_32 : decode cX0_partOf 32 = .ok (.isub, 1) := by decide +kernel
theorem dX0_partOf_33 : decode cX0_partOf 33 = .ok (.iload_n 3, 1) := by decide +kernel
theorem dX0_partOf_34 : decode cX0_partOf 34 = .ok (.iload 4, 2) := by decide +kernel
theorem dX0_partOf_36 : decode cX0_partOf 36 = .ok (.irem, 1) := by decide +kernel
theorem dX0_partOf_37 : decode cX0_partOf 37 = .ok (.if_icmp .ge 10, 3) := by decide +kernel
theorem dX0_partOf_40 : decode cX0_partOf 40 = .ok (.iload 5, 2) := by decide +kernel
theorem dX0_partOf_42 : decode cX0_partOf 42 = .ok (.iconst 1, 1) := by decide +kernel
theorem dX0_partOf_43 : decode cX0_partOf 43 = .ok (.iadd, 1) := by decide +kernel
theorem dX0_partOf_44 : decode cX0_partOf 44 = .ok (.goto 5, 3) := by decide +kernel
theorem dX0_partOf_47 : decode cX0_partOf 47 = .ok (.iload 5, 2) := by decide +kernel
theorem dX0_partOf_49 : decode cX0_partOf 49 = .ok (.ireturn, 1) := by decide +kernel
set_option maxRecDepth 20000 in
theorem ggX0_hand_X0_owns : GoodIn wsX0_hand wsX0_owns := goodIn_r _ [7, 8, 9, 10, 6, 11, 27, 28, 29, 30, 31, 32, 33, 34, 35, 36] (by decide +kernel) (by decide +kernel)
set_option maxRecDepth 20000 in
theorem gX0_hand_X0_owns : GoodIn wsX0_hand (wsV RX0 96 RX0 yX0_owns wsX0_owns) := goodIn_app (goodIn_of _ (by decide +kernel)) ggX0_hand_X0_owns
set_option maxRecDepth 20000 in
theorem ggX0_hand_X0_partOf : GoodIn wsX0_hand wsX0_partOf := goodIn_r _ [14] (by decide +kernel) (by decide +kernel)
set_option maxRecDepth 20000 in
theorem gX0_hand_X0_partOf : GoodIn wsX0_hand (va_wsS RX0 168 yX0_partOf wsX0_partOf) := goodIn_app (goodIn_of _ (by decide +kernel)) ggX0_hand_X0_partOf
set_option maxRecDepth 20000 in
theorem ggX0_hand_X0_addShares : GoodIn wsX0_hand wsX0_addShares := goodIn_r _ [18, 8, 9, 10, 6, 11, 27, 28, 29, 30, 31, 32, 33, 34, 35, 36] (by decide +kernel) (by decide +kernel)
set_option maxRecDepth 20000 in
theorem gX0_hand_X0_addShares : GoodIn wsX0_hand (wsV RX0 90 RX0 yX0_addShares wsX0_addShares) := goodIn_app (goodIn_of _ (by decide +kernel)) ggX0_hand_X0_addShares
set_option maxRecDepth 20000 in
theorem ggX0_hand_X0_addCoins : GoodIn wsX0_hand wsX0_addCoins := goodIn_r _ [22, 2, 23, 24, 25, 26, 27, 28, 29, 30, 31, 32, 33, 34, 35, 36] (by decide +kernel) (by decide +kernel)
set_option maxRecDepth 20000 in
theorem gX0_hand_X0_addCoins : GoodIn wsX0_hand (wsV RX0 71 RX0 yX0_addCoins wsX0_addCoins) := goodIn_app (goodIn_of _ (by decide +kernel)) ggX0_hand_X0_addCoins
theorem dX0_hand_0 : decode cX0_hand 0 = .ok (.iconst 0, 1) := by decide +kernel
theorem dX0_hand_1 : decode cX0_hand 1 = .ok (.istore 5, 2) := by decide +kernel
theorem dX0_hand_3 : decode cX0_hand 3 = .ok (.iload 5, 2) := by decide +kernel
theorem dX0_hand_5 : decode cX0_hand 5 = .ok (.aload_n 0, 1) := by decide +kernel
theorem dX0_hand_6 : decode cX0_hand 6 = .ok (.getfield 9, 3) := by decide +kernel
theorem dX0_hand_9 : decode cX0_hand 9 = .ok (.if_icmp .ge 48, 3) := by decide +kernel
theorem dX0_hand_12 : decode cX0_hand 12 = .ok (.iconst 0, 1) := by decide +kernel
theorem dX0_hand_13 : decode cX0_hand 13 = .ok (.istore 6, 2) := by decide +kernel
theorem dX0_hand_15 : decode cX0_hand 15 = .ok (.iload 6, 2) := by decide +kernel
theorem dX0_hand_17 : decode cX0_hand 17 = .ok (.iconst 4, 1) := by decide +kernel
theorem dX0_hand_18 : decode cX0_hand 18 = .ok (.if_icmp .ge 33, 3) := by decide +kernel
theorem dX0_hand_21 : decode cX0_hand 21 = .ok (.aload_n 0, 1) := by decide +kernel
theorem dX0_hand_22 : decode cX0_hand 22 = .ok (.iload 5, 2) := by decide +kernel
theorem dX0_hand_24 : decode cX0_hand 24 = .ok (.iload 6, 2) := by decide +kernel
theorem dX0_hand_26 : decode cX0_hand 26 = .ok (.iload_n 2, 1) := by decide +kernel
theorem dX0_hand_27 : decode cX0_hand 27 = .ok (.aload_n 0, 1) := by decide +kernel
theorem dX0_hand_28 : decode cX0_hand 28 = .ok (.iload 5, 2) := by decide +kernel
theorem dX0_hand_30 : decode cX0_hand 30 = .ok (.iload 6, 2) := by decide +kernel
theorem dX0_hand_32 : decode cX0_hand 32 = .ok (.iload_n 1, 1) := by decide +kernel
theorem dX0_hand_33 : decode cX0_hand 33 = .ok (.invokevirtual 96, 3) := by decide +kernel
theorem dX0_hand_36 : decode cX0_hand 36 = .ok (.iload_n 3, 1) := by decide +kernel
theorem dX0_hand_37 : decode cX0_hand 37 = .ok (.iload 4, 2) := by decide +kernel
theorem dX0_hand_39 : decode cX0_hand 39 = .ok (.invokestatic 168, 3) := by decide +kernel
theorem dX0_hand_42 : decode cX0_hand 42 = .ok (.invokevirtual 90, 3) := by decide +kernel
theorem dX0_hand_45 : decode cX0_hand 45 = .ok (.iinc 6 1, 3) := by decide +kernel
theorem dX0_hand_48 : decode cX0_hand 48 = .ok (.goto (-33), 3) := by decide +kernel
theorem dX0_hand_51 : decode cX0_hand 51 = .ok (.iinc 5 1, 3) := by decide +kernel
theorem dX0_hand_54 : decode cX0_hand 54 = .ok (.goto (-51), 3) := by decide +kernel
theorem dX0_hand_57 : decode cX0_hand 57 = .ok (.aload_n 0, 1) := by decide +kernel
theorem dX0_hand_58 : decode cX0_hand 58 = .ok (.iload_n 2, 1) := by decide +kernel
theorem dX0_hand_59 : decode cX0_hand 59 = .ok (.aload_n 0, 1) := by decide +kernel
theorem dX0_hand_60 : decode cX0_hand 60 = .ok (.getfield 30, 3) := by decide +kernel
theorem dX0_hand_63 : decode cX0_hand 63 = .ok (.iload_n 1, 1) := by decide +kernel
theorem dX0_hand_64 : decode cX0_hand 64 = .ok (.iaload, 1) := by decide +kernel
theorem dX0_hand_65 : decode cX0_hand 65 = .ok (.iload_n 3, 1) := by decide +kernel
theorem dX0_hand_66 : decode cX0_hand 66 = .ok (.iload 4, 2) := by decide +kernel
theorem dX0_hand_68 : decode cX0_hand 68 = .ok (.invokestatic 168, 3) := by decide +kernel
theorem dX0_hand_71 : decode cX0_hand 71 = .ok (.invokevirtual 71, 3) := by decide +kernel
theorem dX0_hand_74 : decode cX0_hand 74 = .ok (.return_, 1) := by decide +kernel
set_option maxRecDepth 20000 in
theorem ggX0_bury_X0_slot : GoodIn wsX0_bury wsX0_slot := goodIn_r _ [8] (by decide +kernel) (by decide +kernel)
set_option maxRecDepth 20000 in
theorem gX0_bury_X0_slot : GoodIn wsX0_bury (va_wsS RX0 213 yX0_slot wsX0_slot) := goodIn_app (goodIn_of _ (by decide +kernel)) ggX0_bury_X0_slot
theorem dX0_bury_0 : decode cX0_bury 0 = .ok (.iconst 0, 1) := by decide +kernel
theorem dX0_bury_1 : decode cX0_bury 1 = .ok (.istore_n 2, 1) := by decide +kernel
theorem dX0_bury_2 : decode cX0_bury 2 = .ok (.iload_n 2, 1) := by decide +kernel
theorem dX0_bury_3 : decode cX0_bury 3 = .ok (.aload_n 0, 1) := by decide +kernel
theorem dX0_bury_4 : decode cX0_bury 4 = .ok (.getfield 9, 3) := by decide +kernel
theorem dX0_bury_7 : decode cX0_bury 7 = .ok (.if_icmp .ge 34, 3) := by decide +kernel
theorem dX0_bury_10 : decode cX0_bury 10 = .ok (.iconst 0, 1) := by decide +kernel
theorem dX0_bury_11 : decode cX0_bury 11 = .ok (.istore_n 3, 1) := by decide +kernel
theorem dX0_bury_12 : decode cX0_bury 12 = .ok (.iload_n 3, 1) := by decide +kernel
theorem dX0_bury_13 : decode cX0_bury 13 = .ok (.iconst 4, 1) := by decide +kernel
theorem dX0_bury_14 : decode cX0_bury 14 = .ok (.if_icmp .ge 21, 3) := by decide +kernel
theorem dX0_bury_17 : decode cX0_bury 17 = .ok (.aload_n 0, 1) := by decide +kernel
theorem dX0_bury_18 : decode cX0_bury 18 = .ok (.getfield 20, 3) := by decide +kernel
theorem dX0_bury_21 : decode cX0_bury 21 = .ok (.iload_n 2, 1) := by decide +kernel
theorem dX0_bury_22 : decode cX0_bury 22 = .ok (.iload_n 3, 1) := by decide +kernel
theorem dX0_bury_23 : decode cX0_bury 23 = .ok (.iload_n 1, 1) := by decide +kernel
theorem dX0_bury_24 : decode cX0_bury 24 = .ok (.invokestatic 213, 3) := by decide +kernel
theorem dX0_bury_27 : decode cX0_bury 27 = .ok (.iconst 0, 1) := by decide +kernel
theorem dX0_bury_28 : decode cX0_bury 28 = .ok (.iastore, 1) := by decide +kernel
theorem dX0_bury_29 : decode cX0_bury 29 = .ok (.iinc 3 1, 3) := by decide +kernel
theorem dX0_bury_32 : decode cX0_bury 32 = .ok (.goto (-20), 3) := by decide +kernel
theorem dX0_bury_35 : decode cX0_bury 35 = .ok (.iinc 2 1, 3) := by decide +kernel
theorem dX0_bury_38 : decode cX0_bury 38 = .ok (.goto (-36), 3) := by decide +kernel
theorem dX0_bury_41 : decode cX0_bury 41 = .ok (.aload_n 0, 1) := by decide +kernel
theorem dX0_bury_42 : decode cX0_bury 42 = .ok (.getfield 30, 3) := by decide +kernel
theorem dX0_bury_45 : decode cX0_bury 45 = .ok (.iload_n 1, 1) := by decide +kernel
theorem dX0_bury_46 : decode cX0_bury 46 = .ok (.iconst 0, 1) := by decide +kernel
theorem dX0_bury_47 : decode cX0_bury 47 = .ok (.iastore, 1) := by decide +kernel
theorem dX0_bury_48 : decode cX0_bury 48 = .ok (.aload_n 0, 1) := by decide +kernel
theorem dX0_bury_49 : decode cX0_bury 49 = .ok (.getfield 26, 3) := by decide +kernel
theorem dX0_bury_52 : decode cX0_bury 52 = .ok (.iload_n 1, 1) := by decide +kernel
theorem dX0_bury_53 : decode cX0_bury 53 = .ok (.iconst 0, 1) := by decide +kernel
theorem dX0_bury_54 : decode cX0_bury 54 = .ok (.bastore, 1) := by decide +kernel
theorem dX0_bury_55 : decode cX0_bury 55 = .ok (.return_, 1) := by decide +kernel
theorem dX0_mix_0 : decode cX0_mix 0 = .ok (.lload_n 0, 1) := by decide +kernel
theorem dX0_mix_1 : decode cX0_mix 1 = .ok (.ldc2_w 229, 3) := by decide +kernel
theorem dX0_mix_4 : decode cX0_mix 4 = .ok (.lmul, 1) := by decide +kernel
theorem dX0_mix_5 : decode cX0_mix 5 = .ok (.lload_n 2, 1) := by decide +kernel
theorem dX0_mix_6 : decode cX0_mix 6 = .ok (.ladd, 1) := by decide +kernel
theorem dX0_mix_7 : decode cX0_mix 7 = .ok (.lreturn, 1) := by decide +kernel
set_option maxRecDepth 20000 in
theorem ggX0_mixFerry_X0_mix : GoodIn wsX0_mixFerry wsX0_mix := goodIn_r _ [7, 8] (by decide +kernel) (by decide +kernel)
set_option maxRecDepth 20000 in
theorem gX0_mixFerry_X0_mix : GoodIn wsX0_mixFerry (va_wsS RX0 175 yX0_mix wsX0_mix) := goodIn_app (goodIn_of _ (by decide +kernel)) ggX0_mixFerry_X0_mix
set_option maxRecDepth 20000 in
theorem ggX0_mixFerry_X0_owns : GoodIn wsX0_mixFerry wsX0_owns := goodIn_r _ [12, 13, 14, 15, 6, 16, 17, 18, 19, 20, 21, 22, 23, 24, 25, 26] (by decide +kernel) (by decide +kernel)
set_option maxRecDepth 20000 in
theorem gX0_mixFerry_X0_owns : GoodIn wsX0_mixFerry (wsV RX0 96 RX0 yX0_owns wsX0_owns) := goodIn_app (goodIn_of _ (by decide +kernel)) ggX0_mixFerry_X0_owns
theorem dX0_mixFerry_0 : decode cX0_mixFerry 0 = .ok (.lload_n 1, 1) := by decide +kernel
theorem dX0_mixFerry_1 : decode cX0_mixFerry 1 = .ok (.aload_n 0, 1) := by decide +kernel
theorem dX0_mixFerry_2 : decode cX0_mixFerry 2 = .ok (.getfield 13, 3) := by decide +kernel
theorem dX0_mixFerry_5 : decode cX0_mixFerry 5 = .ok (.iload_n 3, 1) := by decide +kernel
theorem dX0_mixFerry_6 : decode cX0_mixFerry 6 = .ok (.iaload, 1) := by decide +kernel
theorem dX0_mixFerry_7 : decode cX0_mixFerry 7 = .ok (.i2l, 1) := by decide +kernel
theorem dX0_mixFerry_8 : decode cX0_mixFerry 8 = .ok (.invokestatic 175, 3) := by decide +kernel
theorem dX0_mixFerry_11 : decode cX0_mixFerry 11 = .ok (.lstore 4, 2) := by decide +kernel
theorem dX0_mixFerry_13 : decode cX0_mixFerry 13 = .ok (.lload 4, 2) := by decide +kernel
theorem dX0_mixFerry_15 : decode cX0_mixFerry 15 = .ok (.aload_n 0, 1) := by decide +kernel
theorem dX0_mixFerry_16 : decode cX0_mixFerry 16 = .ok (.getfield 17, 3) := by decide +kernel
theorem dX0_mixFerry_19 : decode cX0_mixFerry 19 = .ok (.iload_n 3, 1) := by decide +kernel
theorem dX0_mixFerry_20 : decode cX0_mixFerry 20 = .ok (.iaload, 1) := by decide +kernel
theorem dX0_mixFerry_21 : decode cX0_mixFerry 21 = .ok (.i2l, 1) := by decide +kernel
theorem dX0_mixFerry_22 : decode cX0_mixFerry 22 = .ok (.invokestatic 175, 3) := by decide +kernel
theorem dX0_mixFerry_25 : decode cX0_mixFerry 25 = .ok (.lstore 4, 2) := by decide +kernel
theorem dX0_mixFerry_27 : decode cX0_mixFerry 27 = .ok (.iconst 0, 1) := by decide +kernel
theorem dX0_mixFerry_28 : decode cX0_mixFerry 28 = .ok (.istore 6, 2) := by decide +kernel
theorem dX0_mixFerry_30 : decode cX0_mixFerry 30 = .ok (.iload 6, 2) := by decide +kernel
theorem dX0_mixFerry_32 : decode cX0_mixFerry 32 = .ok (.iconst 4, 1) := by decide +kernel
theorem dX0_mixFerry_33 : decode cX0_mixFerry 33 = .ok (.if_icmp .ge 44, 3) := by decide +kernel
theorem dX0_mixFerry_36 : decode cX0_mixFerry 36 = .ok (.iconst 0, 1) := by decide +kernel
theorem dX0_mixFerry_37 : decode cX0_mixFerry 37 = .ok (.istore 7, 2) := by decide +kernel
theorem dX0_mixFerry_39 : decode cX0_mixFerry 39 = .ok (.iload 7, 2) := by decide +kernel
theorem dX0_mixFerry_41 : decode cX0_mixFerry 41 = .ok (.aload_n 0, 1) := by decide +kernel
theorem dX0_mixFerry_42 : decode cX0_mixFerry 42 = .ok (.getfield 23, 3) := by decide +kernel
theorem dX0_mixFerry_45 : decode cX0_mixFerry 45 = .ok (.if_icmp .ge 26, 3) := by decide +kernel
theorem dX0_mixFerry_48 : decode cX0_mixFerry 48 = .ok (.lload 4, 2) := by decide +kernel
theorem dX0_mixFerry_50 : decode cX0_mixFerry 50 = .ok (.aload_n 0, 1) := by decide +kernel
theorem dX0_mixFerry_51 : decode cX0_mixFerry 51 = .ok (.iload_n 3, 1) := by decide +kernel
theorem dX0_mixFerry_52 : decode cX0_mixFerry 52 = .ok (.iload 6, 2) := by decide +kernel
theorem dX0_mixFerry_54 : decode cX0_mixFerry 54 = .ok (.iload 7, 2) := by decide +kernel
theorem dX0_mixFerry_56 : decode cX0_mixFerry 56 = .ok (.invokevirtual 96, 3) := by decide +kernel
theorem dX0_mixFerry_59 : decode cX0_mixFerry 59 = .ok (.i2l, 1) := by decide +kernel
theorem dX0_mixFerry_60 : decode cX0_mixFerry 60 = .ok (.invokestatic 175, 3) := by decide +kernel
theorem dX0_mixFerry_63 : decode cX0_mixFerry 63 = .ok (.lstore 4, 2) := by decide +kernel
theorem dX0_mixFerry_65 : decode cX0_mixFerry 65 = .ok (.iinc 7 1, 3) := by decide +kernel
theorem dX0_mixFerry_68 : decode cX0_mixFerry 68 = .ok (.goto (-29), 3) := by decide +kernel
theorem dX0_mixFerry_71 : decode cX0_mixFerry 71 = .ok (.iinc 6 1, 3) := by decide +kernel
theorem dX0_mixFerry_74 : decode cX0_mixFerry 74 = .ok (.goto (-44), 3) := by decide +kernel
theorem dX0_mixFerry_77 : decode cX0_mixFerry 77 = .ok (.lload 4, 2) := by decide +kernel
theorem dX0_mixFerry_79 : decode cX0_mixFerry 79 = .ok (.lreturn, 1) := by decide +kernel
set_option maxRecDepth 20000 in
theorem ggX0_mixPerson_X0_mix : GoodIn wsX0_mixPerson wsX0_mix := goodIn_r _ [7, 8] (by decide +kernel) (by decide +kernel)
set_option maxRecDepth 20000 in
theorem gX0_mixPerson_X0_mix : GoodIn wsX0_mixPerson (va_wsS RX0 175 yX0_mix wsX0_mix) := goodIn_app (goodIn_of _ (by decide +kernel)) ggX0_mixPerson_X0_mix
set_option maxRecDepth 20000 in
theorem ggX0_mixPerson_X0_countAllShares : GoodIn wsX0_mixPerson wsX0_countAllShares := goodIn_r _ [12, 13, 14, 15, 16, 6, 17, 18, 19, 20, 21, 22, 23, 24, 25, 48, 49, 50, 51, 52, 53, 54, 55, 56, 57] (by decide +kernel) (by decide +kernel)
set_option maxRecDepth 20000 in
theorem gX0_mixPerson_X0_countAllShares : GoodIn wsX0_mixPerson (wsV RX0 149 RX0 yX0_countAllShares wsX0_countAllShares) := goodIn_app (goodIn_of _ (by decide +kernel)) ggX0_mixPerson_X0_countAllShares
set_option maxRecDepth 20000 in
theorem ggX0_mixPerson_X0_countChildren : GoodIn wsX0_mixPerson wsX0_countChildren := goodIn_r _ [29, 30, 31, 48, 49, 50, 51, 52, 53, 54, 55, 56, 57] (by decide +kernel) (by decide +kernel)
set_option maxRecDepth 20000 in
theorem gX0_mixPerson_X0_countChildren : GoodIn wsX0_mixPerson (wsV RX0 154 RX0 yX0_countChildren wsX0_countChildren) := goodIn_app (goodIn_of _ (by decide +kernel)) ggX0_mixPerson_X0_countChildren
set_option maxRecDepth 20000 in
theorem ggX0_mixPerson_X0_countHeirs : GoodIn wsX0_mixPerson wsX0_countHeirs := goodIn_r _ [35, 30, 36, 37, 38, 6, 39, 40, 41, 42, 43, 1, 31, 44, 45, 46, 47, 48, 49, 50, 51, 52, 53, 54, 55, 56, 57] (by decide +kernel) (by decide +kernel)
set_option maxRecDepth 20000 in
theorem gX0_mixPerson_X0_countHeirs : GoodIn wsX0_mixPerson (wsV RX0 129 RX0 yX0_countHeirs wsX0_countHeirs) := goodIn_app (goodIn_of _ (by decide +kernel)) ggX0_mixPerson_X0_countHeirs
theorem dX0_mixPerson_0 : decode cX0_mixPerson 0 = .ok (.lload_n 1, 1) := by decide +kernel
theorem dX0_mixPerson_1 : decode cX0_mixPerson 1 = .ok (.aload_n 0, 1) := by decide +kernel
theorem dX0_mixPerson_2 : decode cX0_mixPerson 2 = .ok (.getfield 26, 3) := by decide +kernel
theorem dX0_mixPerson_5 : decode cX0_mixPerson 5 = .ok (.iload_n 3, 1) := by decide +kernel
theorem dX0_mixPerson_6 : decode cX0_mixPerson 6 = .ok (.baload, 1) := by decide +kernel
theorem dX0_mixPerson_7 : decode cX0_mixPerson 7 = .ok (.ifCond .eq 7, 3) := by decide +kernel
theorem dX0_mixPerson_10 : decode cX0_mixPerson 10 = .ok (.lconst 1, 1) := by decide +kernel
theorem dX0_mixPerson_11 : decode cX0_mixPerson 11 = .ok (.goto 4, 3) := by decide +kernel
theorem dX0_mixPerson_14 : decode cX0_mixPerson 14 = .ok (.lconst 0, 1) := by decide +kernel
theorem dX0_mixPerson_15 : decode cX0_mixPerson 15 = .ok (.invokestatic 175, 3) := by decide +kernel
theorem dX0_mixPerson_18 : decode cX0_mixPerson 18 = .ok (.lstore 4, 2) := by decide +kernel
theorem dX0_mixPerson_20 : decode cX0_mixPerson 20 = .ok (.lload 4, 2) := by decide +kernel
theorem dX0_mixPerson_22 : decode cX0_mixPerson 22 = .ok (.aload_n 0, 1) := by decide +kernel
theorem dX0_mixPerson_23 : decode cX0_mixPerson 23 = .ok (.getfield 30, 3) := by decide +kernel
theorem dX0_mixPerson_26 : decode cX0_mixPerson 26 = .ok (.iload_n 3, 1) := by decide +kernel
theorem dX0_mixPerson_27 : decode cX0_mixPerson 27 = .ok (.iaload, 1) := by decide +kernel
theorem dX0_mixPerson_28 : decode cX0_mixPerson 28 = .ok (.i2l, 1) := by decide +kernel
theorem dX0_mixPerson_29 : decode cX0_mixPerson 29 = .ok (.invokestatic 175, 3) := by decide +kernel
theorem dX0_mixPerson_32 : decode cX0_mixPerson 32 = .ok (.lstore 4, 2) := by decide +kernel
theorem dX0_mixPerson_34 : decode cX0_mixPerson 34 = .ok (.lload 4, 2) := by decide +kernel
theorem dX0_mixPerson_36 : decode cX0_mixPerson 36 = .ok (.aload_n 0, 1) := by decide +kernel
theorem dX0_mixPerson_37 : decode cX0_mixPerson 37 = .ok (.getfield 33, 3) := by decide +kernel
theorem dX0_mixPerson_40 : decode cX0_mixPerson 40 = .ok (.iload_n 3, 1) := by decide +kernel
theorem dX0_mixPerson_41 : decode cX0_mixPerson 41 = .ok (.iaload, 1) := by decide +kernel
theorem dX0_mixPerson_42 : decode cX0_mixPerson 42 = .ok (.i2l, 1) := by decide +kernel
theorem dX0_mixPerson_43 : decode cX0_mixPerson 43 = .ok (.invokestatic 175, 3) := by decide +kernel
theorem dX0_mixPerson_46 : decode cX0_mixPerson 46 = .ok (.lstore 4, 2) := by decide +kernel
theorem dX0_mixPerson_48 : decode cX0_mixPerson 48 = .ok (.lload 4, 2) := by decide +kernel
theorem dX0_mixPerson_50 : decode cX0_mixPerson 50 = .ok (.aload_n 0, 1) := by decide +kernel
theorem dX0_mixPerson_51 : decode cX0_mixPerson 51 = .ok (.iload_n 3, 1) := by decide +kernel
theorem dX0_mixPerson_52 : decode cX0_mixPerson 52 = .ok (.invokevirtual 149, 3) := by decide +kernel
theorem dX0_mixPerson_55 : decode cX0_mixPerson 55 = .ok (.i2l, 1) := by decide +kernel
theorem dX0_mixPerson_56 : decode cX0_mixPerson 56 = .ok (.invokestatic 175, 3) := by decide +kernel
theorem dX0_mixPerson_59 : decode cX0_mixPerson 59 = .ok (.lstore 4, 2) := by decide +kernel
theorem dX0_mixPerson_61 : decode cX0_mixPerson 61 = .ok (.lload 4, 2) := by decide +kernel
theorem dX0_mixPerson_63 : decode cX0_mixPerson 63 = .ok (.aload_n 0, 1) := by decide +kernel
theorem dX0_mixPerson_64 : decode cX0_mixPerson 64 = .ok (.iload_n 3, 1) := by decide +kernel
theorem dX0_mixPerson_65 : decode cX0_mixPerson 65 = .ok (.invokevirtual 154, 3) := by decide +kernel
theorem dX0_mixPerson_68 : decode cX0_mixPerson 68 = .ok (.i2l, 1) := by decide +kernel
theorem dX0_mixPerson_69 : decode cX0_mixPerson 69 = .ok (.invokestatic 175, 3) := by decide +kernel
theorem dX0_mixPerson_72 : decode cX0_mixPerson 72 = .ok (.lstore 4, 2) := by decide +kernel
theorem dX0_mixPerson_74 : decode cX0_mixPerson 74 = .ok (.lload 4, 2) := by decide +kernel
theorem dX0_mixPerson_76 : decode cX0_mixPerson 76 = .ok (.aload_n 0, 1) := by decide +kernel
theorem dX0_mixPerson_77 : decode cX0_mixPerson 77 = .ok (.iload_n 3, 1) := by decide +kernel
theorem dX0_mixPerson_78 : decode cX0_mixPerson 78 = .ok (.invokevirtual 129, 3) := by decide +kernel
theorem dX0_mixPerson_81 : decode cX0_mixPerson 81 = .ok (.i2l, 1) := by decide +kernel
theorem dX0_mixPerson_82 : decode cX0_mixPerson 82 = .ok (.invokestatic 175, 3) := by decide +kernel
theorem dX0_mixPerson_85 : decode cX0_mixPerson 85 = .ok (.lreturn, 1) := by decide +kernel
