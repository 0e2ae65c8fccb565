theorem dX1_init_0 : decode cX1_init 0 = .ok (.aload_n 0, 1) := by decide +kernel
theorem dX1_init_1 : decode cX1_init 1 = .ok (.invokespecial 1, 3) := by decide +kernel
theorem dX1_init_4 : decode cX1_init 4 = .ok (.aload_n 0, 1) := by decide +kernel
theorem dX1_init_5 : decode cX1_init 5 = .ok (.bipush 6, 2) := by decide +kernel
theorem dX1_init_7 : decode cX1_init 7 = .ok (.newarray .int, 2) := by decide +kernel
theorem dX1_init_9 : decode cX1_init 9 = .ok (.putfield 9, 3) := by decide +kernel
theorem dX1_init_12 : decode cX1_init 12 = .ok (.aload_n 0, 1) := by decide +kernel
theorem dX1_init_13 : decode cX1_init 13 = .ok (.bipush 6, 2) := by decide +kernel
theorem dX1_init_15 : decode cX1_init 15 = .ok (.newarray .int, 2) := by decide +kernel
theorem dX1_init_17 : decode cX1_init 17 = .ok (.putfield 13, 3) := by decide +kernel
theorem dX1_init_20 : decode cX1_init 20 = .ok (.aload_n 0, 1) := by decide +kernel
theorem dX1_init_21 : decode cX1_init 21 = .ok (.sipush 288, 3) := by decide +kernel
theorem dX1_init_24 : decode cX1_init 24 = .ok (.newarray .int, 2) := by decide +kernel
theorem dX1_init_26 : decode cX1_init 26 = .ok (.putfield 16, 3) := by decide +kernel
theorem dX1_init_29 : decode cX1_init 29 = .ok (.aload_n 0, 1) := by decide +kernel
theorem dX1_init_30 : decode cX1_init 30 = .ok (.bipush 12, 2) := by decide +kernel
theorem dX1_init_32 : decode cX1_init 32 = .ok (.newarray .int, 2) := by decide +kernel
theorem dX1_init_34 : decode cX1_init 34 = .ok (.putfield 19, 3) := by decide +kernel
theorem dX1_init_37 : decode cX1_init 37 = .ok (.aload_n 0, 1) := by decide +kernel
theorem dX1_init_38 : decode cX1_init 38 = .ok (.bipush 12, 2) := by decide +kernel
theorem dX1_init_40 : decode cX1_init 40 = .ok (.newarray .int, 2) := by decide +kernel
theorem dX1_init_42 : decode cX1_init 42 = .ok (.putfield 22, 3) := by decide +kernel
theorem dX1_init_45 : decode cX1_init 45 = .ok (.aload_n 0, 1) := by decide +kernel
theorem dX1_init_46 : decode cX1_init 46 = .ok (.bipush 12, 2) := by decide +kernel
theorem dX1_init_48 : decode cX1_init 48 = .ok (.newarray .int, 2) := by decide +kernel
theorem dX1_init_50 : decode cX1_init 50 = .ok (.putfield 25, 3) := by decide +kernel
theorem dX1_init_53 : decode cX1_init 53 = .ok (.aload_n 0, 1) := by decide +kernel
theorem dX1_init_54 : decode cX1_init 54 = .ok (.bipush 12, 2) := by decide +kernel
theorem dX1_init_56 : decode cX1_init 56 = .ok (.newarray .boolean, 2) := by decide +kernel
theorem dX1_init_58 : decode cX1_init 58 = .ok (.putfield 28, 3) := by decide +kernel
theorem dX1_init_61 : decode cX1_init 61 = .ok (.aload_n 0, 1) := by decide +kernel
theorem dX1_init_62 : decode cX1_init 62 = .ok (.bipush 12, 2) := by decide +kernel
theorem dX1_init_64 : decode cX1_init 64 = .ok (.newarray .int, 2) := by decide +kernel
theorem dX1_init_66 : decode cX1_init 66 = .ok (.putfield 32, 3) := by decide +kernel
theorem dX1_init_69 : decode cX1_init 69 = .ok (.return_, 1) := by decide +kernel
theorem dX1_thrown_0 : decode cX1_thrown 0 = .ok (.aload_n 0, 1) := by decide +kernel
theorem dX1_thrown_1 : decode cX1_thrown 1 = .ok (.getfield 35, 3) := by decide +kernel
theorem dX1_thrown_4 : decode cX1_thrown 4 = .ok (.ireturn, 1) := by decide +kernel
theorem dX1_no_0 : decode cX1_no 0 = .ok (.aload_n 0, 1) := by decide +kernel
theorem dX1_no_1 : decode cX1_no 1 = .ok (.iload_n 1, 1) := by decide +kernel
theorem dX1_no_2 : decode cX1_no 2 = .ok (.putfield 35, 3) := by decide +kernel
theorem dX1_no_5 : decode cX1_no 5 = .ok (.iconst 0, 1) := by decide +kernel
theorem dX1_no_6 : decode cX1_no 6 = .ok (.ireturn, 1) := by decide +kernel
theorem dX1_isNot_0 : decode cX1_isNot 0 = .ok (.aload_n 0, 1) := by decide +kernel
theorem dX1_isNot_1 : decode cX1_isNot 1 = .ok (.iload_n 1, 1) := by decide +kernel
theorem dX1_isNot_2 : decode cX1_isNot 2 = .ok (.putfield 35, 3) := by decide +kernel
theorem dX1_isNot_5 : decode cX1_isNot 5 = .ok (.iconst 0, 1) := by decide +kernel
theorem dX1_isNot_6 : decode cX1_isNot 6 = .ok (.ireturn, 1) := by decide +kernel
theorem dX1_isIn_0 : decode cX1_isIn 0 = .ok (.iload_n 0, 1) := by decide +kernel
theorem dX1_isIn_1 : decode cX1_isIn 1 = .ok (.iload_n 1, 1) := by decide +kernel
theorem dX1_isIn_2 : decode cX1_isIn 2 = .ok (.if_icmp .lt 12, 3) := by decide +kernel
theorem dX1_isIn_5 : decode cX1_isIn 5 = .ok (.iload_n 0, 1) := by decide +kernel
theorem dX1_isIn_6 : decode cX1_isIn 6 = .ok (.iload_n 2, 1) := by decide +kernel
theorem dX1_isIn_7 : decode cX1_isIn 7 = .ok (.if_icmp .gt 7, 3) := by decide +kernel
theorem dX1_isIn_10 : decode cX1_isIn 10 = .ok (.iconst 1, 1) := by decide +kernel
theorem dX1_isIn_11 : decode cX1_isIn 11 = .ok (.goto 4, 3) := by decide +kernel
theorem dX1_isIn_14 : decode cX1_isIn 14 = .ok (.iconst 0, 1) := by decide +kernel
theorem dX1_isIn_15 : decode cX1_isIn 15 = .ok (.ireturn, 1) := by decide +kernel
set_option maxRecDepth 20000 in
theorem ggX1_isFerry_X1_isIn : GoodIn wsX1_isFerry wsX1_isIn := goodIn_r _ [5] (by decide +kernel) (by decide +kernel)
set_option maxRecDepth 20000 in
theorem gX1_isFerry_X1_isIn : GoodIn wsX1_isFerry (va_wsS RX1 42 yX1_isIn wsX1_isIn) := goodIn_app (goodIn_of _ (by decide +kernel)) ggX1_isFerry_X1_isIn
theorem dX1_isFerry_0 : decode cX1_isFerry 0 = .ok (.iload_n 1, 1) := by decide +kernel
theorem dX1_isFerry_1 : decode cX1_isFerry 1 = .ok (.iconst 0, 1) := by decide +kernel
theorem dX1_isFerry_2 : decode cX1_isFerry 2 = .ok (.aload_n 0, 1) := by decide +kernel
theorem dX1_isFerry_3 : decode cX1_isFerry 3 = .ok (.getfield 39, 3) := by decide +kernel
theorem dX1_isFerry_6 : decode cX1_isFerry 6 = .ok (.iconst 1, 1) := by decide +kernel
theorem dX1_isFerry_7 : decode cX1_isFerry 7 = .ok (.isub, 1) := by decide +kernel
theorem dX1_isFerry_8 : decode cX1_isFerry 8 = .ok (.invokestatic 42, 3) := by decide +kernel
theorem dX1_isFerry_11 : decode cX1_isFerry 11 = .ok (.ireturn, 1) := by decide +kernel
set_option maxRecDepth 20000 in
theorem ggX1_isWatch_X1_isFerry : GoodIn wsX1_isWatch wsX1_isFerry := goodIn_r _ [5, 6, 7, 8, 4, 9, 10, 11, 12, 13, 14, 15, 16, 17, 18, 19, 20, 21, 22] (by decide +kernel) (by decide +kernel)
set_option maxRecDepth 20000 in
theorem gX1_isWatch_X1_isFerry : GoodIn wsX1_isWatch (wsV RX1 46 RX1 yX1_isFerry wsX1_isFerry) := goodIn_app (goodIn_of _ (by decide +kernel)) ggX1_isWatch_X1_isFerry
set_option maxRecDepth 20000 in
theorem ggX1_isWatch_X1_isIn : GoodIn wsX1_isWatch wsX1_isIn := goodIn_r _ [9] (by decide +kernel) (by decide +kernel)
set_option maxRecDepth 20000 in
theorem gX1_isWatch_X1_isIn : GoodIn wsX1_isWatch (va_wsS RX1 42 yX1_isIn wsX1_isIn) := goodIn_app (goodIn_of _ (by decide +kernel)) ggX1_isWatch_X1_isIn
theorem dX1_isWatch_0 : decode cX1_isWatch 0 = .ok (.aload_n 0, 1) := by decide +kernel
theorem dX1_isWatch_1 : decode cX1_isWatch 1 = .ok (.iload_n 1, 1) := by decide +kernel
theorem dX1_isWatch_2 : decode cX1_isWatch 2 = .ok (.invokevirtual 46, 3) := by decide +kernel
theorem dX1_isWatch_5 : decode cX1_isWatch 5 = .ok (.ifCond .eq 16, 3) := by decide +kernel
theorem dX1_isWatch_8 : decode cX1_isWatch 8 = .ok (.iload_n 2, 1) := by decide +kernel
theorem dX1_isWatch_9 : decode cX1_isWatch 9 = .ok (.iconst 0, 1) := by decide +kernel
theorem dX1_isWatch_10 : decode cX1_isWatch 10 = .ok (.iconst 3, 1) := by decide +kernel
theorem dX1_isWatch_11 : decode cX1_isWatch 11 = .ok (.invokestatic 42, 3) := by decide +kernel
theorem dX1_isWatch_14 : decode cX1_isWatch 14 = .ok (.ifCond .eq 7, 3) := by decide +kernel
theorem dX1_isWatch_17 : decode cX1_isWatch 17 = .ok (.iconst 1, 1) := by decide +kernel
theorem dX1_isWatch_18 : decode cX1_isWatch 18 = .ok (.goto 4, 3) := by decide +kernel
theorem dX1_isWatch_21 : decode cX1_isWatch 21 = .ok (.iconst 0, 1) := by decide +kernel
theorem dX1_isWatch_22 : decode cX1_isWatch 22 = .ok (.ireturn, 1) := by decide +kernel
set_option maxRecDepth 20000 in
theorem ggX1_isPerson_X1_isIn : GoodIn wsX1_isPerson wsX1_isIn := goodIn_r _ [5] (by decide +kernel) (by decide +kernel)
set_option maxRecDepth 20000 in
theorem gX1_isPerson_X1_isIn : GoodIn wsX1_isPerson (va_wsS RX1 42 yX1_isIn wsX1_isIn) := goodIn_app (goodIn_of _ (by decide +kernel)) ggX1_isPerson_X1_isIn
theorem dX1_isPerson_0 : decode cX1_isPerson 0 = .ok (.iload_n 1, 1) := by decide +kernel
theorem dX1_isPerson_1 : decode cX1_isPerson 1 = .ok (.iconst 0, 1) := by decide +kernel
theorem dX1_isPerson_2 : decode cX1_isPerson 2 = .ok (.aload_n 0, 1) := by decide +kernel
theorem dX1_isPerson_3 : decode cX1_isPerson 3 = .ok (.getfield 50, 3) := by decide +kernel
theorem dX1_isPerson_6 : decode cX1_isPerson 6 = .ok (.iconst 1, 1) := by decide +kernel
theorem dX1_isPerson_7 : decode cX1_isPerson 7 = .ok (.isub, 1) := by decide +kernel
theorem dX1_isPerson_8 : decode cX1_isPerson 8 = .ok (.invokestatic 42, 3) := by decide +kernel
theorem dX1_isPerson_11 : decode cX1_isPerson 11 = .ok (.ireturn, 1) := by decide +kernel
theorem dX1_at_0 : decode cX1_at 0 = .ok (.bipush 12, 2) := by decide +kernel
theorem dX1_at_2 : decode cX1_at 2 = .ok (.iconst 4, 1) := by decide +kernel
theorem dX1_at_3 : decode cX1_at 3 = .ok (.iload_n 0, 1) := by decide +kernel
theorem dX1_at_4 : decode cX1_at 4 = .ok (.imul, 1) := by decide +kernel
theorem dX1_at_5 : decode cX1_at 5 = .ok (.iload_n 1, 1) := by decide +kernel
theorem dX1_at_6 : decode cX1_at 6 = .ok (.iadd, 1) := by decide +kernel
theorem dX1_at_7 : decode cX1_at 7 = .ok (.imul, 1) := by decide +kernel
theorem dX1_at_8 : decode cX1_at 8 = .ok (.iload_n 2, 1) := by decide +kernel
theorem dX1_at_9 : decode cX1_at 9 = .ok (.iadd, 1) := by decide +kernel
theorem dX1_at_10 : decode cX1_at 10 = .ok (.ireturn, 1) := by decide +kernel
set_option maxRecDepth 20000 in
theorem ggX1_crown_X1_at : GoodIn wsX1_crown wsX1_at := goodIn_r _ [6] (by decide +kernel) (by decide +kernel)
set_option maxRecDepth 20000 in
theorem gX1_crown_X1_at : GoodIn wsX1_crown (va_wsS RX1 53 yX1_at wsX1_at) := goodIn_app (goodIn_of _ (by decide +kernel)) ggX1_crown_X1_at
theorem dX1_crown_0 : decode cX1_crown 0 = .ok (.bipush 64, 2) := by decide +kernel
theorem dX1_crown_2 : decode cX1_crown 2 = .ok (.istore_n 3, 1) := by decide +kernel
theorem dX1_crown_3 : decode cX1_crown 3 = .ok (.iconst 0, 1) := by decide +kernel
theorem dX1_crown_4 : decode cX1_crown 4 = .ok (.istore 4, 2) := by decide +kernel
theorem dX1_crown_6 : decode cX1_crown 6 = .ok (.iload 4, 2) := by decide +kernel
theorem dX1_crown_8 : decode cX1_crown 8 = .ok (.aload_n 0, 1) := by decide +kernel
theorem dX1_crown_9 : decode cX1_crown 9 = .ok (.getfield 50, 3) := by decide +kernel
theorem dX1_crown_12 : decode cX1_crown 12 = .ok (.if_icmp .ge 24, 3) := by decide +kernel
theorem dX1_crown_15 : decode cX1_crown 15 = .ok (.iload_n 3, 1) := by decide +kernel
theorem dX1_crown_16 : decode cX1_crown 16 = .ok (.aload_n 0, 1) := by decide +kernel
theorem dX1_crown_17 : decode cX1_crown 17 = .ok (.getfield 16, 3) := by decide +kernel
theorem dX1_crown_20 : decode cX1_crown 20 = .ok (.iload_n 1, 1) := by decide +kernel
theorem dX1_crown_21 : decode cX1_crown 21 = .ok (.iload_n 2, 1) := by decide +kernel
theorem dX1_crown_22 : decode cX1_crown 22 = .ok (.iload 4, 2) := by decide +kernel
theorem dX1_crown_24 : decode cX1_crown 24 = .ok (.invokestatic 53, 3) := by decide +kernel
theorem dX1_crown_27 : decode cX1_crown 27 = .ok (.iaload, 1) := by decide +kernel
theorem dX1_crown_28 : decode cX1_crown 28 = .ok (.isub, 1) := by decide +kernel
theorem dX1_crown_29 : decode cX1_crown 29 = .ok (.istore_n 3, 1) := by decide +kernel
theorem dX1_crown_30 : decode cX1_crown 30 = .ok (.iinc 4 1, 3) := by decide +kernel
theorem dX1_crown_33 : decode cX1_crown 33 = .ok (.goto (-27), 3) := by decide +kernel
theorem dX1_crown_36 : decode cX1_crown 36 = .ok (.iload_n 3, 1) := by decide +kernel
theorem dX1_crown_37 : decode cX1_crown 37 = .ok (.ireturn, 1) := by decide +kernel
theorem dX1_worth_0 : decode cX1_worth 0 = .ok (.aload_n 0, 1) := by decide +kernel
theorem dX1_worth_1 : decode cX1_worth 1 = .ok (.getfield 9, 3) := by decide +kernel
theorem dX1_worth_4 : decode cX1_worth 4 = .ok (.iload_n 1, 1) := by decide +kernel
theorem dX1_worth_5 : decode cX1_worth 5 = .ok (.iaload, 1) := by decide +kernel
theorem dX1_worth_6 : decode cX1_worth 6 = .ok (.getstatic 57, 3) := by decide +kernel
theorem dX1_worth_9 : decode cX1_worth 9 = .ok (.iload_n 2, 1) := by decide +kernel
theorem dX1_worth_10 : decode cX1_worth 10 = .ok (.iaload, 1) := by decide +kernel
theorem dX1_worth_11 : decode cX1_worth 11 = .ok (.imul, 1) := by decide +kernel
theorem dX1_worth_12 : decode cX1_worth 12 = .ok (.iconst 1, 1) := by decide +kernel
theorem dX1_worth_13 : decode cX1_worth 13 = .ok (.iadd, 1) := by decide +kernel
theorem dX1_worth_14 : decode cX1_worth 14 = .ok (.ireturn, 1) := by decide +kernel
theorem dX1_get_0 : decode cX1_get 0 = .ok (.aload_n 0, 1) := by decide +kernel
theorem dX1_get_1 : decode cX1_get 1 = .ok (.getfield 19, 3) := by decide +kernel
theorem dX1_get_4 : decode cX1_get 4 = .ok (.iload_n 1, 1) := by decide +kernel
theorem dX1_get_5 : decode cX1_get 5 = .ok (.sipush 9999, 3) := by decide +kernel
theorem dX1_get_8 : decode cX1_get 8 = .ok (.aload_n 0, 1) := by decide +kernel
theorem dX1_get_9 : decode cX1_get 9 = .ok (.getfield 19, 3) := by decide +kernel
theorem dX1_get_12 : decode cX1_get 12 = .ok (.iload_n 1, 1) := by decide +kernel
theorem dX1_get_13 : decode cX1_get 13 = .ok (.iaload, 1) := by decide +kernel
theorem dX1_get_14 : decode cX1_get 14 = .ok (.iload_n 2, 1) := by decide +kernel
theorem dX1_get_15 : decode cX1_get 15 = .ok (.iadd, 1) := by decide +kernel
theorem dX1_get_16 : decode cX1_get 16 = .ok (.invokestatic 60, 3) := by decide +kernel
theorem dX1_get_19 : decode cX1_get 19 = .ok (.iastore, 1) := by decide +kernel
theorem dX1_get_20 : decode cX1_get 20 = .ok (.return_, 1) := by decide +kernel
set_option maxRecDepth 20000 in
theorem ggX1_addFerry_X1_isIn : GoodIn wsX1_addFerry wsX1_isIn := goodIn_r _ [7] (by decide +kernel) (by decide +kernel)
set_option maxRecDepth 20000 in
theorem gX1_addFerry_X1_isIn : GoodIn wsX1_addFerry (va_wsS RX1 42 yX1_isIn wsX1_isIn) := goodIn_app (goodIn_of _ (by decide +kernel)) ggX1_addFerry_X1_isIn
set_option maxRecDepth 20000 in
theorem ggX1_addFerry_X1_no : GoodIn wsX1_addFerry wsX1_no := goodIn_r _ [11, 1, 12, 13, 14, 15, 16, 17, 18, 19, 20, 21, 22, 23, 24] (by decide +kernel) (by decide +kernel)
set_option maxRecDepth 20000 in
theorem gX1_addFerry_X1_no : GoodIn wsX1_addFerry (wsV RX1 66 RX1 yX1_no wsX1_no) := goodIn_app (goodIn_of _ (by decide +kernel)) ggX1_addFerry_X1_no
theorem dX1_addFerry_0 : decode cX1_addFerry 0 = .ok (.aload_n 0, 1) := by decide +kernel
theorem dX1_addFerry_1 : decode cX1_addFerry 1 = .ok (.iconst 0, 1) := by decide +kernel
theorem dX1_addFerry_2 : decode cX1_addFerry 2 = .ok (.putfield 35, 3) := by decide +kernel
theorem dX1_addFerry_5 : decode cX1_addFerry 5 = .ok (.iload_n 1, 1) := by decide +kernel
theorem dX1_addFerry_6 : decode cX1_addFerry 6 = .ok (.iconst 0, 1) := by decide +kernel
theorem dX1_addFerry_7 : decode cX1_addFerry 7 = .ok (.bipush 20, 2) := by decide +kernel
theorem dX1_addFerry_9 : decode cX1_addFerry 9 = .ok (.invokestatic 42, 3) := by decide +kernel
theorem dX1_addFerry_12 : decode cX1_addFerry 12 = .ok (.ifCond .ne 9, 3) := by decide +kernel
theorem dX1_addFerry_15 : decode cX1_addFerry 15 = .ok (.aload_n 0, 1) := by decide +kernel
theorem dX1_addFerry_16 : decode cX1_addFerry 16 = .ok (.iconst 1, 1) := by decide +kernel
theorem dX1_addFerry_17 : decode cX1_addFerry 17 = .ok (.invokevirtual 66, 3) := by decide +kernel
theorem dX1_addFerry_20 : decode cX1_addFerry 20 = .ok (.ireturn, 1) := by decide +kernel
theorem dX1_addFerry_21 : decode cX1_addFerry 21 = .ok (.aload_n 0, 1) := by decide +kernel
theorem dX1_addFerry_22 : decode cX1_addFerry 22 = .ok (.getfield 39, 3) := by decide +kernel
theorem dX1_addFerry_25 : decode cX1_addFerry 25 = .ok (.bipush 6, 2) := by decide +kernel
theorem dX1_addFerry_27 : decode cX1_addFerry 27 = .ok (.if_icmp .ne 9, 3) := by decide +kernel
theorem dX1_addFerry_30 : decode cX1_addFerry 30 = .ok (.aload_n 0, 1) := by decide +kernel
theorem dX1_addFerry_31 : decode cX1_addFerry 31 = .ok (.iconst 2, 1) := by decide +kernel
theorem dX1_addFerry_32 : decode cX1_addFerry 32 = .ok (.invokevirtual 66, 3) := by decide +kernel
theorem dX1_addFerry_35 : decode cX1_addFerry 35 = .ok (.ireturn, 1) := by decide +kernel
theorem dX1_addFerry_36 : decode cX1_addFerry 36 = .ok (.aload_n 0, 1) := by decide +kernel
theorem dX1_addFerry_37 : decode cX1_addFerry 37 = .ok (.getfield 9, 3) := by decide +kernel
theorem dX1_addFerry_40 : decode cX1_addFerry 40 = .ok (.aload_n 0, 1) := by decide +kernel
theorem dX1_addFerry_41 : decode cX1_addFerry 41 = .ok (.getfield 39, 3) := by decide +kernel
theorem dX1_addFerry_44 : decode cX1_addFerry 44 = .ok (.iload_n 1, 1) := by decide +kernel
theorem dX1_addFerry_45 : decode cX1_addFerry 45 = .ok (.iastore, 1) := by decide +kernel
theorem dX1_addFerry_46 : decode cX1_addFerry 46 = .ok (.aload_n 0, 1) := by decide +kernel
theorem dX1_addFerry_47 : decode cX1_addFerry 47 = .ok (.dup, 1) := by decide +kernel
theorem dX1_addFerry_48 : decode cX1_addFerry 48 = .ok (.getfield 39, 3) := by decide +kernel
theorem dX1_addFerry_51 : decode cX1_addFerry 51 = .ok (.iconst 1, 1) := by decide +kernel
theorem dX1_addFerry_52 : decode cX1_addFerry 52 = .ok (.iadd, 1) := by decide +kernel
theorem dX1_addFerry_53 : decode cX1_addFerry 53 = .ok (.putfield 39, 3) := by decide +kernel
theorem dX1_addFerry_56 : decode cX1_addFerry 56 = .ok (.aload_n 0, 1) := by decide +kernel
theorem dX1_addFerry_57 : decode cX1_addFerry 57 = .ok (.getfield 39, 3) := by decide +kernel
theorem dX1_addFerry_60 : decode cX1_addFerry 60 = .ok (.iconst 1, 1) := by decide +kernel
theorem dX1_addFerry_61 : decode cX1_addFerry 61 = .ok (.isub, 1) := by decide +kernel
theorem dX1_addFerry_62 : decode cX1_addFerry 62 = .ok (.ireturn, 1) := by decide +kernel
theorem dX1_person_0 : decode cX1_person 0 = .ok (.aload_n 0, 1) := by decide +kernel
theorem dX1_person_1 : decode cX1_person 1 = .ok (.getfield 25, 3) := by decide +kernel
theorem dX1_person_4 : decode cX1_person 4 = .ok (.aload_n 0, 1) := by decide +kernel
theorem dX1_person_5 : decode cX1_person 5 = .ok (.getfield 50, 3) := by decide +kernel
theorem dX1_person_8 : decode cX1_person 8 = .ok (.iload_n 1, 1) := by decide +kernel
theorem dX1_person_9 : decode cX1_person 9 = .ok (.iastore, 1) := by decide +kernel
theorem dX1_person_10 : decode cX1_person 10 = .ok (.aload_n 0, 1) := by decide +kernel
theorem dX1_person_11 : decode cX1_person 11 = .ok (.dup, 1) := by decide +kernel
theorem dX1_person_12 : decode cX1_person 12 = .ok (.getfield 50, 3) := by decide +kernel
theorem dX1_person_15 : decode cX1_person 15 = .ok (.iconst 1, 1) := by decide +kernel
theorem dX1_person_16 : decode cX1_person 16 = .ok (.iadd, 1) := by decide +kernel
theorem dX1_person_17 : decode cX1_person 17 = .ok (.putfield 50, 3) := by decide +kernel
theorem dX1_person_20 : decode cX1_person 20 = .ok (.aload_n 0, 1) := by decide +kernel
theorem dX1_person_21 : decode cX1_person 21 = .ok (.getfield 50, 3) := by decide +kernel
theorem dX1_person_24 : decode cX1_person 24 = .ok (.iconst 1, 1) := by decide +kernel
theorem dX1_person_25 : decode cX1_person 25 = .ok (.isub, 1) := by decide +kernel
theorem dX1_person_26 : decode cX1_person 26 = .ok (.ireturn, 1) := by decide +kernel
set_option maxRecDepth 20000 in
theorem ggX1_addPerson_X1_person : GoodIn wsX1_addPerson wsX1_person := goodIn_r _ [7, 8, 2, 13, 14, 15, 16, 17, 18, 19, 20, 21, 22, 23, 24, 25] (by decide +kernel) (by decide +kernel)
set_option maxRecDepth 20000 in
theorem gX1_addPerson_X1_person : GoodIn wsX1_addPerson (wsV RX1 70 RX1 yX1_person wsX1_person) := goodIn_app (goodIn_of _ (by decide +kernel)) ggX1_addPerson_X1_person
set_option maxRecDepth 20000 in
theorem ggX1_addPerson_X1_no : GoodIn wsX1_addPerson wsX1_no := goodIn_r _ [12, 1, 13, 14, 15, 16, 17, 18, 19, 20, 21, 22, 23, 24, 25] (by decide +kernel) (by decide +kernel)
set_option maxRecDepth 20000 in
theorem gX1_addPerson_X1_no : GoodIn wsX1_addPerson (wsV RX1 66 RX1 yX1_no wsX1_no) := goodIn_app (goodIn_of _ (by decide +kernel)) ggX1_addPerson_X1_no
theorem dX1_addPerson_0 : decode cX1_addPerson 0 = .ok (.aload_n 0, 1) := by decide +kernel
theorem dX1_addPerson_1 : decode cX1_addPerson 1 = .ok (.iconst 0, 1) := by decide +kernel
theorem dX1_addPerson_2 : decode cX1_addPerson 2 = .ok (.putfield 35, 3) := by decide +kernel
theorem dX1_addPerson_5 : decode cX1_addPerson 5 = .ok (.aload_n 0, 1) := by decide +kernel
theorem dX1_addPerson_6 : decode cX1_addPerson 6 = .ok (.getfield 50, 3) := by decide +kernel
theorem dX1_addPerson_9 : decode cX1_addPerson 9 = .ok (.bipush 12, 2) := by decide +kernel
theorem dX1_addPerson_11 : decode cX1_addPerson 11 = .ok (.if_icmp .ge 11, 3) := by decide +kernel
theorem dX1_addPerson_14 : decode cX1_addPerson 14 = .ok (.aload_n 0, 1) := by decide +kernel
theorem dX1_addPerson_15 : decode cX1_addPerson 15 = .ok (.iconst (-1), 1) := by decide +kernel
theorem dX1_addPerson_16 : decode cX1_addPerson 16 = .ok (.invokevirtual 70, 3) := by decide +kernel
theorem dX1_addPerson_19 : decode cX1_addPerson 19 = .ok (.goto 8, 3) := by decide +kernel
theorem dX1_addPerson_22 : decode cX1_addPerson 22 = .ok (.aload_n 0, 1) := by decide +kernel
theorem dX1_addPerson_23 : decode cX1_addPerson 23 = .ok (.iconst 1, 1) := by decide +kernel
theorem dX1_addPerson_24 : decode cX1_addPerson 24 = .ok (.invokevirtual 66, 3) := by decide +kernel
theorem dX1_addPerson_27 : decode cX1_addPerson 27 = .ok (.ireturn, 1) := by decide +kernel
set_option maxRecDepth 20000 in
theorem ggX1_addChild_X1_isPerson : GoodIn wsX1_addChild wsX1_isPerson := goodIn_r _ [8, 3, 9, 10, 7, 11, 21, 22, 23, 24, 25, 26, 27, 28, 29, 30, 31, 32, 33] (by decide +kernel) (by decide +kernel)
set_option maxRecDepth 20000 in
theorem gX1_addChild_X1_isPerson : GoodIn wsX1_addChild (wsV RX1 73 RX1 yX1_isPerson wsX1_isPerson) := goodIn_app (goodIn_of _ (by decide +kernel)) ggX1_addChild_X1_isPerson
set_option maxRecDepth 20000 in
theorem ggX1_addChild_X1_no : GoodIn wsX1_addChild wsX1_no := goodIn_r _ [15, 1, 21, 22, 23, 24, 25, 26, 27, 28, 29, 30, 31, 32, 33] (by decide +kernel) (by decide +kernel)
set_option maxRecDepth 20000 in
theorem gX1_addChild_X1_no : GoodIn wsX1_addChild (wsV RX1 66 RX1 yX1_no wsX1_no) := goodIn_app (goodIn_of _ (by decide +kernel)) ggX1_addChild_X1_no
set_option maxRecDepth 20000 in
theorem ggX1_addChild_X1_person : GoodIn wsX1_addChild wsX1_person := goodIn_r _ [19, 20, 3, 21, 22, 23, 24, 25, 26, 27, 28, 29, 30, 31, 32, 33] (by decide +kernel) (by decide +kernel)
set_option maxRecDepth 20000 in
theorem gX1_addChild_X1_person : GoodIn wsX1_addChild (wsV RX1 70 RX1 yX1_person wsX1_person) := goodIn_app (goodIn_of _ (by decide +kernel)) ggX1_addChild_X1_person
theorem dX1_addChild_0 : decode cX1_addChild 0 = .ok (.aload_n 0, 1) := by decide +kernel
theorem dX1_addChild_1 : decode cX1_addChild 1 = .ok (.iconst 0, 1) := by decide +kernel
theorem dX1_addChild_2 : decode cX1_addChild 2 = .ok (.putfield 35, 3) := by decide +kernel
theorem dX1_addChild_5 : decode cX1_addChild 5 = .ok (.aload_n 0, 1) := by decide +kernel
theorem dX1_addChild_6 : decode cX1_addChild 6 = .ok (.iload_n 1, 1) := by decide +kernel
theorem dX1_addChild_7 : decode cX1_addChild 7 = .ok (.invokevirtual 73, 3) := by decide +kernel
theorem dX1_addChild_10 : decode cX1_addChild 10 = .ok (.ifCond .ne 9, 3) := by decide +kernel
theorem dX1_addChild_13 : decode cX1_addChild 13 = .ok (.aload_n 0, 1) := by decide +kernel
theorem dX1_addChild_14 : decode cX1_addChild 14 = .ok (.iconst 1, 1) := by decide +kernel
theorem dX1_addChild_15 : decode cX1_addChild 15 = .ok (.invokevirtual 66, 3) := by decide +kernel
theorem dX1_addChild_18 : decode cX1_addChild 18 = .ok (.ireturn, 1) := by decide +kernel
theorem dX1_addChild_19 : decode cX1_addChild 19 = .ok (.aload_n 0, 1) := by decide +kernel
theorem dX1_addChild_20 : decode cX1_addChild 20 = .ok (.getfield 28, 3) := by decide +kernel
theorem dX1_addChild_23 : decode cX1_addChild 23 = .ok (.iload_n 1, 1) := by decide +kernel
theorem dX1_addChild_24 : decode cX1_addChild 24 = .ok (.baload, 1) := by decide +kernel
theorem dX1_addChild_25 : decode cX1_addChild 25 = .ok (.ifCond .ne 12, 3) := by decide +kernel
theorem dX1_addChild_28 : decode cX1_addChild 28 = .ok (.aload_n 0, 1) := by decide +kernel
theorem dX1_addChild_29 : decode cX1_addChild 29 = .ok (.getfield 50, 3) := by decide +kernel
theorem dX1_addChild_32 : decode cX1_addChild 32 = .ok (.bipush 12, 2) := by decide +kernel
theorem dX1_addChild_34 : decode cX1_addChild 34 = .ok (.if_icmp .ne 11, 3) := by decide +kernel
theorem dX1_addChild_37 : decode cX1_addChild 37 = .ok (.aload_n 0, 1) := by decide +kernel
theorem dX1_addChild_38 : decode cX1_addChild 38 = .ok (.iconst 2, 1) := by decide +kernel
theorem dX1_addChild_39 : decode cX1_addChild 39 = .ok (.invokevirtual 66, 3) := by decide +kernel
theorem dX1_addChild_42 : decode cX1_addChild 42 = .ok (.goto 8, 3) := by decide +kernel
theorem dX1_addChild_45 : decode cX1_addChild 45 = .ok (.aload_n 0, 1) := by decide +kernel
theorem dX1_addChild_46 : decode cX1_addChild 46 = .ok (.iload_n 1, 1) := by decide +kernel
theorem dX1_addChild_47 : decode cX1_addChild 47 = .ok (.invokevirtual 70, 3) := by decide +kernel
theorem dX1_addChild_50 : decode cX1_addChild 50 = .ok (.ireturn, 1) := by decide +kernel
set_option maxRecDepth 20000 in
theorem ggX1_pay_X1_isPerson : GoodIn wsX1_pay wsX1_isPerson := goodIn_r _ [8, 9, 10, 11, 7, 12, 25, 26, 27, 28, 29, 30, 31, 32, 33, 34, 35, 36, 37] (by decide +kernel) (by decide +kernel)
set_option maxRecDepth 20000 in
theorem gX1_pay_X1_isPerson : GoodIn wsX1_pay (wsV RX1 73 RX1 yX1_isPerson wsX1_isPerson) := goodIn_app (goodIn_of _ (by decide +kernel)) ggX1_pay_X1_isPerson
set_option maxRecDepth 20000 in
theorem ggX1_pay_X1_no : GoodIn wsX1_pay wsX1_no := goodIn_r _ [16, 1, 25, 26, 27, 28, 29, 30, 31, 32, 33, 34, 35, 36, 37] (by decide +kernel) (by decide +kernel)
set_option maxRecDepth 20000 in
theorem gX1_pay_X1_no : GoodIn wsX1_pay (wsV RX1 66 RX1 yX1_no wsX1_no) := goodIn_app (goodIn_of _ (by decide +kernel)) ggX1_pay_X1_no
set_option maxRecDepth 20000 in
theorem ggX1_pay_X1_isIn : GoodIn wsX1_pay wsX1_isIn := goodIn_r _ [12] (by decide +kernel) (by decide +kernel)
set_option maxRecDepth 20000 in
theorem gX1_pay_X1_isIn : GoodIn wsX1_pay (va_wsS RX1 42 yX1_isIn wsX1_isIn) := goodIn_app (goodIn_of _ (by decide +kernel)) ggX1_pay_X1_isIn
set_option maxRecDepth 20000 in
theorem ggX1_pay_X1_get : GoodIn wsX1_pay wsX1_get := goodIn_r _ [20, 3, 21, 22, 23, 24, 25, 26, 27, 28, 29, 30, 31, 32, 33, 34, 35, 36, 37] (by decide +kernel) (by decide +kernel)
set_option maxRecDepth 20000 in
theorem gX1_pay_X1_get : GoodIn wsX1_pay (wsV RX1 76 RX1 yX1_get wsX1_get) := goodIn_app (goodIn_of _ (by decide +kernel)) ggX1_pay_X1_get
theorem dX1_pay_0 : decode cX1_pay 0 = .ok (.aload_n 0, 1) := by decide +kernel
theorem dX1_pay_1 : decode cX1_pay 1 = .ok (.iconst 0, 1) := by decide +kernel
theorem dX1_pay_2 : decode cX1_pay 2 = .ok (.putfield 35, 3) := by decide +kernel
theorem dX1_pay_5 : decode cX1_pay 5 = .ok (.aload_n 0, 1) := by decide +kernel
theorem dX1_pay_6 : decode cX1_pay 6 = .ok (.iload_n 1, 1) := by decide +kernel
theorem dX1_pay_7 : decode cX1_pay 7 = .ok (.invokevirtual 73, 3) := by decide +kernel
theorem dX1_pay_10 : decode cX1_pay 10 = .ok (.ifCond .ne 9, 3) := by decide +kernel
theorem dX1_pay_13 : decode cX1_pay 13 = .ok (.aload_n 0, 1) := by decide +kernel
theorem dX1_pay_14 : decode cX1_pay 14 = .ok (.iconst 1, 1) := by decide +kernel
theorem dX1_pay_15 : decode cX1_pay 15 = .ok (.invokevirtual 66, 3) := by decide +kernel
theorem dX1_pay_18 : decode cX1_pay 18 = .ok (.ireturn, 1) := by decide +kernel
theorem dX1_pay_19 : decode cX1_pay 19 = .ok (.iload_n 2, 1) := by decide +kernel
theorem dX1_pay_20 : decode cX1_pay 20 = .ok (.iconst 1, 1) := by decide +kernel
theorem dX1_pay_21 : decode cX1_pay 21 = .ok (.sipush 9999, 3) := by decide +kernel
theorem dX1_pay_24 : decode cX1_pay 24 = .ok (.invokestatic 42, 3) := by decide +kernel
theorem dX1_pay_27 : decode cX1_pay 27 = .ok (.ifCond .ne 9, 3) := by decide +kernel
theorem dX1_pay_30 : decode cX1_pay 30 = .ok (.aload_n 0, 1) := by decide +kernel
theorem dX1_pay_31 : decode cX1_pay 31 = .ok (.iconst 2, 1) := by decide +kernel
theorem dX1_pay_32 : decode cX1_pay 32 = .ok (.invokevirtual 66, 3) := by decide +kernel
theorem dX1_pay_35 : decode cX1_pay 35 = .ok (.ireturn, 1) := by decide +kernel
theorem dX1_pay_36 : decode cX1_pay 36 = .ok (.aload_n 0, 1) := by decide +kernel
theorem dX1_pay_37 : decode cX1_pay 37 = .ok (.getfield 28, 3) := by decide +kernel
theorem dX1_pay_40 : decode cX1_pay 40 = .ok (.iload_n 1, 1) := by decide +kernel
theorem dX1_pay_41 : decode cX1_pay 41 = .ok (.baload, 1) := by decide +kernel
theorem dX1_pay_42 : decode cX1_pay 42 = .ok (.ifCond .eq 9, 3) := by decide +kernel
theorem dX1_pay_45 : decode cX1_pay 45 = .ok (.aload_n 0, 1) := by decide +kernel
theorem dX1_pay_46 : decode cX1_pay 46 = .ok (.iconst 3, 1) := by decide +kernel
theorem dX1_pay_47 : decode cX1_pay 47 = .ok (.invokevirtual 66, 3) := by decide +kernel
theorem dX1_pay_50 : decode cX1_pay 50 = .ok (.ireturn, 1) := by decide +kernel
theorem dX1_pay_51 : decode cX1_pay 51 = .ok (.aload_n 0, 1) := by decide +kernel
theorem dX1_pay_52 : decode cX1_pay 52 = .ok (.iload_n 1, 1) := by decide +kernel
theorem dX1_pay_53 : decode cX1_pay 53 = .ok (.iload_n 2, 1) := by decide +kernel
theorem dX1_pay_54 : decode cX1_pay 54 = .ok (.invokevirtual 76, 3) := by decide +kernel
theorem dX1_pay_57 : decode cX1_pay 57 = .ok (.aload_n 0, 1) := by decide +kernel
theorem dX1_pay_58 : decode cX1_pay 58 = .ok (.getfield 19, 3) := by decide +kernel
theorem dX1_pay_61 : decode cX1_pay 61 = .ok (.iload_n 1, 1) := by decide +kernel
theorem dX1_pay_62 : decode cX1_pay 62 = .ok (.iaload, 1) := by decide +kernel
theorem dX1_pay_63 : decode cX1_pay 63 = .ok (.ireturn, 1) := by decide +kernel
set_option maxRecDepth 20000 in
theorem ggX1_grant_X1_isWatch : GoodIn wsX1_grant wsX1_isWatch := goodIn_r _ [8, 9, 10, 11, 7, 12, 13, 14, 15, 16, 33, 34, 35, 36, 37, 38, 39, 40, 41, 42, 43, 44, 45] (by decide +kernel) (by decide +kernel)
set_option maxRecDepth 20000 in
theorem gX1_grant_X1_isWatch : GoodIn wsX1_grant (wsV RX1 80 RX1 yX1_isWatch wsX1_isWatch) := goodIn_app (goodIn_of _ (by decide +kernel)) ggX1_grant_X1_isWatch
set_option maxRecDepth 20000 in
theorem ggX1_grant_X1_isPerson : GoodIn wsX1_grant wsX1_isPerson := goodIn_r _ [20, 21, 14, 15, 7, 16, 33, 34, 35, 36, 37, 38, 39, 40, 41, 42, 43, 44, 45] (by decide +kernel) (by decide +kernel)
set_option maxRecDepth 20000 in
theorem gX1_grant_X1_isPerson : GoodIn wsX1_grant (wsV RX1 73 RX1 yX1_isPerson wsX1_isPerson) := goodIn_app (goodIn_of _ (by decide +kernel)) ggX1_grant_X1_isPerson
set_option maxRecDepth 20000 in
theorem ggX1_grant_X1_no : GoodIn wsX1_grant wsX1_no := goodIn_r _ [25, 1, 33, 34, 35, 36, 37, 38, 39, 40, 41, 42, 43, 44, 45] (by decide +kernel) (by decide +kernel)
set_option maxRecDepth 20000 in
theorem gX1_grant_X1_no : GoodIn wsX1_grant (wsV RX1 66 RX1 yX1_no wsX1_no) := goodIn_app (goodIn_of _ (by decide +kernel)) ggX1_grant_X1_no
set_option maxRecDepth 20000 in
theorem ggX1_grant_X1_isIn : GoodIn wsX1_grant wsX1_isIn := goodIn_r _ [16] (by decide +kernel) (by decide +kernel)
set_option maxRecDepth 20000 in
theorem gX1_grant_X1_isIn : GoodIn wsX1_grant (va_wsS RX1 42 yX1_isIn wsX1_isIn) := goodIn_app (goodIn_of _ (by decide +kernel)) ggX1_grant_X1_isIn
set_option maxRecDepth 20000 in
theorem ggX1_grant_X1_crown : GoodIn wsX1_grant wsX1_crown := goodIn_r _ [29, 21, 3, 30, 31, 7, 32, 33, 34, 35, 36, 37, 38, 39, 40, 41, 42, 43, 44, 45] (by decide +kernel) (by decide +kernel)
set_option maxRecDepth 20000 in
theorem gX1_grant_X1_crown : GoodIn wsX1_grant (wsV RX1 84 RX1 yX1_crown wsX1_crown) := goodIn_app (goodIn_of _ (by decide +kernel)) ggX1_grant_X1_crown
set_option maxRecDepth 20000 in
theorem ggX1_grant_X1_at : GoodIn wsX1_grant wsX1_at := goodIn_r _ [32] (by decide +kernel) (by decide +kernel)
set_option maxRecDepth 20000 in
theorem gX1_grant_X1_at : GoodIn wsX1_grant (va_wsS RX1 53 yX1_at wsX1_at) := goodIn_app (goodIn_of _ (by decide +kernel)) ggX1_grant_X1_at
theorem dX1_grant_0 : decode cX1_grant 0 = .ok (.aload_n 0, 1) := by decide +kernel
theorem dX1_grant_1 : decode cX1_grant 1 = .ok (.iconst 0, 1) := by decide +kernel
theorem dX1_grant_2 : decode cX1_grant 2 = .ok (.putfield 35, 3) := by decide +kernel
theorem dX1_grant_5 : decode cX1_grant 5 = .ok (.aload_n 0, 1) := by decide +kernel
theorem dX1_grant_6 : decode cX1_grant 6 = .ok (.iload_n 1, 1) := by decide +kernel
theorem dX1_grant_7 : decode cX1_grant 7 = .ok (.iload_n 2, 1) := by decide +kernel
theorem dX1_grant_8 : decode cX1_grant 8 = .ok (.invokevirtual 80, 3) := by decide +kernel
theorem dX1_grant_11 : decode cX1_grant 11 = .ok (.ifCond .eq 11, 3) := by decide +kernel
theorem dX1_grant_14 : decode cX1_grant 14 = .ok (.aload_n 0, 1) := by decide +kernel
theorem dX1_grant_15 : decode cX1_grant 15 = .ok (.iload_n 3, 1) := by decide +kernel
theorem dX1_grant_16 : decode cX1_grant 16 = .ok (.invokevirtual 73, 3) := by decide +kernel
theorem dX1_grant_19 : decode cX1_grant 19 = .ok (.ifCond .ne 9, 3) := by decide +kernel
theorem dX1_grant_22 : decode cX1_grant 22 = .ok (.aload_n 0, 1) := by decide +kernel
theorem dX1_grant_23 : decode cX1_grant 23 = .ok (.iconst 1, 1) := by decide +kernel
theorem dX1_grant_24 : decode cX1_grant 24 = .ok (.invokevirtual 66, 3) := by decide +kernel
theorem dX1_grant_27 : decode cX1_grant 27 = .ok (.ireturn, 1) := by decide +kernel
theorem dX1_grant_28 : decode cX1_grant 28 = .ok (.iload 4, 2) := by decide +kernel
theorem dX1_grant_30 : decode cX1_grant 30 = .ok (.iconst 1, 1) := by decide +kernel
theorem dX1_grant_31 : decode cX1_grant 31 = .ok (.bipush 64, 2) := by decide +kernel
theorem dX1_grant_33 : decode cX1_grant 33 = .ok (.invokestatic 42, 3) := by decide +kernel
theorem dX1_grant_36 : decode cX1_grant 36 = .ok (.ifCond .ne 9, 3) := by decide +kernel
theorem dX1_grant_39 : decode cX1_grant 39 = .ok (.aload_n 0, 1) := by decide +kernel
theorem dX1_grant_40 : decode cX1_grant 40 = .ok (.iconst 2, 1) := by decide +kernel
theorem dX1_grant_41 : decode cX1_grant 41 = .ok (.invokevirtual 66, 3) := by decide +kernel
theorem dX1_grant_44 : decode cX1_grant 44 = .ok (.ireturn, 1) := by decide +kernel
theorem dX1_grant_45 : decode cX1_grant 45 = .ok (.aload_n 0, 1) := by decide +kernel
theorem dX1_grant_46 : decode cX1_grant 46 = .ok (.getfield 28, 3) := by decide +kernel
theorem dX1_grant_49 : decode cX1_grant 49 = .ok (.iload_n 3, 1) := by decide +kernel
theorem dX1_grant_50 : decode cX1_grant 50 = .ok (.baload, 1) := by decide +kernel
theorem dX1_grant_51 : decode cX1_grant 51 = .ok (.ifCond .ne 14, 3) := by decide +kernel
theorem dX1_grant_54 : decode cX1_grant 54 = .ok (.aload_n 0, 1) := by decide +kernel
theorem dX1_grant_55 : decode cX1_grant 55 = .ok (.iload_n 1, 1) := by decide +kernel
theorem dX1_grant_56 : decode cX1_grant 56 = .ok (.iload_n 2, 1) := by decide +kernel
theorem dX1_grant_57 : decode cX1_grant 57 = .ok (.invokevirtual 84, 3) := by decide +kernel
theorem dX1_grant_60 : decode cX1_grant 60 = .ok (.iload 4, 2) := by decide +kernel
theorem dX1_grant_62 : decode cX1_grant 62 = .ok (.if_icmp .ge 9, 3) := by decide +kernel
theorem dX1_grant_65 : decode cX1_grant 65 = .ok (.aload_n 0, 1) := by decide +kernel
theorem dX1_grant_66 : decode cX1_grant 66 = .ok (.iconst 3, 1) := by decide +kernel
theorem dX1_grant_67 : decode cX1_grant 67 = .ok (.invokevirtual 66, 3) := by decide +kernel
theorem dX1_grant_70 : decode cX1_grant 70 = .ok (.ireturn, 1) := by decide +kernel
theorem dX1_grant_71 : decode cX1_grant 71 = .ok (.aload_n 0, 1) := by decide +kernel
theorem dX1_grant_72 : decode cX1_grant 72 = .ok (.getfield 16, 3) := by decide +kernel
theorem dX1_grant_75 : decode cX1_grant 75 = .ok (.iload_n 1, 1) := by decide +kernel
theorem dX1_grant_76 : decode cX1_grant 76 = .ok (.iload_n 2, 1) := by decide +kernel
theorem dX1_grant_77 : decode cX1_grant 77 = .ok (.iload_n 3, 1) := by decide +kernel
theorem dX1_grant_78 : decode cX1_grant 78 = .ok (.invokestatic 53, 3) := by decide +kernel
theorem dX1_grant_81 : decode cX1_grant 81 = .ok (.dup2, 1) := by decide +kernel
theorem dX1_grant_82 : decode cX1_grant 82 = .ok (.iaload, 1) := by decide +kernel
theorem dX1_grant_83 : decode cX1_grant 83 = .ok (.iload 4, 2) := by decide +kernel
theorem dX1_grant_85 : decode cX1_grant 85 = .ok (.iadd, 1) := by decide +kernel
theorem dX1_grant_86 : decode cX1_grant 86 = .ok (.iastore, 1) := by decide +kernel
theorem dX1_grant_87 : decode cX1_grant 87 = .ok (.aload_n 0, 1) := by decide +kernel
theorem dX1_grant_88 : decode cX1_grant 88 = .ok (.iload_n 1, 1) := by decide +kernel
theorem dX1_grant_89 : decode cX1_grant 89 = .ok (.iload_n 2, 1) := by decide +kernel
theorem dX1_grant_90 : decode cX1_grant 90 = .ok (.invokevirtual 84, 3) := by decide +kernel
theorem dX1_grant_93 : decode cX1_grant 93 = .ok (.ireturn, 1) := by decide +kernel
set_option maxRecDepth 20000 in
theorem ggX1_give_X1_isPerson : GoodIn wsX1_give wsX1_isPerson := goodIn_r _ [8, 9, 10, 11, 7, 12, 29, 30, 31, 32, 33, 34, 35, 36, 37, 38, 39, 40, 41] (by decide +kernel) (by decide +kernel)
set_option maxRecDepth 20000 in
theorem gX1_give_X1_isPerson : GoodIn wsX1_give (wsV RX1 73 RX1 yX1_isPerson wsX1_isPerson) := goodIn_app (goodIn_of _ (by decide +kernel)) ggX1_give_X1_isPerson
set_option maxRecDepth 20000 in
theorem ggX1_give_X1_isWatch : GoodIn wsX1_give wsX1_isWatch := goodIn_r _ [16, 17, 18, 19, 7, 20, 21, 10, 11, 12, 29, 30, 31, 32, 33, 34, 35, 36, 37, 38, 39, 40, 41] (by decide +kernel) (by decide +kernel)
set_option maxRecDepth 20000 in
theorem gX1_give_X1_isWatch : GoodIn wsX1_give (wsV RX1 80 RX1 yX1_isWatch wsX1_isWatch) := goodIn_app (goodIn_of _ (by decide +kernel)) ggX1_give_X1_isWatch
set_option maxRecDepth 20000 in
theorem ggX1_give_X1_no : GoodIn wsX1_give wsX1_no := goodIn_r _ [25, 1, 29, 30, 31, 32, 33, 34, 35, 36, 37, 38, 39, 40, 41] (by decide +kernel) (by decide +kernel)
set_option maxRecDepth 20000 in
theorem gX1_give_X1_no : GoodIn wsX1_give (wsV RX1 66 RX1 yX1_no wsX1_no) := goodIn_app (goodIn_of _ (by decide +kernel)) ggX1_give_X1_no
set_option maxRecDepth 20000 in
theorem ggX1_give_X1_isIn : GoodIn wsX1_give wsX1_isIn := goodIn_r _ [12] (by decide +kernel) (by decide +kernel)
set_option maxRecDepth 20000 in
theorem gX1_give_X1_isIn : GoodIn wsX1_give (va_wsS RX1 42 yX1_isIn wsX1_isIn) := goodIn_app (goodIn_of _ (by decide +kernel)) ggX1_give_X1_isIn
set_option maxRecDepth 20000 in
theorem ggX1_give_X1_at : GoodIn wsX1_give wsX1_at := goodIn_r _ [28] (by decide +kernel) (by decide +kernel)
set_option maxRecDepth 20000 in
theorem gX1_give_X1_at : GoodIn wsX1_give (va_wsS RX1 53 yX1_at wsX1_at) := goodIn_app (goodIn_of _ (by decide +kernel)) ggX1_give_X1_at
theorem dX1_give_0 : decode cX1_give 0 = .ok (.aload_n 0, 1) := by decide +kernel
theorem dX1_give_1 : decode cX1_give 1 = .ok (.iconst 0, 1) := by decide +kernel
theorem dX1_give_2 : decode cX1_give 2 = .ok (.putfield 35, 3) := by decide +kernel
theorem dX1_give_5 : decode cX1_give 5 = .ok (.aload_n 0, 1) := by decide +kernel
theorem dX1_give_6 : decode cX1_give 6 = .ok (.iload_n 1, 1) := by decide +kernel
theorem dX1_give_7 : decode cX1_give 7 = .ok (.invokevirtual 73, 3) := by decide +kernel
theorem dX1_give_10 : decode cX1_give 10 = .ok (.ifCond .eq 21, 3) := by decide +kernel
theorem dX1_give_13 : decode cX1_give 13 = .ok (.aload_n 0, 1) := by decide +kernel
theorem dX1_give_14 : decode cX1_give 14 = .ok (.iload_n 2, 1) := by decide +kernel
theorem dX1_give_15 : decode cX1_give 15 = .ok (.invokevirtual 73, 3) := by decide +kernel
theorem dX1_give_18 : decode cX1_give 18 = .ok (.ifCond .eq 13, 3) := by decide +kernel
theorem dX1_give_21 : decode cX1_give 21 = .ok (.aload_n 0, 1) := by decide +kernel
theorem dX1_give_22 : decode cX1_give 22 = .ok (.iload_n 3, 1) := by decide +kernel
theorem dX1_give_23 : decode cX1_give 23 = .ok (.iload 4, 2) := by decide +kernel
theorem dX1_give_25 : decode cX1_give 25 = .ok (.invokevirtual 80, 3) := by decide +kernel
theorem dX1_give_28 : decode cX1_give 28 = .ok (.ifCond .ne 9, 3) := by decide +kernel
theorem dX1_give_31 : decode cX1_give 31 = .ok (.aload_n 0, 1) := by decide +kernel
theorem dX1_give_32 : decode cX1_give 32 = .ok (.iconst 1, 1) := by decide +kernel
theorem dX1_give_33 : decode cX1_give 33 = .ok (.invokevirtual 66, 3) := by decide +kernel
theorem dX1_give_36 : decode cX1_give 36 = .ok (.ireturn, 1) := by decide +kernel
theorem dX1_give_37 : decode cX1_give 37 = .ok (.iload 5, 2) := by decide +kernel
theorem dX1_give_39 : decode cX1_give 39 = .ok (.iconst 1, 1) := by decide +kernel
theorem dX1_give_40 : decode cX1_give 40 = .ok (.bipush 64, 2) := by decide +kernel
theorem dX1_give_42 : decode cX1_give 42 = .ok (.invokestatic 42, 3) := by decide +kernel
theorem dX1_give_45 : decode cX1_give 45 = .ok (.ifCond .eq 8, 3) := by decide +kernel
theorem dX1_give_48 : decode cX1_give 48 = .ok (.iload_n 1, 1) := by decide +kernel
theorem dX1_give_49 : decode cX1_give 49 = .ok (.iload_n 2, 1) := by decide +kernel
theorem dX1_give_50 : decode cX1_give 50 = .ok (.if_icmp .ne 9, 3) := by decide +kernel
theorem dX1_give_53 : decode cX1_give 53 = .ok (.aload_n 0, 1) := by decide +kernel
theorem dX1_give_54 : decode cX1_give 54 = .ok (.iconst 2, 1) := by decide +kernel
theorem dX1_give_55 : decode cX1_give 55 = .ok (.invokevirtual 66, 3) := by decide +kernel
theorem dX1_give_58 : decode cX1_give 58 = .ok (.ireturn, 1) := by decide +kernel
theorem dX1_give_59 : decode cX1_give 59 = .ok (.aload_n 0, 1) := by decide +kernel
theorem dX1_give_60 : decode cX1_give 60 = .ok (.getfield 28, 3) := by decide +kernel
theorem dX1_give_63 : decode cX1_give 63 = .ok (.iload_n 2, 1) := by decide +kernel
theorem dX1_give_64 : decode cX1_give 64 = .ok (.baload, 1) := by decide +kernel
theorem dX1_give_65 : decode cX1_give 65 = .ok (.ifCond .ne 20, 3) := by decide +kernel
theorem dX1_give_68 : decode cX1_give 68 = .ok (.aload_n 0, 1) := by decide +kernel
theorem dX1_give_69 : decode cX1_give 69 = .ok (.getfield 16, 3) := by decide +kernel
theorem dX1_give_72 : decode cX1_give 72 = .ok (.iload_n 3, 1) := by decide +kernel
theorem dX1_give_73 : decode cX1_give 73 = .ok (.iload 4, 2) := by decide +kernel
theorem dX1_give_75 : decode cX1_give 75 = .ok (.iload_n 1, 1) := by decide +kernel
theorem dX1_give_76 : decode cX1_give 76 = .ok (.invokestatic 53, 3) := by decide +kernel
theorem dX1_give_79 : decode cX1_give 79 = .ok (.iaload, 1) := by decide +kernel
theorem dX1_give_80 : decode cX1_give 80 = .ok (.iload 5, 2) := by decide +kernel
theorem dX1_give_82 : decode cX1_give 82 = .ok (.if_icmp .ge 9, 3) := by decide +kernel
theorem dX1_give_85 : decode cX1_give 85 = .ok (.aload_n 0, 1) := by decide +kernel
theorem dX1_give_86 : decode cX1_give 86 = .ok (.iconst 3, 1) := by decide +kernel
theorem dX1_give_87 : decode cX1_give 87 = .ok (.invokevirtual 66, 3) := by decide +kernel
theorem dX1_give_90 : decode cX1_give 90 = .ok (.ireturn, 1) := by decide +kernel
theorem dX1_give_91 : decode cX1_give 91 = .ok (.aload_n 0, 1) := by decide +kernel
theorem dX1_give_92 : decode cX1_give 92 = .ok (.getfield 16, 3) := by decide +kernel
theorem dX1_give_95 : decode cX1_give 95 = .ok (.iload_n 3, 1) := by decide +kernel
theorem dX1_give_96 : decode cX1_give 96 = .ok (.iload 4, 2) := by decide +kernel
theorem dX1_give_98 : decode cX1_give 98 = .ok (.iload_n 1, 1) := by decide +kernel
theorem dX1_give_99 : decode cX1_give 99 = .ok (.invokestatic 53, 3) := by decide +kernel
theorem dX1_give_102 : decode cX1_give 102 = .ok (.dup2, 1) := by decide +kernel
theorem dX1_give_103 : decode cX1_give 103 = .ok (.iaload, 1) := by decide +kernel
theorem dX1_give_104 : decode cX1_give 104 = .ok (.iload 5, 2) := by decide +kernel
theorem dX1_give_106 : decode cX1_give 106 = .ok (.isub, 1) := by decide +kernel
theorem dX1_give_107 : decode cX1_give 107 = .ok (.iastore, 1) := by decide +kernel
theorem dX1_give_108 : decode cX1_give 108 = .ok (.aload_n 0, 1) := by decide +kernel
theorem dX1_give_109 : decode cX1_give 109 = .ok (.getfield 16, 3) := by decide +kernel
theorem dX1_give_112 : decode cX1_give 112 = .ok (.iload_n 3, 1) := by decide +kernel
theorem dX1_give_113 : decode cX1_give 113 = .ok (.iload 4, 2) := by decide +kernel
theorem dX1_give_115 : decode cX1_give 115 = .ok (.iload_n 2, 1) := by decide +kernel
theorem dX1_give_116 : decode cX1_give 116 = .ok (.invokestatic 53, 3) := by decide +kernel
theorem dX1_give_119 : decode cX1_give 119 = .ok (.dup2, 1) := by decide +kernel
theorem dX1_give_120 : decode cX1_give 120 = .ok (.iaload, 1) := by decide +kernel
theorem dX1_give_121 : decode cX1_give 121 = .ok (.iload 5, 2) := by decide +kernel
theorem dX1_give_123 : decode cX1_give 123 = .ok (.iadd, 1) := by decide +kernel
theorem dX1_give_124 : decode cX1_give 124 = .ok (.iastore, 1) := by decide +kernel
theorem dX1_give_125 : decode cX1_give 125 = .ok (.aload_n 0, 1) := by decide +kernel
theorem dX1_give_126 : decode cX1_give 126 = .ok (.getfield 16, 3) := by decide +kernel
theorem dX1_give_129 : decode cX1_give 129 = .ok (.iload_n 3, 1) := by decide +kernel
theorem dX1_give_130 : decode cX1_give 130 = .ok (.iload 4, 2) := by decide +kernel
theorem dX1_give_132 : decode cX1_give 132 = .ok (.iload_n 2, 1) := by decide +kernel
theorem dX1_give_133 : decode cX1_give 133 = .ok (.invokestatic 53, 3) := by decide +kernel
theorem dX1_give_136 : decode cX1_give 136 = .ok (.iaload, 1) := by decide +kernel
theorem dX1_give_137 : decode cX1_give 137 = .ok (.ireturn, 1) := by decide +kernel
set_option maxRecDepth 20000 in
theorem ggX1_priceOf_X1_at : GoodIn wsX1_priceOf wsX1_at := goodIn_r _ [5] (by decide +kernel) (by decide +kernel)
set_option maxRecDepth 20000 in
theorem gX1_priceOf_X1_at : GoodIn wsX1_priceOf (va_wsS RX1 53 yX1_at wsX1_at) := goodIn_app (goodIn_of _ (by decide +kernel)) ggX1_priceOf_X1_at
set_option maxRecDepth 20000 in
theorem ggX1_priceOf_X1_worth : GoodIn wsX1_priceOf wsX1_worth := goodIn_r _ [9, 10, 11, 12, 13, 14, 15, 16, 17, 18, 19, 20, 21, 22, 23, 24] (by decide +kernel) (by decide +kernel)
set_option maxRecDepth 20000 in
theorem gX1_priceOf_X1_worth : GoodIn wsX1_priceOf (wsV RX1 87 RX1 yX1_worth wsX1_worth) := goodIn_app (goodIn_of _ (by decide +kernel)) ggX1_priceOf_X1_worth
theorem dX1_priceOf_0 : decode cX1_priceOf 0 = .ok (.aload_n 0, 1) := by decide +kernel
theorem dX1_priceOf_1 : decode cX1_priceOf 1 = .ok (.getfield 16, 3) := by decide +kernel
theorem dX1_priceOf_4 : decode cX1_priceOf 4 = .ok (.iload_n 2, 1) := by decide +kernel
theorem dX1_priceOf_5 : decode cX1_priceOf 5 = .ok (.iload_n 3, 1) := by decide +kernel
theorem dX1_priceOf_6 : decode cX1_priceOf 6 = .ok (.iload_n 1, 1) := by decide +kernel
theorem dX1_priceOf_7 : decode cX1_priceOf 7 = .ok (.invokestatic 53, 3) := by decide +kernel
theorem dX1_priceOf_10 : decode cX1_priceOf 10 = .ok (.iaload, 1) := by decide +kernel
theorem dX1_priceOf_11 : decode cX1_priceOf 11 = .ok (.aload_n 0, 1) := by decide +kernel
theorem dX1_priceOf_12 : decode cX1_priceOf 12 = .ok (.iload_n 2, 1) := by decide +kernel
theorem dX1_priceOf_13 : decode cX1_priceOf 13 = .ok (.iload_n 3, 1) := by decide +kernel
theorem dX1_priceOf_14 : decode cX1_priceOf 14 = .ok (.invokevirtual 87, 3) := by decide +kernel
theorem dX1_priceOf_17 : decode cX1_priceOf 17 = .ok (.imul, 1) := by decide +kernel
theorem dX1_priceOf_18 : decode cX1_priceOf 18 = .ok (.ireturn, 1) := by decide +kernel
set_option maxRecDepth 20000 in
theorem ggX1_isOtherAhead_X1_at : GoodIn wsX1_isOtherAhead wsX1_at := goodIn_r _ [7] (by decide +kernel) (by decide +kernel)
set_option maxRecDepth 20000 in
theorem gX1_isOtherAhead_X1_at : GoodIn wsX1_isOtherAhead (va_wsS RX1 53 yX1_at wsX1_at) := goodIn_app (goodIn_of _ (by decide +kernel)) ggX1_isOtherAhead_X1_at
theorem dX1_isOtherAhead_0 : decode cX1_isOtherAhead 0 = .ok (.iconst 0, 1) := by decide +kernel
theorem dX1_isOtherAhead_1 : decode cX1_isOtherAhead 1 = .ok (.istore 5, 2) := by decide +kernel
theorem dX1_isOtherAhead_3 : decode cX1_isOtherAhead 3 = .ok (.iload 5, 2) := by decide +kernel
theorem dX1_isOtherAhead_5 : decode cX1_isOtherAhead 5 = .ok (.aload_n 0, 1) := by decide +kernel
theorem dX1_isOtherAhead_6 : decode cX1_isOtherAhead 6 = .ok (.getfield 50, 3) := by decide +kernel
theorem dX1_isOtherAhead_9 : decode cX1_isOtherAhead 9 = .ok (.if_icmp .ge 44, 3) := by decide +kernel
theorem dX1_isOtherAhead_12 : decode cX1_isOtherAhead 12 = .ok (.iload 5, 2) := by decide +kernel
theorem dX1_isOtherAhead_14 : decode cX1_isOtherAhead 14 = .ok (.iload_n 1, 1) := by decide +kernel
theorem dX1_isOtherAhead_15 : decode cX1_isOtherAhead 15 = .ok (.if_icmp .eq 32, 3) := by decide +kernel
theorem dX1_isOtherAhead_18 : decode cX1_isOtherAhead 18 = .ok (.aload_n 0, 1) := by decide +kernel
theorem dX1_isOtherAhead_19 : decode cX1_isOtherAhead 19 = .ok (.getfield 16, 3) := by decide +kernel
theorem dX1_isOtherAhead_22 : decode cX1_isOtherAhead 22 = .ok (.iload_n 2, 1) := by decide +kernel
theorem dX1_isOtherAhead_23 : decode cX1_isOtherAhead 23 = .ok (.iload_n 3, 1) := by decide +kernel
theorem dX1_isOtherAhead_24 : decode cX1_isOtherAhead 24 = .ok (.iload 5, 2) := by decide +kernel
theorem dX1_isOtherAhead_26 : decode cX1_isOtherAhead 26 = .ok (.invokestatic 53, 3) := by decide +kernel
theorem dX1_isOtherAhead_29 : decode cX1_isOtherAhead 29 = .ok (.iaload, 1) := by decide +kernel
theorem dX1_isOtherAhead_30 : decode cX1_isOtherAhead 30 = .ok (.ifCond .le 17, 3) := by decide +kernel
theorem dX1_isOtherAhead_33 : decode cX1_isOtherAhead 33 = .ok (.aload_n 0, 1) := by decide +kernel
theorem dX1_isOtherAhead_34 : decode cX1_isOtherAhead 34 = .ok (.getfield 19, 3) := by decide +kernel
theorem dX1_isOtherAhead_37 : decode cX1_isOtherAhead 37 = .ok (.iload 5, 2) := by decide +kernel
theorem dX1_isOtherAhead_39 : decode cX1_isOtherAhead 39 = .ok (.iaload, 1) := by decide +kernel
theorem dX1_isOtherAhead_40 : decode cX1_isOtherAhead 40 = .ok (.iload 4, 2) := by decide +kernel
theorem dX1_isOtherAhead_42 : decode cX1_isOtherAhead 42 = .ok (.if_icmp .lt 5, 3) := by decide +kernel
theorem dX1_isOtherAhead_45 : decode cX1_isOtherAhead 45 = .ok (.iconst 1, 1) := by decide +kernel
theorem dX1_isOtherAhead_46 : decode cX1_isOtherAhead 46 = .ok (.ireturn, 1) := by decide +kernel
theorem dX1_isOtherAhead_47 : decode cX1_isOtherAhead 47 = .ok (.iinc 5 1, 3) := by decide +kernel
theorem dX1_isOtherAhead_50 : decode cX1_isOtherAhead 50 = .ok (.goto (-47), 3) := by decide +kernel
theorem dX1_isOtherAhead_53 : decode cX1_isOtherAhead 53 = .ok (.iconst 0, 1) := by decide +kernel
theorem dX1_isOtherAhead_54 : decode cX1_isOtherAhead 54 = .ok (.ireturn, 1) := by decide +kernel
set_option maxRecDepth 20000 in
theorem ggX1_buys_X1_priceOf : GoodIn wsX1_buys wsX1_priceOf := goodIn_r _ [8, 3, 9, 10, 7, 11, 12, 13, 14, 15, 16, 17, 23, 24, 25, 26, 27, 28, 29, 30, 31, 32, 33, 34, 35] (by decide +kernel) (by decide +kernel)
set_option maxRecDepth 20000 in
theorem gX1_buys_X1_priceOf : GoodIn wsX1_buys (wsV RX1 90 RX1 yX1_priceOf wsX1_priceOf) := goodIn_app (goodIn_of _ (by decide +kernel)) ggX1_buys_X1_priceOf
set_option maxRecDepth 20000 in
theorem ggX1_buys_X1_at : GoodIn wsX1_buys wsX1_at := goodIn_r _ [11] (by decide +kernel) (by decide +kernel)
set_option maxRecDepth 20000 in
theorem gX1_buys_X1_at : GoodIn wsX1_buys (va_wsS RX1 53 yX1_at wsX1_at) := goodIn_app (goodIn_of _ (by decide +kernel)) ggX1_buys_X1_at
set_option maxRecDepth 20000 in
theorem ggX1_buys_X1_isOtherAhead : GoodIn wsX1_buys wsX1_isOtherAhead := goodIn_r _ [21, 22, 3, 2, 9, 10, 7, 11, 23, 24, 25, 26, 27, 28, 29, 30, 31, 32, 33, 34, 35] (by decide +kernel) (by decide +kernel)
set_option maxRecDepth 20000 in
theorem gX1_buys_X1_isOtherAhead : GoodIn wsX1_buys (wsV RX1 93 RX1 yX1_isOtherAhead wsX1_isOtherAhead) := goodIn_app (goodIn_of _ (by decide +kernel)) ggX1_buys_X1_isOtherAhead
theorem dX1_buys_0 : decode cX1_buys 0 = .ok (.aload_n 0, 1) := by decide +kernel
theorem dX1_buys_1 : decode cX1_buys 1 = .ok (.iload_n 2, 1) := by decide +kernel
theorem dX1_buys_2 : decode cX1_buys 2 = .ok (.iload_n 3, 1) := by decide +kernel
theorem dX1_buys_3 : decode cX1_buys 3 = .ok (.iload 4, 2) := by decide +kernel
theorem dX1_buys_5 : decode cX1_buys 5 = .ok (.invokevirtual 90, 3) := by decide +kernel
theorem dX1_buys_8 : decode cX1_buys 8 = .ok (.istore 5, 2) := by decide +kernel
theorem dX1_buys_10 : decode cX1_buys 10 = .ok (.iload 5, 2) := by decide +kernel
theorem dX1_buys_12 : decode cX1_buys 12 = .ok (.ifCond .eq 28, 3) := by decide +kernel
theorem dX1_buys_15 : decode cX1_buys 15 = .ok (.iload_n 1, 1) := by decide +kernel
theorem dX1_buys_16 : decode cX1_buys 16 = .ok (.iload_n 2, 1) := by decide +kernel
theorem dX1_buys_17 : decode cX1_buys 17 = .ok (.if_icmp .eq 23, 3) := by decide +kernel
theorem dX1_buys_20 : decode cX1_buys 20 = .ok (.aload_n 0, 1) := by decide +kernel
theorem dX1_buys_21 : decode cX1_buys 21 = .ok (.getfield 28, 3) := by decide +kernel
theorem dX1_buys_24 : decode cX1_buys 24 = .ok (.iload_n 1, 1) := by decide +kernel
theorem dX1_buys_25 : decode cX1_buys 25 = .ok (.baload, 1) := by decide +kernel
theorem dX1_buys_26 : decode cX1_buys 26 = .ok (.ifCond .ne 14, 3) := by decide +kernel
theorem dX1_buys_29 : decode cX1_buys 29 = .ok (.aload_n 0, 1) := by decide +kernel
theorem dX1_buys_30 : decode cX1_buys 30 = .ok (.getfield 19, 3) := by decide +kernel
theorem dX1_buys_33 : decode cX1_buys 33 = .ok (.iload_n 1, 1) := by decide +kernel
theorem dX1_buys_34 : decode cX1_buys 34 = .ok (.iaload, 1) := by decide +kernel
theorem dX1_buys_35 : decode cX1_buys 35 = .ok (.iload 5, 2) := by decide +kernel
theorem dX1_buys_37 : decode cX1_buys 37 = .ok (.if_icmp .ge 5, 3) := by decide +kernel
theorem dX1_buys_40 : decode cX1_buys 40 = .ok (.iconst 0, 1) := by decide +kernel
theorem dX1_buys_41 : decode cX1_buys 41 = .ok (.ireturn, 1) := by decide +kernel
theorem dX1_buys_42 : decode cX1_buys 42 = .ok (.aload_n 0, 1) := by decide +kernel
theorem dX1_buys_43 : decode cX1_buys 43 = .ok (.getfield 16, 3) := by decide +kernel
theorem dX1_buys_46 : decode cX1_buys 46 = .ok (.iload_n 3, 1) := by decide +kernel
theorem dX1_buys_47 : decode cX1_buys 47 = .ok (.iload 4, 2) := by decide +kernel
theorem dX1_buys_49 : decode cX1_buys 49 = .ok (.iload_n 1, 1) := by decide +kernel
theorem dX1_buys_50 : decode cX1_buys 50 = .ok (.invokestatic 53, 3) := by decide +kernel
theorem dX1_buys_53 : decode cX1_buys 53 = .ok (.iaload, 1) := by decide +kernel
theorem dX1_buys_54 : decode cX1_buys 54 = .ok (.ifCond .gt 16, 3) := by decide +kernel
theorem dX1_buys_57 : decode cX1_buys 57 = .ok (.aload_n 0, 1) := by decide +kernel
theorem dX1_buys_58 : decode cX1_buys 58 = .ok (.iload_n 2, 1) := by decide +kernel
theorem dX1_buys_59 : decode cX1_buys 59 = .ok (.iload_n 3, 1) := by decide +kernel
theorem dX1_buys_60 : decode cX1_buys 60 = .ok (.iload 4, 2) := by decide +kernel
theorem dX1_buys_62 : decode cX1_buys 62 = .ok (.iload 5, 2) := by decide +kernel
theorem dX1_buys_64 : decode cX1_buys 64 = .ok (.invokevirtual 93, 3) := by decide +kernel
theorem dX1_buys_67 : decode cX1_buys 67 = .ok (.ifCond .ne 7, 3) := by decide +kernel
theorem dX1_buys_70 : decode cX1_buys 70 = .ok (.iconst 1, 1) := by decide +kernel
theorem dX1_buys_71 : decode cX1_buys 71 = .ok (.goto 4, 3) := by decide +kernel
theorem dX1_buys_74 : decode cX1_buys 74 = .ok (.iconst 0, 1) := by decide +kernel
theorem dX1_buys_75 : decode cX1_buys 75 = .ok (.ireturn, 1) := by decide +kernel
set_option maxRecDepth 20000 in
theorem ggX1_buy_X1_isPerson : GoodIn wsX1_buy wsX1_isPerson := goodIn_r _ [8, 9, 10, 11, 7, 12, 56, 57, 58, 59, 60, 61, 62, 63, 64, 65, 66, 67, 68] (by decide +kernel) (by decide +kernel)
set_option maxRecDepth 20000 in
theorem gX1_buy_X1_isPerson : GoodIn wsX1_buy (wsV RX1 73 RX1 yX1_isPerson wsX1_isPerson) := goodIn_app (goodIn_of _ (by decide +kernel)) ggX1_buy_X1_isPerson
set_option maxRecDepth 20000 in
theorem ggX1_buy_X1_isWatch : GoodIn wsX1_buy wsX1_isWatch := goodIn_r _ [16, 17, 18, 19, 7, 20, 21, 10, 11, 12, 56, 57, 58, 59, 60, 61, 62, 63, 64, 65, 66, 67, 68] (by decide +kernel) (by decide +kernel)
set_option maxRecDepth 20000 in
theorem gX1_buy_X1_isWatch : GoodIn wsX1_buy (wsV RX1 80 RX1 yX1_isWatch wsX1_isWatch) := goodIn_app (goodIn_of _ (by decide +kernel)) ggX1_buy_X1_isWatch
set_option maxRecDepth 20000 in
theorem ggX1_buy_X1_no : GoodIn wsX1_buy wsX1_no := goodIn_r _ [25, 1, 56, 57, 58, 59, 60, 61, 62, 63, 64, 65, 66, 67, 68] (by decide +kernel) (by decide +kernel)
set_option maxRecDepth 20000 in
theorem gX1_buy_X1_no : GoodIn wsX1_buy (wsV RX1 66 RX1 yX1_no wsX1_no) := goodIn_app (goodIn_of _ (by decide +kernel)) ggX1_buy_X1_no
set_option maxRecDepth 20000 in
theorem ggX1_buy_X1_buys : GoodIn wsX1_buy wsX1_buys := goodIn_r _ [29, 30, 2, 3, 31, 32, 33, 7, 34, 35, 36, 37, 38, 39, 40, 41, 42, 43, 44, 45, 46, 47, 9, 56, 57, 58, 59, 60, 61, 62, 63, 64, 65, 66, 67, 68] (by decide +kernel) (by decide +kernel)
set_option maxRecDepth 20000 in
theorem gX1_buy_X1_buys : GoodIn wsX1_buy (wsV RX1 97 RX1 yX1_buys wsX1_buys) := goodIn_app (goodIn_of _ (by decide +kernel)) ggX1_buy_X1_buys
set_option maxRecDepth 20000 in
theorem ggX1_buy_X1_priceOf : GoodIn wsX1_buy wsX1_priceOf := goodIn_r _ [34, 3, 35, 36, 7, 37, 38, 39, 40, 41, 42, 43, 56, 57, 58, 59, 60, 61, 62, 63, 64, 65, 66, 67, 68] (by decide +kernel) (by decide +kernel)
set_option maxRecDepth 20000 in
theorem gX1_buy_X1_priceOf : GoodIn wsX1_buy (wsV RX1 90 RX1 yX1_priceOf wsX1_priceOf) := goodIn_app (goodIn_of _ (by decide +kernel)) ggX1_buy_X1_priceOf
set_option maxRecDepth 20000 in
theorem ggX1_buy_X1_get : GoodIn wsX1_buy wsX1_get := goodIn_r _ [51, 2, 52, 53, 54, 55, 56, 57, 58, 59, 60, 61, 62, 63, 64, 65, 66, 67, 68] (by decide +kernel) (by decide +kernel)
set_option maxRecDepth 20000 in
theorem gX1_buy_X1_get : GoodIn wsX1_buy (wsV RX1 76 RX1 yX1_get wsX1_get) := goodIn_app (goodIn_of _ (by decide +kernel)) ggX1_buy_X1_get
set_option maxRecDepth 20000 in
theorem ggX1_buy_X1_at : GoodIn wsX1_buy wsX1_at := goodIn_r _ [37] (by decide +kernel) (by decide +kernel)
set_option maxRecDepth 20000 in
theorem gX1_buy_X1_at : GoodIn wsX1_buy (va_wsS RX1 53 yX1_at wsX1_at) := goodIn_app (goodIn_of _ (by decide +kernel)) ggX1_buy_X1_at
theorem dX1_buy_0 : decode cX1_buy 0 = .ok (.aload_n 0, 1) := by decide +kernel
theorem dX1_buy_1 : decode cX1_buy 1 = .ok (.iconst 0, 1) := by decide +kernel
theorem dX1_buy_2 : decode cX1_buy 2 = .ok (.putfield 35, 3) := by decide +kernel
theorem dX1_buy_5 : decode cX1_buy 5 = .ok (.aload_n 0, 1) := by decide +kernel
theorem dX1_buy_6 : decode cX1_buy 6 = .ok (.iload_n 1, 1) := by decide +kernel
theorem dX1_buy_7 : decode cX1_buy 7 = .ok (.invokevirtual 73, 3) := by decide +kernel
theorem dX1_buy_10 : decode cX1_buy 10 = .ok (.ifCond .eq 21, 3) := by decide +kernel
theorem dX1_buy_13 : decode cX1_buy 13 = .ok (.aload_n 0, 1) := by decide +kernel
theorem dX1_buy_14 : decode cX1_buy 14 = .ok (.iload_n 2, 1) := by decide +kernel
theorem dX1_buy_15 : decode cX1_buy 15 = .ok (.invokevirtual 73, 3) := by decide +kernel
theorem dX1_buy_18 : decode cX1_buy 18 = .ok (.ifCond .eq 13, 3) := by decide +kernel
theorem dX1_buy_21 : decode cX1_buy 21 = .ok (.aload_n 0, 1) := by decide +kernel
theorem dX1_buy_22 : decode cX1_buy 22 = .ok (.iload_n 3, 1) := by decide +kernel
theorem dX1_buy_23 : decode cX1_buy 23 = .ok (.iload 4, 2) := by decide +kernel
theorem dX1_buy_25 : decode cX1_buy 25 = .ok (.invokevirtual 80, 3) := by decide +kernel
theorem dX1_buy_28 : decode cX1_buy 28 = .ok (.ifCond .ne 9, 3) := by decide +kernel
theorem dX1_buy_31 : decode cX1_buy 31 = .ok (.aload_n 0, 1) := by decide +kernel
theorem dX1_buy_32 : decode cX1_buy 32 = .ok (.iconst 1, 1) := by decide +kernel
theorem dX1_buy_33 : decode cX1_buy 33 = .ok (.invokevirtual 66, 3) := by decide +kernel
theorem dX1_buy_36 : decode cX1_buy 36 = .ok (.ireturn, 1) := by decide +kernel
theorem dX1_buy_37 : decode cX1_buy 37 = .ok (.aload_n 0, 1) := by decide +kernel
theorem dX1_buy_38 : decode cX1_buy 38 = .ok (.iload_n 1, 1) := by decide +kernel
theorem dX1_buy_39 : decode cX1_buy 39 = .ok (.iload_n 2, 1) := by decide +kernel
theorem dX1_buy_40 : decode cX1_buy 40 = .ok (.iload_n 3, 1) := by decide +kernel
theorem dX1_buy_41 : decode cX1_buy 41 = .ok (.iload 4, 2) := by decide +kernel
theorem dX1_buy_43 : decode cX1_buy 43 = .ok (.invokevirtual 97, 3) := by decide +kernel
theorem dX1_buy_46 : decode cX1_buy 46 = .ok (.ifCond .ne 9, 3) := by decide +kernel
theorem dX1_buy_49 : decode cX1_buy 49 = .ok (.aload_n 0, 1) := by decide +kernel
theorem dX1_buy_50 : decode cX1_buy 50 = .ok (.iconst 2, 1) := by decide +kernel
theorem dX1_buy_51 : decode cX1_buy 51 = .ok (.invokevirtual 66, 3) := by decide +kernel
theorem dX1_buy_54 : decode cX1_buy 54 = .ok (.ireturn, 1) := by decide +kernel
theorem dX1_buy_55 : decode cX1_buy 55 = .ok (.aload_n 0, 1) := by decide +kernel
theorem dX1_buy_56 : decode cX1_buy 56 = .ok (.iload_n 2, 1) := by decide +kernel
theorem dX1_buy_57 : decode cX1_buy 57 = .ok (.iload_n 3, 1) := by decide +kernel
theorem dX1_buy_58 : decode cX1_buy 58 = .ok (.iload 4, 2) := by decide +kernel
theorem dX1_buy_60 : decode cX1_buy 60 = .ok (.invokevirtual 90, 3) := by decide +kernel
theorem dX1_buy_63 : decode cX1_buy 63 = .ok (.istore 5, 2) := by decide +kernel
theorem dX1_buy_65 : decode cX1_buy 65 = .ok (.aload_n 0, 1) := by decide +kernel
theorem dX1_buy_66 : decode cX1_buy 66 = .ok (.getfield 19, 3) := by decide +kernel
theorem dX1_buy_69 : decode cX1_buy 69 = .ok (.iload_n 1, 1) := by decide +kernel
theorem dX1_buy_70 : decode cX1_buy 70 = .ok (.dup2, 1) := by decide +kernel
theorem dX1_buy_71 : decode cX1_buy 71 = .ok (.iaload, 1) := by decide +kernel
theorem dX1_buy_72 : decode cX1_buy 72 = .ok (.iload 5, 2) := by decide +kernel
theorem dX1_buy_74 : decode cX1_buy 74 = .ok (.isub, 1) := by decide +kernel
theorem dX1_buy_75 : decode cX1_buy 75 = .ok (.iastore, 1) := by decide +kernel
theorem dX1_buy_76 : decode cX1_buy 76 = .ok (.aload_n 0, 1) := by decide +kernel
theorem dX1_buy_77 : decode cX1_buy 77 = .ok (.iload_n 2, 1) := by decide +kernel
theorem dX1_buy_78 : decode cX1_buy 78 = .ok (.iload 5, 2) := by decide +kernel
theorem dX1_buy_80 : decode cX1_buy 80 = .ok (.invokevirtual 76, 3) := by decide +kernel
theorem dX1_buy_83 : decode cX1_buy 83 = .ok (.aload_n 0, 1) := by decide +kernel
theorem dX1_buy_84 : decode cX1_buy 84 = .ok (.getfield 16, 3) := by decide +kernel
theorem dX1_buy_87 : decode cX1_buy 87 = .ok (.iload_n 3, 1) := by decide +kernel
theorem dX1_buy_88 : decode cX1_buy 88 = .ok (.iload 4, 2) := by decide +kernel
theorem dX1_buy_90 : decode cX1_buy 90 = .ok (.iload_n 1, 1) := by decide +kernel
theorem dX1_buy_91 : decode cX1_buy 91 = .ok (.invokestatic 53, 3) := by decide +kernel
theorem dX1_buy_94 : decode cX1_buy 94 = .ok (.dup2, 1) := by decide +kernel
theorem dX1_buy_95 : decode cX1_buy 95 = .ok (.iaload, 1) := by decide +kernel
theorem dX1_buy_96 : decode cX1_buy 96 = .ok (.aload_n 0, 1) := by decide +kernel
theorem dX1_buy_97 : decode cX1_buy 97 = .ok (.getfield 16, 3) := by decide +kernel
theorem dX1_buy_100 : decode cX1_buy 100 = .ok (.iload_n 3, 1) := by decide +kernel
theorem dX1_buy_101 : decode cX1_buy 101 = .ok (.iload 4, 2) := by decide +kernel
theorem dX1_buy_103 : decode cX1_buy 103 = .ok (.iload_n 2, 1) := by decide +kernel
theorem dX1_buy_104 : decode cX1_buy 104 = .ok (.invokestatic 53, 3) := by decide +kernel
theorem dX1_buy_107 : decode cX1_buy 107 = .ok (.iaload, 1) := by decide +kernel
theorem dX1_buy_108 : decode cX1_buy 108 = .ok (.iadd, 1) := by decide +kernel
theorem dX1_buy_109 : decode cX1_buy 109 = .ok (.iastore, 1) := by decide +kernel
theorem dX1_buy_110 : decode cX1_buy 110 = .ok (.aload_n 0, 1) := by decide +kernel
theorem dX1_buy_111 : decode cX1_buy 111 = .ok (.getfield 16, 3) := by decide +kernel
theorem dX1_buy_114 : decode cX1_buy 114 = .ok (.iload_n 3, 1) := by decide +kernel
theorem dX1_buy_115 : decode cX1_buy 115 = .ok (.iload 4, 2) := by decide +kernel
theorem dX1_buy_117 : decode cX1_buy 117 = .ok (.iload_n 2, 1) := by decide +kernel
theorem dX1_buy_118 : decode cX1_buy 118 = .ok (.invokestatic 53, 3) := by decide +kernel
theorem dX1_buy_121 : decode cX1_buy 121 = .ok (.iconst 0, 1) := by decide +kernel
theorem dX1_buy_122 : decode cX1_buy 122 = .ok (.iastore, 1) := by decide +kernel
theorem dX1_buy_123 : decode cX1_buy 123 = .ok (.iload 5, 2) := by decide +kernel
theorem dX1_buy_125 : decode cX1_buy 125 = .ok (.ireturn, 1) := by decide +kernel
set_option maxRecDepth 20000 in
theorem ggX1_inFerry_X1_at : GoodIn wsX1_inFerry wsX1_at := goodIn_r _ [5] (by decide +kernel) (by decide +kernel)
set_option maxRecDepth 20000 in
theorem gX1_inFerry_X1_at : GoodIn wsX1_inFerry (va_wsS RX1 53 yX1_at wsX1_at) := goodIn_app (goodIn_of _ (by decide +kernel)) ggX1_inFerry_X1_at
theorem dX1_inFerry_0 : decode cX1_inFerry 0 = .ok (.iconst 0, 1) := by decide +kernel
theorem dX1_inFerry_1 : decode cX1_inFerry 1 = .ok (.istore_n 3, 1) := by decide +kernel
theorem dX1_inFerry_2 : decode cX1_inFerry 2 = .ok (.iconst 0, 1) := by decide +kernel
theorem dX1_inFerry_3 : decode cX1_inFerry 3 = .ok (.istore 4, 2) := by decide +kernel
theorem dX1_inFerry_5 : decode cX1_inFerry 5 = .ok (.iload 4, 2) := by decide +kernel
theorem dX1_inFerry_7 : decode cX1_inFerry 7 = .ok (.iconst 4, 1) := by decide +kernel
theorem dX1_inFerry_8 : decode cX1_inFerry 8 = .ok (.if_icmp .ge 24, 3) := by decide +kernel
theorem dX1_inFerry_11 : decode cX1_inFerry 11 = .ok (.iload_n 3, 1) := by decide +kernel
theorem dX1_inFerry_12 : decode cX1_inFerry 12 = .ok (.aload_n 0, 1) := by decide +kernel
theorem dX1_inFerry_13 : decode cX1_inFerry 13 = .ok (.getfield 16, 3) := by decide +kernel
theorem dX1_inFerry_16 : decode cX1_inFerry 16 = .ok (.iload_n 1, 1) := by decide +kernel
theorem dX1_inFerry_17 : decode cX1_inFerry 17 = .ok (.iload 4, 2) := by decide +kernel
theorem dX1_inFerry_19 : decode cX1_inFerry 19 = .ok (.iload_n 2, 1) := by decide +kernel
theorem dX1_inFerry_20 : decode cX1_inFerry 20 = .ok (.invokestatic 53, 3) := by decide +kernel
theorem dX1_inFerry_23 : decode cX1_inFerry 23 = .ok (.iaload, 1) := by decide +kernel
theorem dX1_inFerry_24 : decode cX1_inFerry 24 = .ok (.iadd, 1) := by decide +kernel
theorem dX1_inFerry_25 : decode cX1_inFerry 25 = .ok (.istore_n 3, 1) := by decide +kernel
theorem dX1_inFerry_26 : decode cX1_inFerry 26 = .ok (.iinc 4 1, 3) := by decide +kernel
theorem dX1_inFerry_29 : decode cX1_inFerry 29 = .ok (.goto (-24), 3) := by decide +kernel
theorem dX1_inFerry_32 : decode cX1_inFerry 32 = .ok (.iload_n 3, 1) := by decide +kernel
theorem dX1_inFerry_33 : decode cX1_inFerry 33 = .ok (.ireturn, 1) := by decide +kernel
set_option maxRecDepth 20000 in
theorem ggX1_masterOf_X1_inFerry : GoodIn wsX1_masterOf wsX1_inFerry := goodIn_r _ [6, 7, 8, 9, 5, 10, 11, 12, 13, 14, 15, 16, 17, 18, 19, 20, 21, 22, 23] (by decide +kernel) (by decide +kernel)
set_option maxRecDepth 20000 in
theorem gX1_masterOf_X1_inFerry : GoodIn wsX1_masterOf (wsV RX1 100 RX1 yX1_inFerry wsX1_inFerry) := goodIn_app (goodIn_of _ (by decide +kernel)) ggX1_masterOf_X1_inFerry
theorem dX1_masterOf_0 : decode cX1_masterOf 0 = .ok (.iconst 0, 1) := by decide +kernel
theorem dX1_masterOf_1 : decode cX1_masterOf 1 = .ok (.istore_n 2, 1) := by decide +kernel
theorem dX1_masterOf_2 : decode cX1_masterOf 2 = .ok (.iload_n 2, 1) := by decide +kernel
theorem dX1_masterOf_3 : decode cX1_masterOf 3 = .ok (.aload_n 0, 1) := by decide +kernel
theorem dX1_masterOf_4 : decode cX1_masterOf 4 = .ok (.getfield 50, 3) := by decide +kernel
theorem dX1_masterOf_7 : decode cX1_masterOf 7 = .ok (.if_icmp .ge 25, 3) := by decide +kernel
theorem dX1_masterOf_10 : decode cX1_masterOf 10 = .ok (.iconst 2, 1) := by decide +kernel
theorem dX1_masterOf_11 : decode cX1_masterOf 11 = .ok (.aload_n 0, 1) := by decide +kernel
theorem dX1_masterOf_12 : decode cX1_masterOf 12 = .ok (.iload_n 1, 1) := by decide +kernel
theorem dX1_masterOf_13 : decode cX1_masterOf 13 = .ok (.iload_n 2, 1) := by decide +kernel
theorem dX1_masterOf_14 : decode cX1_masterOf 14 = .ok (.invokevirtual 100, 3) := by decide +kernel
theorem dX1_masterOf_17 : decode cX1_masterOf 17 = .ok (.imul, 1) := by decide +kernel
theorem dX1_masterOf_18 : decode cX1_masterOf 18 = .ok (.sipush 256, 3) := by decide +kernel
theorem dX1_masterOf_21 : decode cX1_masterOf 21 = .ok (.if_icmp .le 5, 3) := by decide +kernel
theorem dX1_masterOf_24 : decode cX1_masterOf 24 = .ok (.iload_n 2, 1) := by decide +kernel
theorem dX1_masterOf_25 : decode cX1_masterOf 25 = .ok (.ireturn, 1) := by decide +kernel
theorem dX1_masterOf_26 : decode cX1_masterOf 26 = .ok (.iinc 2 1, 3) := by decide +kernel
theorem dX1_masterOf_29 : decode cX1_masterOf 29 = .ok (.goto (-27), 3) := by decide +kernel
theorem dX1_masterOf_32 : decode cX1_masterOf 32 = .ok (.iconst (-1), 1) := by decide +kernel
theorem dX1_masterOf_33 : decode cX1_masterOf 33 = .ok (.ireturn, 1) := by decide +kernel
set_option maxRecDepth 20000 in
theorem ggX1_setToll_X1_isFerry : GoodIn wsX1_setToll wsX1_isFerry := goodIn_r _ [7, 8, 9, 10, 6, 11, 33, 34, 35, 36, 37, 38, 39, 40, 41, 42, 43, 44, 45] (by decide +kernel) (by decide +kernel)
set_option maxRecDepth 20000 in
theorem gX1_setToll_X1_isFerry : GoodIn wsX1_setToll (wsV RX1 46 RX1 yX1_isFerry wsX1_isFerry) := goodIn_app (goodIn_of _ (by decide +kernel)) ggX1_setToll_X1_isFerry
set_option maxRecDepth 20000 in
theorem ggX1_setToll_X1_isPerson : GoodIn wsX1_setToll wsX1_isPerson := goodIn_r _ [15, 16, 9, 10, 6, 11, 33, 34, 35, 36, 37, 38, 39, 40, 41, 42, 43, 44, 45] (by decide +kernel) (by decide +kernel)
set_option maxRecDepth 20000 in
theorem gX1_setToll_X1_isPerson : GoodIn wsX1_setToll (wsV RX1 73 RX1 yX1_isPerson wsX1_isPerson) := goodIn_app (goodIn_of _ (by decide +kernel)) ggX1_setToll_X1_isPerson
set_option maxRecDepth 20000 in
theorem ggX1_setToll_X1_no : GoodIn wsX1_setToll wsX1_no := goodIn_r _ [20, 1, 33, 34, 35, 36, 37, 38, 39, 40, 41, 42, 43, 44, 45] (by decide +kernel) (by decide +kernel)
set_option maxRecDepth 20000 in
theorem gX1_setToll_X1_no : GoodIn wsX1_setToll (wsV RX1 66 RX1 yX1_no wsX1_no) := goodIn_app (goodIn_of _ (by decide +kernel)) ggX1_setToll_X1_no
set_option maxRecDepth 20000 in
theorem ggX1_setToll_X1_isIn : GoodIn wsX1_setToll wsX1_isIn := goodIn_r _ [11] (by decide +kernel) (by decide +kernel)
set_option maxRecDepth 20000 in
theorem gX1_setToll_X1_isIn : GoodIn wsX1_setToll (va_wsS RX1 42 yX1_isIn wsX1_isIn) := goodIn_app (goodIn_of _ (by decide +kernel)) ggX1_setToll_X1_isIn
set_option maxRecDepth 20000 in
theorem ggX1_setToll_X1_masterOf : GoodIn wsX1_setToll wsX1_masterOf := goodIn_r _ [24, 16, 25, 26, 27, 6, 28, 29, 30, 31, 32, 33, 34, 35, 36, 37, 38, 39, 40, 41, 42, 43, 44, 45] (by decide +kernel) (by decide +kernel)
set_option maxRecDepth 20000 in
theorem gX1_setToll_X1_masterOf : GoodIn wsX1_setToll (wsV RX1 103 RX1 yX1_masterOf wsX1_masterOf) := goodIn_app (goodIn_of _ (by decide +kernel)) ggX1_setToll_X1_masterOf
theorem dX1_setToll_0 : decode cX1_setToll 0 = .ok (.aload_n 0, 1) := by decide +kernel
theorem dX1_setToll_1 : decode cX1_setToll 1 = .ok (.iconst 0, 1) := by decide +kernel
theorem dX1_setToll_2 : decode cX1_setToll 2 = .ok (.putfield 35, 3) := by decide +kernel
theorem dX1_setToll_5 : decode cX1_setToll 5 = .ok (.aload_n 0, 1) := by decide +kernel
theorem dX1_setToll_6 : decode cX1_setToll 6 = .ok (.iload_n 1, 1) := by decide +kernel
theorem dX1_setToll_7 : decode cX1_setToll 7 = .ok (.invokevirtual 46, 3) := by decide +kernel
theorem dX1_setToll_10 : decode cX1_setToll 10 = .ok (.ifCond .eq 11, 3) := by decide +kernel
theorem dX1_setToll_13 : decode cX1_setToll 13 = .ok (.aload_n 0, 1) := by decide +kernel
theorem dX1_setToll_14 : decode cX1_setToll 14 = .ok (.iload_n 2, 1) := by decide +kernel
theorem dX1_setToll_15 : decode cX1_setToll 15 = .ok (.invokevirtual 73, 3) := by decide +kernel
theorem dX1_setToll_18 : decode cX1_setToll 18 = .ok (.ifCond .ne 9, 3) := by decide +kernel
theorem dX1_setToll_21 : decode cX1_setToll 21 = .ok (.aload_n 0, 1) := by decide +kernel
theorem dX1_setToll_22 : decode cX1_setToll 22 = .ok (.iconst 1, 1) := by decide +kernel
theorem dX1_setToll_23 : decode cX1_setToll 23 = .ok (.invokevirtual 66, 3) := by decide +kernel
theorem dX1_setToll_26 : decode cX1_setToll 26 = .ok (.ireturn, 1) := by decide +kernel
theorem dX1_setToll_27 : decode cX1_setToll 27 = .ok (.iload_n 3, 1) := by decide +kernel
theorem dX1_setToll_28 : decode cX1_setToll 28 = .ok (.iconst 0, 1) := by decide +kernel
theorem dX1_setToll_29 : decode cX1_setToll 29 = .ok (.bipush 20, 2) := by decide +kernel
theorem dX1_setToll_31 : decode cX1_setToll 31 = .ok (.invokestatic 42, 3) := by decide +kernel
theorem dX1_setToll_34 : decode cX1_setToll 34 = .ok (.ifCond .ne 9, 3) := by decide +kernel
theorem dX1_setToll_37 : decode cX1_setToll 37 = .ok (.aload_n 0, 1) := by decide +kernel
theorem dX1_setToll_38 : decode cX1_setToll 38 = .ok (.iconst 2, 1) := by decide +kernel
theorem dX1_setToll_39 : decode cX1_setToll 39 = .ok (.invokevirtual 66, 3) := by decide +kernel
theorem dX1_setToll_42 : decode cX1_setToll 42 = .ok (.ireturn, 1) := by decide +kernel
theorem dX1_setToll_43 : decode cX1_setToll 43 = .ok (.aload_n 0, 1) := by decide +kernel
theorem dX1_setToll_44 : decode cX1_setToll 44 = .ok (.iload_n 1, 1) := by decide +kernel
theorem dX1_setToll_45 : decode cX1_setToll 45 = .ok (.invokevirtual 103, 3) := by decide +kernel
theorem dX1_setToll_48 : decode cX1_setToll 48 = .ok (.iload_n 2, 1) := by decide +kernel
theorem dX1_setToll_49 : decode cX1_setToll 49 = .ok (.if_icmp .eq 9, 3) := by decide +kernel
theorem dX1_setToll_52 : decode cX1_setToll 52 = .ok (.aload_n 0, 1) := by decide +kernel
theorem dX1_setToll_53 : decode cX1_setToll 53 = .ok (.iconst 3, 1) := by decide +kernel
theorem dX1_setToll_54 : decode cX1_setToll 54 = .ok (.invokevirtual 66, 3) := by decide +kernel
theorem dX1_setToll_57 : decode cX1_setToll 57 = .ok (.ireturn, 1) := by decide +kernel
theorem dX1_setToll_58 : decode cX1_setToll 58 = .ok (.aload_n 0, 1) := by decide +kernel
theorem dX1_setToll_59 : decode cX1_setToll 59 = .ok (.getfield 9, 3) := by decide +kernel
theorem dX1_setToll_62 : decode cX1_setToll 62 = .ok (.iload_n 1, 1) := by decide +kernel
theorem dX1_setToll_63 : decode cX1_setToll 63 = .ok (.iaload, 1) := by decide +kernel
theorem dX1_setToll_64 : decode cX1_setToll 64 = .ok (.istore 4, 2) := by decide +kernel
theorem dX1_setToll_66 : decode cX1_setToll 66 = .ok (.aload_n 0, 1) := by decide +kernel
theorem dX1_setToll_67 : decode cX1_setToll 67 = .ok (.getfield 9, 3) := by decide +kernel
theorem dX1_setToll_70 : decode cX1_setToll 70 = .ok (.iload_n 1, 1) := by decide +kernel
theorem dX1_setToll_71 : decode cX1_setToll 71 = .ok (.iload_n 3, 1) := by decide +kernel
theorem dX1_setToll_72 : decode cX1_setToll 72 = .ok (.iastore, 1) := by decide +kernel
theorem dX1_setToll_73 : decode cX1_setToll 73 = .ok (.iload 4, 2) := by decide +kernel
theorem dX1_setToll_75 : decode cX1_setToll 75 = .ok (.ireturn, 1) := by decide +kernel
set_option maxRecDepth 20000 in
theorem ggX1_part_X1_at : GoodIn wsX1_part wsX1_at := goodIn_r _ [6] (by decide +kernel) (by decide +kernel)
set_option maxRecDepth 20000 in
theorem gX1_part_X1_at : GoodIn wsX1_part (va_wsS RX1 53 yX1_at wsX1_at) := goodIn_app (goodIn_of _ (by decide +kernel)) ggX1_part_X1_at
theorem dX1_part_0 : decode cX1_part 0 = .ok (.iload 4, 2) := by decide +kernel
theorem dX1_part_2 : decode cX1_part 2 = .ok (.aload_n 0, 1) := by decide +kernel
theorem dX1_part_3 : decode cX1_part 3 = .ok (.getfield 9, 3) := by decide +kernel
theorem dX1_part_6 : decode cX1_part 6 = .ok (.iload_n 1, 1) := by decide +kernel
theorem dX1_part_7 : decode cX1_part 7 = .ok (.iaload, 1) := by decide +kernel
theorem dX1_part_8 : decode cX1_part 8 = .ok (.imul, 1) := by decide +kernel
theorem dX1_part_9 : decode cX1_part 9 = .ok (.aload_n 0, 1) := by decide +kernel
theorem dX1_part_10 : decode cX1_part 10 = .ok (.getfield 16, 3) := by decide +kernel
theorem dX1_part_13 : decode cX1_part 13 = .ok (.iload_n 1, 1) := by decide +kernel
theorem dX1_part_14 : decode cX1_part 14 = .ok (.iload_n 2, 1) := by decide +kernel
theorem dX1_part_15 : decode cX1_part 15 = .ok (.bipush 6, 2) := by decide +kernel
theorem dX1_part_17 : decode cX1_part 17 = .ok (.idiv, 1) := by decide +kernel
theorem dX1_part_18 : decode cX1_part 18 = .ok (.iload_n 3, 1) := by decide +kernel
theorem dX1_part_19 : decode cX1_part 19 = .ok (.invokestatic 53, 3) := by decide +kernel
theorem dX1_part_22 : decode cX1_part 22 = .ok (.iaload, 1) := by decide +kernel
theorem dX1_part_23 : decode cX1_part 23 = .ok (.imul, 1) := by decide +kernel
theorem dX1_part_24 : decode cX1_part 24 = .ok (.bipush 64, 2) := by decide +kernel
theorem dX1_part_26 : decode cX1_part 26 = .ok (.idiv, 1) := by decide +kernel
theorem dX1_part_27 : decode cX1_part 27 = .ok (.ireturn, 1) := by decide +kernel
set_option maxRecDepth 20000 in
theorem ggX1_carry_X1_isFerry : GoodIn wsX1_carry wsX1_isFerry := goodIn_r _ [11, 12, 13, 14, 10, 15, 37, 38, 39, 40, 41, 42, 43, 44, 45, 46, 47, 48, 49] (by decide +kernel) (by decide +kernel)
set_option maxRecDepth 20000 in
theorem gX1_carry_X1_isFerry : GoodIn wsX1_carry (wsV RX1 46 RX1 yX1_isFerry wsX1_isFerry) := goodIn_app (goodIn_of _ (by decide +kernel)) ggX1_carry_X1_isFerry
set_option maxRecDepth 20000 in
theorem ggX1_carry_X1_isIn : GoodIn wsX1_carry wsX1_isIn := goodIn_r _ [15] (by decide +kernel) (by decide +kernel)
set_option maxRecDepth 20000 in
theorem gX1_carry_X1_isIn : GoodIn wsX1_carry (va_wsS RX1 42 yX1_isIn wsX1_isIn) := goodIn_app (goodIn_of _ (by decide +kernel)) ggX1_carry_X1_isIn
set_option maxRecDepth 20000 in
theorem ggX1_carry_X1_no : GoodIn wsX1_carry wsX1_no := goodIn_r _ [19, 1, 37, 38, 39, 40, 41, 42, 43, 44, 45, 46, 47, 48, 49] (by decide +kernel) (by decide +kernel)
set_option maxRecDepth 20000 in
theorem gX1_carry_X1_no : GoodIn wsX1_carry (wsV RX1 66 RX1 yX1_no wsX1_no) := goodIn_app (goodIn_of _ (by decide +kernel)) ggX1_carry_X1_no
set_option maxRecDepth 20000 in
theorem ggX1_carry_X1_part : GoodIn wsX1_carry wsX1_part := goodIn_r _ [23, 2, 24, 25, 26, 10, 27, 37, 38, 39, 40, 41, 42, 43, 44, 45, 46, 47, 48, 49] (by decide +kernel) (by decide +kernel)
set_option maxRecDepth 20000 in
theorem gX1_carry_X1_part : GoodIn wsX1_carry (wsV RX1 106 RX1 yX1_part wsX1_part) := goodIn_app (goodIn_of _ (by decide +kernel)) ggX1_carry_X1_part
set_option maxRecDepth 20000 in
theorem ggX1_carry_X1_get : GoodIn wsX1_carry wsX1_get := goodIn_r _ [31, 32, 33, 34, 35, 36, 37, 38, 39, 40, 41, 42, 43, 44, 45, 46, 47, 48, 49] (by decide +kernel) (by decide +kernel)
set_option maxRecDepth 20000 in
theorem gX1_carry_X1_get : GoodIn wsX1_carry (wsV RX1 76 RX1 yX1_get wsX1_get) := goodIn_app (goodIn_of _ (by decide +kernel)) ggX1_carry_X1_get
theorem dX1_carry_0 : decode cX1_carry 0 = .ok (.aload_n 0, 1) := by decide +kernel
theorem dX1_carry_1 : decode cX1_carry 1 = .ok (.iconst 0, 1) := by decide +kernel
theorem dX1_carry_2 : decode cX1_carry 2 = .ok (.putfield 35, 3) := by decide +kernel
theorem dX1_carry_5 : decode cX1_carry 5 = .ok (.aload_n 0, 1) := by decide +kernel
theorem dX1_carry_6 : decode cX1_carry 6 = .ok (.iload_n 1, 1) := by decide +kernel
theorem dX1_carry_7 : decode cX1_carry 7 = .ok (.invokevirtual 46, 3) := by decide +kernel
theorem dX1_carry_10 : decode cX1_carry 10 = .ok (.ifCond .eq 13, 3) := by decide +kernel
theorem dX1_carry_13 : decode cX1_carry 13 = .ok (.iload_n 2, 1) := by decide +kernel
theorem dX1_carry_14 : decode cX1_carry 14 = .ok (.iconst 0, 1) := by decide +kernel
theorem dX1_carry_15 : decode cX1_carry 15 = .ok (.bipush 23, 2) := by decide +kernel
theorem dX1_carry_17 : decode cX1_carry 17 = .ok (.invokestatic 42, 3) := by decide +kernel
theorem dX1_carry_20 : decode cX1_carry 20 = .ok (.ifCond .ne 9, 3) := by decide +kernel
theorem dX1_carry_23 : decode cX1_carry 23 = .ok (.aload_n 0, 1) := by decide +kernel
theorem dX1_carry_24 : decode cX1_carry 24 = .ok (.iconst 1, 1) := by decide +kernel
theorem dX1_carry_25 : decode cX1_carry 25 = .ok (.invokevirtual 66, 3) := by decide +kernel
theorem dX1_carry_28 : decode cX1_carry 28 = .ok (.ireturn, 1) := by decide +kernel
theorem dX1_carry_29 : decode cX1_carry 29 = .ok (.iload_n 3, 1) := by decide +kernel
theorem dX1_carry_30 : decode cX1_carry 30 = .ok (.iconst 1, 1) := by decide +kernel
theorem dX1_carry_31 : decode cX1_carry 31 = .ok (.sipush 200, 3) := by decide +kernel
theorem dX1_carry_34 : decode cX1_carry 34 = .ok (.invokestatic 42, 3) := by decide +kernel
theorem dX1_carry_37 : decode cX1_carry 37 = .ok (.ifCond .ne 9, 3) := by decide +kernel
theorem dX1_carry_40 : decode cX1_carry 40 = .ok (.aload_n 0, 1) := by decide +kernel
theorem dX1_carry_41 : decode cX1_carry 41 = .ok (.iconst 2, 1) := by decide +kernel
theorem dX1_carry_42 : decode cX1_carry 42 = .ok (.invokevirtual 66, 3) := by decide +kernel
theorem dX1_carry_45 : decode cX1_carry 45 = .ok (.ireturn, 1) := by decide +kernel
theorem dX1_carry_46 : decode cX1_carry 46 = .ok (.iload_n 3, 1) := by decide +kernel
theorem dX1_carry_47 : decode cX1_carry 47 = .ok (.aload_n 0, 1) := by decide +kernel
theorem dX1_carry_48 : decode cX1_carry 48 = .ok (.getfield 9, 3) := by decide +kernel
theorem dX1_carry_51 : decode cX1_carry 51 = .ok (.iload_n 1, 1) := by decide +kernel
theorem dX1_carry_52 : decode cX1_carry 52 = .ok (.iaload, 1) := by decide +kernel
theorem dX1_carry_53 : decode cX1_carry 53 = .ok (.imul, 1) := by decide +kernel
theorem dX1_carry_54 : decode cX1_carry 54 = .ok (.istore 4, 2) := by decide +kernel
theorem dX1_carry_56 : decode cX1_carry 56 = .ok (.iconst 0, 1) := by decide +kernel
theorem dX1_carry_57 : decode cX1_carry 57 = .ok (.istore 5, 2) := by decide +kernel
theorem dX1_carry_59 : decode cX1_carry 59 = .ok (.iload 5, 2) := by decide +kernel
theorem dX1_carry_61 : decode cX1_carry 61 = .ok (.aload_n 0, 1) := by decide +kernel
theorem dX1_carry_62 : decode cX1_carry 62 = .ok (.getfield 50, 3) := by decide +kernel
theorem dX1_carry_65 : decode cX1_carry 65 = .ok (.if_icmp .ge 47, 3) := by decide +kernel
theorem dX1_carry_68 : decode cX1_carry 68 = .ok (.aload_n 0, 1) := by decide +kernel
theorem dX1_carry_69 : decode cX1_carry 69 = .ok (.iload_n 1, 1) := by decide +kernel
theorem dX1_carry_70 : decode cX1_carry 70 = .ok (.iload_n 2, 1) := by decide +kernel
theorem dX1_carry_71 : decode cX1_carry 71 = .ok (.iload 5, 2) := by decide +kernel
theorem dX1_carry_73 : decode cX1_carry 73 = .ok (.iload_n 3, 1) := by decide +kernel
theorem dX1_carry_74 : decode cX1_carry 74 = .ok (.invokevirtual 106, 3) := by decide +kernel
theorem dX1_carry_77 : decode cX1_carry 77 = .ok (.istore 6, 2) := by decide +kernel
theorem dX1_carry_79 : decode cX1_carry 79 = .ok (.iload 4, 2) := by decide +kernel
theorem dX1_carry_81 : decode cX1_carry 81 = .ok (.iload 6, 2) := by decide +kernel
theorem dX1_carry_83 : decode cX1_carry 83 = .ok (.isub, 1) := by decide +kernel
theorem dX1_carry_84 : decode cX1_carry 84 = .ok (.istore 4, 2) := by decide +kernel
theorem dX1_carry_86 : decode cX1_carry 86 = .ok (.aload_n 0, 1) := by decide +kernel
theorem dX1_carry_87 : decode cX1_carry 87 = .ok (.getfield 22, 3) := by decide +kernel
theorem dX1_carry_90 : decode cX1_carry 90 = .ok (.iload 5, 2) := by decide +kernel
theorem dX1_carry_92 : decode cX1_carry 92 = .ok (.dup2, 1) := by decide +kernel
theorem dX1_carry_93 : decode cX1_carry 93 = .ok (.iaload, 1) := by decide +kernel
theorem dX1_carry_94 : decode cX1_carry 94 = .ok (.iload 6, 2) := by decide +kernel
theorem dX1_carry_96 : decode cX1_carry 96 = .ok (.iadd, 1) := by decide +kernel
theorem dX1_carry_97 : decode cX1_carry 97 = .ok (.iastore, 1) := by decide +kernel
theorem dX1_carry_98 : decode cX1_carry 98 = .ok (.aload_n 0, 1) := by decide +kernel
theorem dX1_carry_99 : decode cX1_carry 99 = .ok (.iload 5, 2) := by decide +kernel
theorem dX1_carry_101 : decode cX1_carry 101 = .ok (.iload 6, 2) := by decide +kernel
theorem dX1_carry_103 : decode cX1_carry 103 = .ok (.invokevirtual 76, 3) := by decide +kernel
theorem dX1_carry_106 : decode cX1_carry 106 = .ok (.iinc 5 1, 3) := by decide +kernel
theorem dX1_carry_109 : decode cX1_carry 109 = .ok (.goto (-50), 3) := by decide +kernel
theorem dX1_carry_112 : decode cX1_carry 112 = .ok (.aload_n 0, 1) := by decide +kernel
theorem dX1_carry_113 : decode cX1_carry 113 = .ok (.getfield 13, 3) := by decide +kernel
theorem dX1_carry_116 : decode cX1_carry 116 = .ok (.iload_n 1, 1) := by decide +kernel
theorem dX1_carry_117 : decode cX1_carry 117 = .ok (.dup2, 1) := by decide +kernel
theorem dX1_carry_118 : decode cX1_carry 118 = .ok (.iaload, 1) := by decide +kernel
theorem dX1_carry_119 : decode cX1_carry 119 = .ok (.iload_n 3, 1) := by decide +kernel
theorem dX1_carry_120 : decode cX1_carry 120 = .ok (.iadd, 1) := by decide +kernel
theorem dX1_carry_121 : decode cX1_carry 121 = .ok (.iastore, 1) := by decide +kernel
theorem dX1_carry_122 : decode cX1_carry 122 = .ok (.aload_n 0, 1) := by decide +kernel
theorem dX1_carry_123 : decode cX1_carry 123 = .ok (.dup, 1) := by decide +kernel
theorem dX1_carry_124 : decode cX1_carry 124 = .ok (.getfield 110, 3) := by decide +kernel
theorem dX1_carry_127 : decode cX1_carry 127 = .ok (.iload 4, 2) := by decide +kernel
theorem dX1_carry_129 : decode cX1_carry 129 = .ok (.iadd, 1) := by decide +kernel
theorem dX1_carry_130 : decode cX1_carry 130 = .ok (.putfield 110, 3) := by decide +kernel
theorem dX1_carry_133 : decode cX1_carry 133 = .ok (.iload 4, 2) := by decide +kernel
theorem dX1_carry_135 : decode cX1_carry 135 = .ok (.ireturn, 1) := by decide +kernel
set_option maxRecDepth 20000 in
theorem ggX1_lookForHeirs_X1_addHeir : GoodIn wsX1_lookForHeirs wsX1_addHeir := goodIn_r _ [9, 10, 1, 11, 12, 13, 14, 15, 16, 17, 18, 19, 20, 21, 22, 23] (by decide +kernel) (by decide +kernel)
set_option maxRecDepth 20000 in
theorem gX1_lookForHeirs_X1_addHeir : GoodIn wsX1_lookForHeirs (wsV RX1 116 RX1 yX1_addHeir wsX1_addHeir) := goodIn_app (goodIn_of _ (by decide +kernel)) ggX1_lookForHeirs_X1_addHeir
theorem dX1_lookForHeirs_0 : decode cX1_lookForHeirs 0 = .ok (.aload_n 0, 1) := by decide +kernel
theorem dX1_lookForHeirs_1 : decode cX1_lookForHeirs 1 = .ok (.iconst 0, 1) := by decide +kernel
theorem dX1_lookForHeirs_2 : decode cX1_lookForHeirs 2 = .ok (.putfield 113, 3) := by decide +kernel
theorem dX1_lookForHeirs_5 : decode cX1_lookForHeirs 5 = .ok (.iconst 0, 1) := by decide +kernel
theorem dX1_lookForHeirs_6 : decode cX1_lookForHeirs 6 = .ok (.istore_n 2, 1) := by decide +kernel
theorem dX1_lookForHeirs_7 : decode cX1_lookForHeirs 7 = .ok (.iload_n 2, 1) := by decide +kernel
theorem dX1_lookForHeirs_8 : decode cX1_lookForHeirs 8 = .ok (.aload_n 0, 1) := by decide +kernel
theorem dX1_lookForHeirs_9 : decode cX1_lookForHeirs 9 = .ok (.getfield 50, 3) := by decide +kernel
theorem dX1_lookForHeirs_12 : decode cX1_lookForHeirs 12 = .ok (.if_icmp .ge 33, 3) := by decide +kernel
theorem dX1_lookForHeirs_15 : decode cX1_lookForHeirs 15 = .ok (.aload_n 0, 1) := by decide +kernel
theorem dX1_lookForHeirs_16 : decode cX1_lookForHeirs 16 = .ok (.getfield 25, 3) := by decide +kernel
theorem dX1_lookForHeirs_19 : decode cX1_lookForHeirs 19 = .ok (.iload_n 2, 1) := by decide +kernel
theorem dX1_lookForHeirs_20 : decode cX1_lookForHeirs 20 = .ok (.iaload, 1) := by decide +kernel
theorem dX1_lookForHeirs_21 : decode cX1_lookForHeirs 21 = .ok (.iload_n 1, 1) := by decide +kernel
theorem dX1_lookForHeirs_22 : decode cX1_lookForHeirs 22 = .ok (.if_icmp .ne 17, 3) := by decide +kernel
theorem dX1_lookForHeirs_25 : decode cX1_lookForHeirs 25 = .ok (.aload_n 0, 1) := by decide +kernel
theorem dX1_lookForHeirs_26 : decode cX1_lookForHeirs 26 = .ok (.getfield 28, 3) := by decide +kernel
theorem dX1_lookForHeirs_29 : decode cX1_lookForHeirs 29 = .ok (.iload_n 2, 1) := by decide +kernel
theorem dX1_lookForHeirs_30 : decode cX1_lookForHeirs 30 = .ok (.baload, 1) := by decide +kernel
theorem dX1_lookForHeirs_31 : decode cX1_lookForHeirs 31 = .ok (.ifCond .ne 8, 3) := by decide +kernel
theorem dX1_lookForHeirs_34 : decode cX1_lookForHeirs 34 = .ok (.aload_n 0, 1) := by decide +kernel
theorem dX1_lookForHeirs_35 : decode cX1_lookForHeirs 35 = .ok (.iload_n 2, 1) := by decide +kernel
theorem dX1_lookForHeirs_36 : decode cX1_lookForHeirs 36 = .ok (.invokevirtual 116, 3) := by decide +kernel
theorem dX1_lookForHeirs_39 : decode cX1_lookForHeirs 39 = .ok (.iinc 2 1, 3) := by decide +kernel
theorem dX1_lookForHeirs_42 : decode cX1_lookForHeirs 42 = .ok (.goto (-35), 3) := by decide +kernel
theorem dX1_lookForHeirs_45 : decode cX1_lookForHeirs 45 = .ok (.aload_n 0, 1) := by decide +kernel
theorem dX1_lookForHeirs_46 : decode cX1_lookForHeirs 46 = .ok (.getfield 113, 3) := by decide +kernel
theorem dX1_lookForHeirs_49 : decode cX1_lookForHeirs 49 = .ok (.ifCond .gt 13, 3) := by decide +kernel
theorem dX1_lookForHeirs_52 : decode cX1_lookForHeirs 52 = .ok (.aload_n 0, 1) := by decide +kernel
theorem dX1_lookForHeirs_53 : decode cX1_lookForHeirs 53 = .ok (.getfield 25, 3) := by decide +kernel
theorem dX1_lookForHeirs_56 : decode cX1_lookForHeirs 56 = .ok (.iload_n 1, 1) := by decide +kernel
theorem dX1_lookForHeirs_57 : decode cX1_lookForHeirs 57 = .ok (.iaload, 1) := by decide +kernel
theorem dX1_lookForHeirs_58 : decode cX1_lookForHeirs 58 = .ok (.iconst (-1), 1) := by decide +kernel
theorem dX1_lookForHeirs_59 : decode cX1_lookForHeirs 59 = .ok (.if_icmp .ne 4, 3) := by decide +kernel
theorem dX1_lookForHeirs_62 : decode cX1_lookForHeirs 62 = .ok (.return_, 1) := by decide +kernel
theorem dX1_lookForHeirs_63 : decode cX1_lookForHeirs 63 = .ok (.iconst 0, 1) := by decide +kernel
theorem dX1_lookForHeirs_64 : decode cX1_lookForHeirs 64 = .ok (.istore_n 2, 1) := by decide +kernel
theorem dX1_lookForHeirs_65 : decode cX1_lookForHeirs 65 = .ok (.iload_n 2, 1) := by decide +kernel
theorem dX1_lookForHeirs_66 : decode cX1_lookForHeirs 66 = .ok (.aload_n 0, 1) := by decide +kernel
theorem dX1_lookForHeirs_67 : decode cX1_lookForHeirs 67 = .ok (.getfield 50, 3) := by decide +kernel
theorem dX1_lookForHeirs_70 : decode cX1_lookForHeirs 70 = .ok (.if_icmp .ge 43, 3) := by decide +kernel
theorem dX1_lookForHeirs_73 : decode cX1_lookForHeirs 73 = .ok (.iload_n 2, 1) := by decide +kernel
theorem dX1_lookForHeirs_74 : decode cX1_lookForHeirs 74 = .ok (.iload_n 1, 1) := by decide +kernel
theorem dX1_lookForHeirs_75 : decode cX1_lookForHeirs 75 = .ok (.if_icmp .eq 32, 3) := by decide +kernel
theorem dX1_lookForHeirs_78 : decode cX1_lookForHeirs 78 = .ok (.aload_n 0, 1) := by decide +kernel
theorem dX1_lookForHeirs_79 : decode cX1_lookForHeirs 79 = .ok (.getfield 25, 3) := by decide +kernel
theorem dX1_lookForHeirs_82 : decode cX1_lookForHeirs 82 = .ok (.iload_n 2, 1) := by decide +kernel
theorem dX1_lookForHeirs_83 : decode cX1_lookForHeirs 83 = .ok (.iaload, 1) := by decide +kernel
theorem dX1_lookForHeirs_84 : decode cX1_lookForHeirs 84 = .ok (.aload_n 0, 1) := by decide +kernel
theorem dX1_lookForHeirs_85 : decode cX1_lookForHeirs 85 = .ok (.getfield 25, 3) := by decide +kernel
theorem dX1_lookForHeirs_88 : decode cX1_lookForHeirs 88 = .ok (.iload_n 1, 1) := by decide +kernel
theorem dX1_lookForHeirs_89 : decode cX1_lookForHeirs 89 = .ok (.iaload, 1) := by decide +kernel
theorem dX1_lookForHeirs_90 : decode cX1_lookForHeirs 90 = .ok (.if_icmp .ne 17, 3) := by decide +kernel
theorem dX1_lookForHeirs_93 : decode cX1_lookForHeirs 93 = .ok (.aload_n 0, 1) := by decide +kernel
theorem dX1_lookForHeirs_94 : decode cX1_lookForHeirs 94 = .ok (.getfield 28, 3) := by decide +kernel
theorem dX1_lookForHeirs_97 : decode cX1_lookForHeirs 97 = .ok (.iload_n 2, 1) := by decide +kernel
theorem dX1_lookForHeirs_98 : decode cX1_lookForHeirs 98 = .ok (.baload, 1) := by decide +kernel
theorem dX1_lookForHeirs_99 : decode cX1_lookForHeirs 99 = .ok (.ifCond .ne 8, 3) := by decide +kernel
theorem dX1_lookForHeirs_102 : decode cX1_lookForHeirs 102 = .ok (.aload_n 0, 1) := by decide +kernel
theorem dX1_lookForHeirs_103 : decode cX1_lookForHeirs 103 = .ok (.iload_n 2, 1) := by decide +kernel
theorem dX1_lookForHeirs_104 : decode cX1_lookForHeirs 104 = .ok (.invokevirtual 116, 3) := by decide +kernel
theorem dX1_lookForHeirs_107 : decode cX1_lookForHeirs 107 = .ok (.iinc 2 1, 3) := by decide +kernel
theorem dX1_lookForHeirs_110 : decode cX1_lookForHeirs 110 = .ok (.goto (-45), 3) := by decide +kernel
theorem dX1_lookForHeirs_113 : decode cX1_lookForHeirs 113 = .ok (.return_, 1) := by decide +kernel
theorem dX1_addHeir_0 : decode cX1_addHeir 0 = .ok (.aload_n 0, 1) := by decide +kernel
theorem dX1_addHeir_1 : decode cX1_addHeir 1 = .ok (.getfield 32, 3) := by decide +kernel
theorem dX1_addHeir_4 : decode cX1_addHeir 4 = .ok (.aload_n 0, 1) := by decide +kernel
theorem dX1_addHeir_5 : decode cX1_addHeir 5 = .ok (.getfield 113, 3) := by decide +kernel
theorem dX1_addHeir_8 : decode cX1_addHeir 8 = .ok (.iload_n 1, 1) := by decide +kernel
theorem dX1_addHeir_9 : decode cX1_addHeir 9 = .ok (.iastore, 1) := by decide +kernel
theorem dX1_addHeir_10 : decode cX1_addHeir 10 = .ok (.aload_n 0, 1) := by decide +kernel
theorem dX1_addHeir_11 : decode cX1_addHeir 11 = .ok (.dup, 1) := by decide +kernel
theorem dX1_addHeir_12 : decode cX1_addHeir 12 = .ok (.getfield 113, 3) := by decide +kernel
theorem dX1_addHeir_15 : decode cX1_addHeir 15 = .ok (.iconst 1, 1) := by decide +kernel
theorem dX1_addHeir_16 : decode cX1_addHeir 16 = .ok (.iadd, 1) := by decide +kernel
theorem dX1_addHeir_17 : decode cX1_addHeir 17 = .ok (.putfield 113, 3) := by decide +kernel
theorem dX1_addHeir_20 : decode cX1_addHeir 20 = .ok (.return_, 1) := by decide +kernel
theorem dX1_partOf_0 : decode cX1_partOf 0 = .ok (.aload_n 0, 1) := by decide +kernel
theorem dX1_partOf_1 : decode cX1_partOf 1 = .ok (.getfield 113, 3) := by decide +kernel
theorem dX1_partOf_4 : decode cX1_partOf 4 = .ok (.iconst 1, 1) := by decide +kernel
theorem dX1_partOf_5 : decode cX1_partOf 5 = .ok (.if_icmp .ne 5, 3) := by decide +kernel
theorem dX1_partOf_8 : decode cX1_partOf 8 = .ok (.iload_n 1, 1) := by decide +kernel
theorem dX1_partOf_9 : decode cX1_partOf 9 = .ok (.ireturn, 1) := by decide +kernel
theorem dX1_partOf_10 : decode cX1_partOf 10 = .ok (.iload_n 1, 1) := by decide +kernel
theorem dX1_partOf_11 : decode cX1_partOf 11 = .ok (.iconst 2, 1) := by decide +kernel
theorem dX1_partOf_12 : decode cX1_partOf 12 = .ok (.idiv, 1) := by decide +kernel
theorem dX1_partOf_13 : decode cX1_partOf 13 = .ok (.istore_n 3, 1) := by decide +kernel
theorem dX1_partOf_14 : decode cX1_partOf 14 = .ok (.iload_n 2, 1) := by decide +kernel
theorem dX1_partOf_15 : decode cX1_partOf 15 = .ok (.ifCond .ne 7, 3) := by decide +kernel
theorem dX1_partOf_18 : decode cX1_partOf 18 = .ok (.iload_n 1, 1) := by decide +kernel
theorem dX1_partOf_19 : decode cX1_partOf 19 = .ok (.iload_n 3, 1) := by decide +kernel
theorem dX1_partOf_20 : decode cX1_partOf 20 = .ok (.isub, 1) := by decide +kernel
theorem dX1_partOf_21 : decode cX1_partOf 21 = .ok (.ireturn, 1) := by decide +kernel
theorem dX1_partOf_22 : decode cX1_partOf 22 = .ok (.iload_n 3, 1) := by decide +kernel
theorem dX1_partOf_23 : decode cX1_partOf 23 = .ok (.aload_n 0, 1) := by decide +kernel
theorem dX1_partOf_24 : decode cX1_partOf 24 = .ok (.getfield 113, 3) := by decide +kernel
theorem dX1_partOf_27 : decode cX1_partOf 27 = .ok (.iconst 1, 1) := by decide +kernel
theorem dX1_partOf_28 : decode cX1_partOf 28 = .ok (.isub, 1) := by decide +kernel
theorem dX1_partOf_29 : decode cX1_partOf 29 = .ok (.idiv, 1) := by decide +kernel
theorem dX1_partOf_30 : decode cX1_partOf 30 = .ok (.iload_n 2, 1) := by decide +kernel
theorem dX1_partOf_31 : decode cX1_partOf 31 = .ok (.iconst 1, 1) := by decide +kernel
theorem dX1_partOf_32 : decode cX1_partOf 32 = .ok (.isub, 1) := by decide +kernel
theorem dX1_partOf_33 : decode cX1_partOf 33 = .ok (.iload_n 3, 1) := by decide +kernel
theorem dX1_partOf_34 : decode cX1_partOf 34 = .ok (.aload_n 0, 1) := by decide +kernel
theorem dX1_partOf_35 : decode cX1_partOf 35 = .ok (.getfield 113, 3) := by decide +kernel
theorem dX1_partOf_38 : decode cX1_partOf 38 = .ok (.iconst 1, 1) := by decide +kernel
theorem dX1_partOf_39 : decode cX1_partOf 39 = .ok (.isub, 1) := by decide +kernel
theorem dX1_partOf_40 : decode cX1_partOf 40 = .ok (.irem, 1) := by decide +kernel
theorem dX1_partOf_41 : decode cX1_partOf 41 = .ok (.if_icmp .ge 7, 3) := by decide +kernel
theorem dX1_partOf_44 : decode cX1_partOf 44 = .ok (.iconst 1, 1) := by decide +kernel
theorem dX1_partOf_45 : decode cX1_partOf 45 = .ok (.goto 4, 3) := by decide +kernel
theorem dX1_partOf_48 : decode cX1_partOf 48 = .ok (.iconst 0, 1) := by decide +kernel
theorem dX1_partOf_49 : decode cX1_partOf 49 = .ok (.iadd, 1) := by decide +kernel
theorem dX1_partOf_50 : decode cX1_partOf 50 = .ok (.ireturn, 1) := by decide +kernel
set_option maxRecDepth 20000 in
theorem ggX1_die_X1_isPerson : GoodIn wsX1_die wsX1_isPerson := goodIn_r _ [13, 14, 15, 16, 12, 17, 43, 44, 45, 46, 47, 48, 49, 50, 51, 52, 53, 54, 55] (by decide +kernel) (by decide +kernel)
set_option maxRecDepth 20000 in
theorem gX1_die_X1_isPerson : GoodIn wsX1_die (wsV RX1 73 RX1 yX1_isPerson wsX1_isPerson) := goodIn_app (goodIn_of _ (by decide +kernel)) ggX1_die_X1_isPerson
set_option maxRecDepth 20000 in
theorem ggX1_die_X1_no : GoodIn wsX1_die wsX1_no := goodIn_r _ [21, 1, 43, 44, 45, 46, 47, 48, 49, 50, 51, 52, 53, 54, 55] (by decide +kernel) (by decide +kernel)
set_option maxRecDepth 20000 in
theorem gX1_die_X1_no : GoodIn wsX1_die (wsV RX1 66 RX1 yX1_no wsX1_no) := goodIn_app (goodIn_of _ (by decide +kernel)) ggX1_die_X1_no
set_option maxRecDepth 20000 in
theorem ggX1_die_X1_lookForHeirs : GoodIn wsX1_die wsX1_lookForHeirs := goodIn_r _ [25, 5, 14, 26, 2, 27, 28, 29, 12, 30, 6, 43, 44, 45, 46, 47, 48, 49, 50, 51, 52, 53, 54, 55] (by decide +kernel) (by decide +kernel)
set_option maxRecDepth 20000 in
theorem gX1_die_X1_lookForHeirs : GoodIn wsX1_die (wsV RX1 120 RX1 yX1_lookForHeirs wsX1_lookForHeirs) := goodIn_app (goodIn_of _ (by decide +kernel)) ggX1_die_X1_lookForHeirs
set_option maxRecDepth 20000 in
theorem ggX1_die_X1_partOf : GoodIn wsX1_die wsX1_partOf := goodIn_r _ [34, 5, 43, 44, 45, 46, 47, 48, 49, 50, 51, 52, 53, 54, 55] (by decide +kernel) (by decide +kernel)
set_option maxRecDepth 20000 in
theorem gX1_die_X1_partOf : GoodIn wsX1_die (wsV RX1 123 RX1 yX1_partOf wsX1_partOf) := goodIn_app (goodIn_of _ (by decide +kernel)) ggX1_die_X1_partOf
set_option maxRecDepth 20000 in
theorem ggX1_die_X1_get : GoodIn wsX1_die wsX1_get := goodIn_r _ [38, 7, 39, 40, 41, 42, 43, 44, 45, 46, 47, 48, 49, 50, 51, 52, 53, 54, 55] (by decide +kernel) (by decide +kernel)
set_option maxRecDepth 20000 in
theorem gX1_die_X1_get : GoodIn wsX1_die (wsV RX1 76 RX1 yX1_get wsX1_get) := goodIn_app (goodIn_of _ (by decide +kernel)) ggX1_die_X1_get
theorem dX1_die_0 : decode cX1_die 0 = .ok (.aload_n 0, 1) := by decide +kernel
theorem dX1_die_1 : decode cX1_die 1 = .ok (.iconst 0, 1) := by decide +kernel
theorem dX1_die_2 : decode cX1_die 2 = .ok (.putfield 35, 3) := by decide +kernel
theorem dX1_die_5 : decode cX1_die 5 = .ok (.aload_n 0, 1) := by decide +kernel
theorem dX1_die_6 : decode cX1_die 6 = .ok (.iload_n 1, 1) := by decide +kernel
theorem dX1_die_7 : decode cX1_die 7 = .ok (.invokevirtual 73, 3) := by decide +kernel
theorem dX1_die_10 : decode cX1_die 10 = .ok (.ifCond .ne 9, 3) := by decide +kernel
theorem dX1_die_13 : decode cX1_die 13 = .ok (.aload_n 0, 1) := by decide +kernel
theorem dX1_die_14 : decode cX1_die 14 = .ok (.iconst 1, 1) := by decide +kernel
theorem dX1_die_15 : decode cX1_die 15 = .ok (.invokevirtual 66, 3) := by decide +kernel
theorem dX1_die_18 : decode cX1_die 18 = .ok (.ireturn, 1) := by decide +kernel
theorem dX1_die_19 : decode cX1_die 19 = .ok (.aload_n 0, 1) := by decide +kernel
theorem dX1_die_20 : decode cX1_die 20 = .ok (.getfield 28, 3) := by decide +kernel
theorem dX1_die_23 : decode cX1_die 23 = .ok (.iload_n 1, 1) := by decide +kernel
theorem dX1_die_24 : decode cX1_die 24 = .ok (.baload, 1) := by decide +kernel
theorem dX1_die_25 : decode cX1_die 25 = .ok (.ifCond .eq 9, 3) := by decide +kernel
theorem dX1_die_28 : decode cX1_die 28 = .ok (.aload_n 0, 1) := by decide +kernel
theorem dX1_die_29 : decode cX1_die 29 = .ok (.iconst 2, 1) := by decide +kernel
theorem dX1_die_30 : decode cX1_die 30 = .ok (.invokevirtual 66, 3) := by decide +kernel
theorem dX1_die_33 : decode cX1_die 33 = .ok (.ireturn, 1) := by decide +kernel
theorem dX1_die_34 : decode cX1_die 34 = .ok (.aload_n 0, 1) := by decide +kernel
theorem dX1_die_35 : decode cX1_die 35 = .ok (.iload_n 1, 1) := by decide +kernel
theorem dX1_die_36 : decode cX1_die 36 = .ok (.invokevirtual 120, 3) := by decide +kernel
theorem dX1_die_39 : decode cX1_die 39 = .ok (.iconst 0, 1) := by decide +kernel
theorem dX1_die_40 : decode cX1_die 40 = .ok (.istore_n 2, 1) := by decide +kernel
theorem dX1_die_41 : decode cX1_die 41 = .ok (.iload_n 2, 1) := by decide +kernel
theorem dX1_die_42 : decode cX1_die 42 = .ok (.aload_n 0, 1) := by decide +kernel
theorem dX1_die_43 : decode cX1_die 43 = .ok (.getfield 39, 3) := by decide +kernel
theorem dX1_die_46 : decode cX1_die 46 = .ok (.iconst 4, 1) := by decide +kernel
theorem dX1_die_47 : decode cX1_die 47 = .ok (.imul, 1) := by decide +kernel
theorem dX1_die_48 : decode cX1_die 48 = .ok (.if_icmp .ge 78, 3) := by decide +kernel
theorem dX1_die_51 : decode cX1_die 51 = .ok (.aload_n 0, 1) := by decide +kernel
theorem dX1_die_52 : decode cX1_die 52 = .ok (.getfield 16, 3) := by decide +kernel
theorem dX1_die_55 : decode cX1_die 55 = .ok (.bipush 12, 2) := by decide +kernel
theorem dX1_die_57 : decode cX1_die 57 = .ok (.iload_n 2, 1) := by decide +kernel
theorem dX1_die_58 : decode cX1_die 58 = .ok (.imul, 1) := by decide +kernel
theorem dX1_die_59 : decode cX1_die 59 = .ok (.iload_n 1, 1) := by decide +kernel
theorem dX1_die_60 : decode cX1_die 60 = .ok (.iadd, 1) := by decide +kernel
theorem dX1_die_61 : decode cX1_die 61 = .ok (.iaload, 1) := by decide +kernel
theorem dX1_die_62 : decode cX1_die 62 = .ok (.istore_n 3, 1) := by decide +kernel
theorem dX1_die_63 : decode cX1_die 63 = .ok (.aload_n 0, 1) := by decide +kernel
theorem dX1_die_64 : decode cX1_die 64 = .ok (.getfield 16, 3) := by decide +kernel
theorem dX1_die_67 : decode cX1_die 67 = .ok (.bipush 12, 2) := by decide +kernel
theorem dX1_die_69 : decode cX1_die 69 = .ok (.iload_n 2, 1) := by decide +kernel
theorem dX1_die_70 : decode cX1_die 70 = .ok (.imul, 1) := by decide +kernel
theorem dX1_die_71 : decode cX1_die 71 = .ok (.iload_n 1, 1) := by decide +kernel
theorem dX1_die_72 : decode cX1_die 72 = .ok (.iadd, 1) := by decide +kernel
theorem dX1_die_73 : decode cX1_die 73 = .ok (.iconst 0, 1) := by decide +kernel
theorem dX1_die_74 : decode cX1_die 74 = .ok (.iastore, 1) := by decide +kernel
theorem dX1_die_75 : decode cX1_die 75 = .ok (.iconst 0, 1) := by decide +kernel
theorem dX1_die_76 : decode cX1_die 76 = .ok (.istore 4, 2) := by decide +kernel
theorem dX1_die_78 : decode cX1_die 78 = .ok (.iload 4, 2) := by decide +kernel
theorem dX1_die_80 : decode cX1_die 80 = .ok (.aload_n 0, 1) := by decide +kernel
theorem dX1_die_81 : decode cX1_die 81 = .ok (.getfield 113, 3) := by decide +kernel
theorem dX1_die_84 : decode cX1_die 84 = .ok (.if_icmp .ge 36, 3) := by decide +kernel
theorem dX1_die_87 : decode cX1_die 87 = .ok (.aload_n 0, 1) := by decide +kernel
theorem dX1_die_88 : decode cX1_die 88 = .ok (.getfield 16, 3) := by decide +kernel
theorem dX1_die_91 : decode cX1_die 91 = .ok (.bipush 12, 2) := by decide +kernel
theorem dX1_die_93 : decode cX1_die 93 = .ok (.iload_n 2, 1) := by decide +kernel
theorem dX1_die_94 : decode cX1_die 94 = .ok (.imul, 1) := by decide +kernel
theorem dX1_die_95 : decode cX1_die 95 = .ok (.aload_n 0, 1) := by decide +kernel
theorem dX1_die_96 : decode cX1_die 96 = .ok (.getfield 32, 3) := by decide +kernel
theorem dX1_die_99 : decode cX1_die 99 = .ok (.iload 4, 2) := by decide +kernel
theorem dX1_die_101 : decode cX1_die 101 = .ok (.iaload, 1) := by decide +kernel
theorem dX1_die_102 : decode cX1_die 102 = .ok (.iadd, 1) := by decide +kernel
theorem dX1_die_103 : decode cX1_die 103 = .ok (.dup2, 1) := by decide +kernel
theorem dX1_die_104 : decode cX1_die 104 = .ok (.iaload, 1) := by decide +kernel
theorem dX1_die_105 : decode cX1_die 105 = .ok (.aload_n 0, 1) := by decide +kernel
theorem dX1_die_106 : decode cX1_die 106 = .ok (.iload_n 3, 1) := by decide +kernel
theorem dX1_die_107 : decode cX1_die 107 = .ok (.iload 4, 2) := by decide +kernel
theorem dX1_die_109 : decode cX1_die 109 = .ok (.invokevirtual 123, 3) := by decide +kernel
theorem dX1_die_112 : decode cX1_die 112 = .ok (.iadd, 1) := by decide +kernel
theorem dX1_die_113 : decode cX1_die 113 = .ok (.iastore, 1) := by decide +kernel
theorem dX1_die_114 : decode cX1_die 114 = .ok (.iinc 4 1, 3) := by decide +kernel
theorem dX1_die_117 : decode cX1_die 117 = .ok (.goto (-39), 3) := by decide +kernel
theorem dX1_die_120 : decode cX1_die 120 = .ok (.iinc 2 1, 3) := by decide +kernel
theorem dX1_die_123 : decode cX1_die 123 = .ok (.goto (-82), 3) := by decide +kernel
theorem dX1_die_126 : decode cX1_die 126 = .ok (.iconst 0, 1) := by decide +kernel
theorem dX1_die_127 : decode cX1_die 127 = .ok (.istore_n 2, 1) := by decide +kernel
theorem dX1_die_128 : decode cX1_die 128 = .ok (.iload_n 2, 1) := by decide +kernel
theorem dX1_die_129 : decode cX1_die 129 = .ok (.aload_n 0, 1) := by decide +kernel
theorem dX1_die_130 : decode cX1_die 130 = .ok (.getfield 113, 3) := by decide +kernel
theorem dX1_die_133 : decode cX1_die 133 = .ok (.if_icmp .ge 30, 3) := by decide +kernel
theorem dX1_die_136 : decode cX1_die 136 = .ok (.aload_n 0, 1) := by decide +kernel
theorem dX1_die_137 : decode cX1_die 137 = .ok (.aload_n 0, 1) := by decide +kernel
theorem dX1_die_138 : decode cX1_die 138 = .ok (.getfield 32, 3) := by decide +kernel
theorem dX1_die_141 : decode cX1_die 141 = .ok (.iload_n 2, 1) := by decide +kernel
theorem dX1_die_142 : decode cX1_die 142 = .ok (.iaload, 1) := by decide +kernel
theorem dX1_die_143 : decode cX1_die 143 = .ok (.aload_n 0, 1) := by decide +kernel
theorem dX1_die_144 : decode cX1_die 144 = .ok (.aload_n 0, 1) := by decide +kernel
theorem dX1_die_145 : decode cX1_die 145 = .ok (.getfield 19, 3) := by decide +kernel
theorem dX1_die_148 : decode cX1_die 148 = .ok (.iload_n 1, 1) := by decide +kernel
theorem dX1_die_149 : decode cX1_die 149 = .ok (.iaload, 1) := by decide +kernel
theorem dX1_die_150 : decode cX1_die 150 = .ok (.iload_n 2, 1) := by decide +kernel
theorem dX1_die_151 : decode cX1_die 151 = .ok (.invokevirtual 123, 3) := by decide +kernel
theorem dX1_die_154 : decode cX1_die 154 = .ok (.invokevirtual 76, 3) := by decide +kernel
theorem dX1_die_157 : decode cX1_die 157 = .ok (.iinc 2 1, 3) := by decide +kernel
theorem dX1_die_160 : decode cX1_die 160 = .ok (.goto (-32), 3) := by decide +kernel
theorem dX1_die_163 : decode cX1_die 163 = .ok (.aload_n 0, 1) := by decide +kernel
theorem dX1_die_164 : decode cX1_die 164 = .ok (.getfield 113, 3) := by decide +kernel
theorem dX1_die_167 : decode cX1_die 167 = .ok (.ifCond .ne 18, 3) := by decide +kernel
theorem dX1_die_170 : decode cX1_die 170 = .ok (.aload_n 0, 1) := by decide +kernel
theorem dX1_die_171 : decode cX1_die 171 = .ok (.dup, 1) := by decide +kernel
theorem dX1_die_172 : decode cX1_die 172 = .ok (.getfield 110, 3) := by decide +kernel
theorem dX1_die_175 : decode cX1_die 175 = .ok (.aload_n 0, 1) := by decide +kernel
theorem dX1_die_176 : decode cX1_die 176 = .ok (.getfield 19, 3) := by decide +kernel
theorem dX1_die_179 : decode cX1_die 179 = .ok (.iload_n 1, 1) := by decide +kernel
theorem dX1_die_180 : decode cX1_die 180 = .ok (.iaload, 1) := by decide +kernel
theorem dX1_die_181 : decode cX1_die 181 = .ok (.iadd, 1) := by decide +kernel
theorem dX1_die_182 : decode cX1_die 182 = .ok (.putfield 110, 3) := by decide +kernel
theorem dX1_die_185 : decode cX1_die 185 = .ok (.aload_n 0, 1) := by decide +kernel
theorem dX1_die_186 : decode cX1_die 186 = .ok (.getfield 19, 3) := by decide +kernel
theorem dX1_die_189 : decode cX1_die 189 = .ok (.iload_n 1, 1) := by decide +kernel
theorem dX1_die_190 : decode cX1_die 190 = .ok (.iconst 0, 1) := by decide +kernel
theorem dX1_die_191 : decode cX1_die 191 = .ok (.iastore, 1) := by decide +kernel
theorem dX1_die_192 : decode cX1_die 192 = .ok (.aload_n 0, 1) := by decide +kernel
theorem dX1_die_193 : decode cX1_die 193 = .ok (.getfield 28, 3) := by decide +kernel
theorem dX1_die_196 : decode cX1_die 196 = .ok (.iload_n 1, 1) := by decide +kernel
theorem dX1_die_197 : decode cX1_die 197 = .ok (.iconst 1, 1) := by decide +kernel
theorem dX1_die_198 : decode cX1_die 198 = .ok (.bastore, 1) := by decide +kernel
theorem dX1_die_199 : decode cX1_die 199 = .ok (.aload_n 0, 1) := by decide +kernel
theorem dX1_die_200 : decode cX1_die 200 = .ok (.getfield 113, 3) := by decide +kernel
theorem dX1_die_203 : decode cX1_die 203 = .ok (.ireturn, 1) := by decide +kernel
theorem dX1_ferries_0 : decode cX1_ferries 0 = .ok (.aload_n 0, 1) := by decide +kernel
theorem dX1_ferries_1 : decode cX1_ferries 1 = .ok (.iconst 0, 1) := by decide +kernel
theorem dX1_ferries_2 : decode cX1_ferries 2 = .ok (.putfield 35, 3) := by decide +kernel
theorem dX1_ferries_5 : decode cX1_ferries 5 = .ok (.aload_n 0, 1) := by decide +kernel
theorem dX1_ferries_6 : decode cX1_ferries 6 = .ok (.getfield 39, 3) := by decide +kernel
theorem dX1_ferries_9 : decode cX1_ferries 9 = .ok (.ireturn, 1) := by decide +kernel
set_option maxRecDepth 20000 in
theorem ggX1_toll_X1_isFerry : GoodIn wsX1_toll wsX1_isFerry := goodIn_r _ [7, 8, 9, 10, 6, 11, 16, 17, 18, 19, 20, 21, 22, 23, 24, 25, 26, 27, 28] (by decide +kernel) (by decide +kernel)
set_option maxRecDepth 20000 in
theorem gX1_toll_X1_isFerry : GoodIn wsX1_toll (wsV RX1 46 RX1 yX1_isFerry wsX1_isFerry) := goodIn_app (goodIn_of _ (by decide +kernel)) ggX1_toll_X1_isFerry
set_option maxRecDepth 20000 in
theorem ggX1_toll_X1_no : GoodIn wsX1_toll wsX1_no := goodIn_r _ [15, 1, 16, 17, 18, 19, 20, 21, 22, 23, 24, 25, 26, 27, 28] (by decide +kernel) (by decide +kernel)
set_option maxRecDepth 20000 in
theorem gX1_toll_X1_no : GoodIn wsX1_toll (wsV RX1 66 RX1 yX1_no wsX1_no) := goodIn_app (goodIn_of _ (by decide +kernel)) ggX1_toll_X1_no
theorem dX1_toll_0 : decode cX1_toll 0 = .ok (.aload_n 0, 1) := by decide +kernel
theorem dX1_toll_1 : decode cX1_toll 1 = .ok (.iconst 0, 1) := by decide +kernel
theorem dX1_toll_2 : decode cX1_toll 2 = .ok (.putfield 35, 3) := by decide +kernel
theorem dX1_toll_5 : decode cX1_toll 5 = .ok (.aload_n 0, 1) := by decide +kernel
theorem dX1_toll_6 : decode cX1_toll 6 = .ok (.iload_n 1, 1) := by decide +kernel
theorem dX1_toll_7 : decode cX1_toll 7 = .ok (.invokevirtual 46, 3) := by decide +kernel
theorem dX1_toll_10 : decode cX1_toll 10 = .ok (.ifCond .eq 12, 3) := by decide +kernel
theorem dX1_toll_13 : decode cX1_toll 13 = .ok (.aload_n 0, 1) := by decide +kernel
theorem dX1_toll_14 : decode cX1_toll 14 = .ok (.getfield 9, 3) := by decide +kernel
theorem dX1_toll_17 : decode cX1_toll 17 = .ok (.iload_n 1, 1) := by decide +kernel
theorem dX1_toll_18 : decode cX1_toll 18 = .ok (.iaload, 1) := by decide +kernel
theorem dX1_toll_19 : decode cX1_toll 19 = .ok (.goto 8, 3) := by decide +kernel
theorem dX1_toll_22 : decode cX1_toll 22 = .ok (.aload_n 0, 1) := by decide +kernel
theorem dX1_toll_23 : decode cX1_toll 23 = .ok (.iconst 1, 1) := by decide +kernel
theorem dX1_toll_24 : decode cX1_toll 24 = .ok (.invokevirtual 66, 3) := by decide +kernel
theorem dX1_toll_27 : decode cX1_toll 27 = .ok (.ireturn, 1) := by decide +kernel
set_option maxRecDepth 20000 in
theorem ggX1_carried_X1_isFerry : GoodIn wsX1_carried wsX1_isFerry := goodIn_r _ [7, 8, 9, 10, 6, 11, 16, 17, 18, 19, 20, 21, 22, 23, 24, 25, 26, 27, 28] (by decide +kernel) (by decide +kernel)
set_option maxRecDepth 20000 in
theorem gX1_carried_X1_isFerry : GoodIn wsX1_carried (wsV RX1 46 RX1 yX1_isFerry wsX1_isFerry) := goodIn_app (goodIn_of _ (by decide +kernel)) ggX1_carried_X1_isFerry
set_option maxRecDepth 20000 in
theorem ggX1_carried_X1_no : GoodIn wsX1_carried wsX1_no := goodIn_r _ [15, 1, 16, 17, 18, 19, 20, 21, 22, 23, 24, 25, 26, 27, 28] (by decide +kernel) (by decide +kernel)
set_option maxRecDepth 20000 in
theorem gX1_carried_X1_no : GoodIn wsX1_carried (wsV RX1 66 RX1 yX1_no wsX1_no) := goodIn_app (goodIn_of _ (by decide +kernel)) ggX1_carried_X1_no
theorem dX1_carried_0 : decode cX1_carried 0 = .ok (.aload_n 0, 1) := by decide +kernel
theorem dX1_carried_1 : decode cX1_carried 1 = .ok (.iconst 0, 1) := by decide +kernel
theorem dX1_carried_2 : decode cX1_carried 2 = .ok (.putfield 35, 3) := by decide +kernel
theorem dX1_carried_5 : decode cX1_carried 5 = .ok (.aload_n 0, 1) := by decide +kernel
theorem dX1_carried_6 : decode cX1_carried 6 = .ok (.iload_n 1, 1) := by decide +kernel
theorem dX1_carried_7 : decode cX1_carried 7 = .ok (.invokevirtual 46, 3) := by decide +kernel
theorem dX1_carried_10 : decode cX1_carried 10 = .ok (.ifCond .eq 12, 3) := by decide +kernel
theorem dX1_carried_13 : decode cX1_carried 13 = .ok (.aload_n 0, 1) := by decide +kernel
theorem dX1_carried_14 : decode cX1_carried 14 = .ok (.getfield 13, 3) := by decide +kernel
theorem dX1_carried_17 : decode cX1_carried 17 = .ok (.iload_n 1, 1) := by decide +kernel
theorem dX1_carried_18 : decode cX1_carried 18 = .ok (.iaload, 1) := by decide +kernel
theorem dX1_carried_19 : decode cX1_carried 19 = .ok (.goto 8, 3) := by decide +kernel
theorem dX1_carried_22 : decode cX1_carried 22 = .ok (.aload_n 0, 1) := by decide +kernel
theorem dX1_carried_23 : decode cX1_carried 23 = .ok (.iconst 1, 1) := by decide +kernel
theorem dX1_carried_24 : decode cX1_carried 24 = .ok (.invokevirtual 66, 3) := by decide +kernel
theorem dX1_carried_27 : decode cX1_carried 27 = .ok (.ireturn, 1) := by decide +kernel
set_option maxRecDepth 20000 in
theorem ggX1_shares_X1_isWatch : GoodIn wsX1_shares wsX1_isWatch := goodIn_r _ [7, 8, 9, 10, 6, 11, 12, 13, 14, 15, 28, 29, 30, 31, 32, 33, 34, 35, 36, 37, 38, 39, 40] (by decide +kernel) (by decide +kernel)
set_option maxRecDepth 20000 in
theorem gX1_shares_X1_isWatch : GoodIn wsX1_shares (wsV RX1 80 RX1 yX1_isWatch wsX1_isWatch) := goodIn_app (goodIn_of _ (by decide +kernel)) ggX1_shares_X1_isWatch
set_option maxRecDepth 20000 in
theorem ggX1_shares_X1_isPerson : GoodIn wsX1_shares wsX1_isPerson := goodIn_r _ [19, 20, 13, 14, 6, 15, 28, 29, 30, 31, 32, 33, 34, 35, 36, 37, 38, 39, 40] (by decide +kernel) (by decide +kernel)
set_option maxRecDepth 20000 in
theorem gX1_shares_X1_isPerson : GoodIn wsX1_shares (wsV RX1 73 RX1 yX1_isPerson wsX1_isPerson) := goodIn_app (goodIn_of _ (by decide +kernel)) ggX1_shares_X1_isPerson
set_option maxRecDepth 20000 in
theorem ggX1_shares_X1_at : GoodIn wsX1_shares wsX1_at := goodIn_r _ [23] (by decide +kernel) (by decide +kernel)
set_option maxRecDepth 20000 in
theorem gX1_shares_X1_at : GoodIn wsX1_shares (va_wsS RX1 53 yX1_at wsX1_at) := goodIn_app (goodIn_of _ (by decide +kernel)) ggX1_shares_X1_at
set_option maxRecDepth 20000 in
theorem ggX1_shares_X1_no : GoodIn wsX1_shares wsX1_no := goodIn_r _ [27, 1, 28, 29, 30, 31, 32, 33, 34, 35, 36, 37, 38, 39, 40] (by decide +kernel) (by decide +kernel)
set_option maxRecDepth 20000 in
theorem gX1_shares_X1_no : GoodIn wsX1_shares (wsV RX1 66 RX1 yX1_no wsX1_no) := goodIn_app (goodIn_of _ (by decide +kernel)) ggX1_shares_X1_no
theorem dX1_shares_0 : decode cX1_shares 0 = .ok (.aload_n 0, 1) := by decide +kernel
theorem dX1_shares_1 : decode cX1_shares 1 = .ok (.iconst 0, 1) := by decide +kernel
theorem dX1_shares_2 : decode cX1_shares 2 = .ok (.putfield 35, 3) := by decide +kernel
theorem dX1_shares_5 : decode cX1_shares 5 = .ok (.aload_n 0, 1) := by decide +kernel
theorem dX1_shares_6 : decode cX1_shares 6 = .ok (.iload_n 1, 1) := by decide +kernel
theorem dX1_shares_7 : decode cX1_shares 7 = .ok (.iload_n 2, 1) := by decide +kernel
theorem dX1_shares_8 : decode cX1_shares 8 = .ok (.invokevirtual 80, 3) := by decide +kernel
theorem dX1_shares_11 : decode cX1_shares 11 = .ok (.ifCond .eq 25, 3) := by decide +kernel
theorem dX1_shares_14 : decode cX1_shares 14 = .ok (.aload_n 0, 1) := by decide +kernel
theorem dX1_shares_15 : decode cX1_shares 15 = .ok (.iload_n 3, 1) := by decide +kernel
theorem dX1_shares_16 : decode cX1_shares 16 = .ok (.invokevirtual 73, 3) := by decide +kernel
theorem dX1_shares_19 : decode cX1_shares 19 = .ok (.ifCond .eq 17, 3) := by decide +kernel
theorem dX1_shares_22 : decode cX1_shares 22 = .ok (.aload_n 0, 1) := by decide +kernel
theorem dX1_shares_23 : decode cX1_shares 23 = .ok (.getfield 16, 3) := by decide +kernel
theorem dX1_shares_26 : decode cX1_shares 26 = .ok (.iload_n 1, 1) := by decide +kernel
theorem dX1_shares_27 : decode cX1_shares 27 = .ok (.iload_n 2, 1) := by decide +kernel
theorem dX1_shares_28 : decode cX1_shares 28 = .ok (.iload_n 3, 1) := by decide +kernel
theorem dX1_shares_29 : decode cX1_shares 29 = .ok (.invokestatic 53, 3) := by decide +kernel
theorem dX1_shares_32 : decode cX1_shares 32 = .ok (.iaload, 1) := by decide +kernel
theorem dX1_shares_33 : decode cX1_shares 33 = .ok (.goto 8, 3) := by decide +kernel
theorem dX1_shares_36 : decode cX1_shares 36 = .ok (.aload_n 0, 1) := by decide +kernel
theorem dX1_shares_37 : decode cX1_shares 37 = .ok (.iconst 1, 1) := by decide +kernel
theorem dX1_shares_38 : decode cX1_shares 38 = .ok (.invokevirtual 66, 3) := by decide +kernel
theorem dX1_shares_41 : decode cX1_shares 41 = .ok (.ireturn, 1) := by decide +kernel
set_option maxRecDepth 20000 in
theorem ggX1_crownShares_X1_isWatch : GoodIn wsX1_crownShares wsX1_isWatch := goodIn_r _ [6, 7, 8, 9, 5, 10, 11, 12, 13, 14, 28, 29, 30, 31, 32, 33, 34, 35, 36, 37, 38, 39, 40] (by decide +kernel) (by decide +kernel)
set_option maxRecDepth 20000 in
theorem gX1_crownShares_X1_isWatch : GoodIn wsX1_crownShares (wsV RX1 80 RX1 yX1_isWatch wsX1_isWatch) := goodIn_app (goodIn_of _ (by decide +kernel)) ggX1_crownShares_X1_isWatch
set_option maxRecDepth 20000 in
theorem ggX1_crownShares_X1_crown : GoodIn wsX1_crownShares wsX1_crown := goodIn_r _ [18, 19, 20, 21, 22, 5, 23, 28, 29, 30, 31, 32, 33, 34, 35, 36, 37, 38, 39, 40] (by decide +kernel) (by decide +kernel)
set_option maxRecDepth 20000 in
theorem gX1_crownShares_X1_crown : GoodIn wsX1_crownShares (wsV RX1 84 RX1 yX1_crown wsX1_crown) := goodIn_app (goodIn_of _ (by decide +kernel)) ggX1_crownShares_X1_crown
set_option maxRecDepth 20000 in
theorem ggX1_crownShares_X1_no : GoodIn wsX1_crownShares wsX1_no := goodIn_r _ [27, 1, 28, 29, 30, 31, 32, 33, 34, 35, 36, 37, 38, 39, 40] (by decide +kernel) (by decide +kernel)
set_option maxRecDepth 20000 in
theorem gX1_crownShares_X1_no : GoodIn wsX1_crownShares (wsV RX1 66 RX1 yX1_no wsX1_no) := goodIn_app (goodIn_of _ (by decide +kernel)) ggX1_crownShares_X1_no
theorem dX1_crownShares_0 : decode cX1_crownShares 0 = .ok (.aload_n 0, 1) := by decide +kernel
theorem dX1_crownShares_1 : decode cX1_crownShares 1 = .ok (.iconst 0, 1) := by decide +kernel
theorem dX1_crownShares_2 : decode cX1_crownShares 2 = .ok (.putfield 35, 3) := by decide +kernel
theorem dX1_crownShares_5 : decode cX1_crownShares 5 = .ok (.aload_n 0, 1) := by decide +kernel
theorem dX1_crownShares_6 : decode cX1_crownShares 6 = .ok (.iload_n 1, 1) := by decide +kernel
theorem dX1_crownShares_7 : decode cX1_crownShares 7 = .ok (.iload_n 2, 1) := by decide +kernel
theorem dX1_crownShares_8 : decode cX1_crownShares 8 = .ok (.invokevirtual 80, 3) := by decide +kernel
theorem dX1_crownShares_11 : decode cX1_crownShares 11 = .ok (.ifCond .eq 12, 3) := by decide +kernel
theorem dX1_crownShares_14 : decode cX1_crownShares 14 = .ok (.aload_n 0, 1) := by decide +kernel
theorem dX1_crownShares_15 : decode cX1_crownShares 15 = .ok (.iload_n 1, 1) := by decide +kernel
theorem dX1_crownShares_16 : decode cX1_crownShares 16 = .ok (.iload_n 2, 1) := by decide +kernel
theorem dX1_crownShares_17 : decode cX1_crownShares 17 = .ok (.invokevirtual 84, 3) := by decide +kernel
theorem dX1_crownShares_20 : decode cX1_crownShares 20 = .ok (.goto 8, 3) := by decide +kernel
theorem dX1_crownShares_23 : decode cX1_crownShares 23 = .ok (.aload_n 0, 1) := by decide +kernel
theorem dX1_crownShares_24 : decode cX1_crownShares 24 = .ok (.iconst 1, 1) := by decide +kernel
theorem dX1_crownShares_25 : decode cX1_crownShares 25 = .ok (.invokevirtual 66, 3) := by decide +kernel
theorem dX1_crownShares_28 : decode cX1_crownShares 28 = .ok (.ireturn, 1) := by decide +kernel
set_option maxRecDepth 20000 in
theorem ggX1_owners_X1_isWatch : GoodIn wsX1_owners wsX1_isWatch := goodIn_r _ [8, 9, 10, 11, 7, 12, 13, 14, 15, 16, 24, 25, 26, 27, 28, 29, 30, 31, 32, 33, 34, 35, 36] (by decide +kernel) (by decide +kernel)
set_option maxRecDepth 20000 in
theorem gX1_owners_X1_isWatch : GoodIn wsX1_owners (wsV RX1 80 RX1 yX1_isWatch wsX1_isWatch) := goodIn_app (goodIn_of _ (by decide +kernel)) ggX1_owners_X1_isWatch
set_option maxRecDepth 20000 in
theorem ggX1_owners_X1_no : GoodIn wsX1_owners wsX1_no := goodIn_r _ [20, 1, 24, 25, 26, 27, 28, 29, 30, 31, 32, 33, 34, 35, 36] (by decide +kernel) (by decide +kernel)
set_option maxRecDepth 20000 in
theorem gX1_owners_X1_no : GoodIn wsX1_owners (wsV RX1 66 RX1 yX1_no wsX1_no) := goodIn_app (goodIn_of _ (by decide +kernel)) ggX1_owners_X1_no
set_option maxRecDepth 20000 in
theorem ggX1_owners_X1_at : GoodIn wsX1_owners wsX1_at := goodIn_r _ [23] (by decide +kernel) (by decide +kernel)
set_option maxRecDepth 20000 in
theorem gX1_owners_X1_at : GoodIn wsX1_owners (va_wsS RX1 53 yX1_at wsX1_at) := goodIn_app (goodIn_of _ (by decide +kernel)) ggX1_owners_X1_at
theorem dX1_owners_0 : decode cX1_owners 0 = .ok (.aload_n 0, 1) := by decide +kernel
theorem dX1_owners_1 : decode cX1_owners 1 = .ok (.iconst 0, 1) := by decide +kernel
theorem dX1_owners_2 : decode cX1_owners 2 = .ok (.putfield 35, 3) := by decide +kernel
theorem dX1_owners_5 : decode cX1_owners 5 = .ok (.aload_n 0, 1) := by decide +kernel
theorem dX1_owners_6 : decode cX1_owners 6 = .ok (.iload_n 1, 1) := by decide +kernel
theorem dX1_owners_7 : decode cX1_owners 7 = .ok (.iload_n 2, 1) := by decide +kernel
theorem dX1_owners_8 : decode cX1_owners 8 = .ok (.invokevirtual 80, 3) := by decide +kernel
theorem dX1_owners_11 : decode cX1_owners 11 = .ok (.ifCond .ne 9, 3) := by decide +kernel
theorem dX1_owners_14 : decode cX1_owners 14 = .ok (.aload_n 0, 1) := by decide +kernel
theorem dX1_owners_15 : decode cX1_owners 15 = .ok (.iconst 1, 1) := by decide +kernel
theorem dX1_owners_16 : decode cX1_owners 16 = .ok (.invokevirtual 66, 3) := by decide +kernel
theorem dX1_owners_19 : decode cX1_owners 19 = .ok (.ireturn, 1) := by decide +kernel
theorem dX1_owners_20 : decode cX1_owners 20 = .ok (.iconst 0, 1) := by decide +kernel
theorem dX1_owners_21 : decode cX1_owners 21 = .ok (.istore_n 3, 1) := by decide +kernel
theorem dX1_owners_22 : decode cX1_owners 22 = .ok (.iconst 0, 1) := by decide +kernel
theorem dX1_owners_23 : decode cX1_owners 23 = .ok (.istore 4, 2) := by decide +kernel
theorem dX1_owners_25 : decode cX1_owners 25 = .ok (.iload 4, 2) := by decide +kernel
theorem dX1_owners_27 : decode cX1_owners 27 = .ok (.aload_n 0, 1) := by decide +kernel
theorem dX1_owners_28 : decode cX1_owners 28 = .ok (.getfield 50, 3) := by decide +kernel
theorem dX1_owners_31 : decode cX1_owners 31 = .ok (.if_icmp .ge 32, 3) := by decide +kernel
theorem dX1_owners_34 : decode cX1_owners 34 = .ok (.iload_n 3, 1) := by decide +kernel
theorem dX1_owners_35 : decode cX1_owners 35 = .ok (.aload_n 0, 1) := by decide +kernel
theorem dX1_owners_36 : decode cX1_owners 36 = .ok (.getfield 16, 3) := by decide +kernel
theorem dX1_owners_39 : decode cX1_owners 39 = .ok (.iload_n 1, 1) := by decide +kernel
theorem dX1_owners_40 : decode cX1_owners 40 = .ok (.iload_n 2, 1) := by decide +kernel
theorem dX1_owners_41 : decode cX1_owners 41 = .ok (.iload 4, 2) := by decide +kernel
theorem dX1_owners_43 : decode cX1_owners 43 = .ok (.invokestatic 53, 3) := by decide +kernel
theorem dX1_owners_46 : decode cX1_owners 46 = .ok (.iaload, 1) := by decide +kernel
theorem dX1_owners_47 : decode cX1_owners 47 = .ok (.ifCond .le 7, 3) := by decide +kernel
theorem dX1_owners_50 : decode cX1_owners 50 = .ok (.iconst 1, 1) := by decide +kernel
theorem dX1_owners_51 : decode cX1_owners 51 = .ok (.goto 4, 3) := by decide +kernel
theorem dX1_owners_54 : decode cX1_owners 54 = .ok (.iconst 0, 1) := by decide +kernel
theorem dX1_owners_55 : decode cX1_owners 55 = .ok (.iadd, 1) := by decide +kernel
theorem dX1_owners_56 : decode cX1_owners 56 = .ok (.istore_n 3, 1) := by decide +kernel
theorem dX1_owners_57 : decode cX1_owners 57 = .ok (.iinc 4 1, 3) := by decide +kernel
theorem dX1_owners_60 : decode cX1_owners 60 = .ok (.goto (-35), 3) := by decide +kernel
theorem dX1_owners_63 : decode cX1_owners 63 = .ok (.iload_n 3, 1) := by decide +kernel
theorem dX1_owners_64 : decode cX1_owners 64 = .ok (.ireturn, 1) := by decide +kernel
set_option maxRecDepth 20000 in
theorem ggX1_holder_X1_isWatch : GoodIn wsX1_holder wsX1_isWatch := goodIn_r _ [8, 9, 10, 11, 7, 12, 13, 14, 15, 16, 24, 25, 26, 27, 28, 29, 30, 31, 32, 33, 34, 35, 36] (by decide +kernel) (by decide +kernel)
set_option maxRecDepth 20000 in
theorem gX1_holder_X1_isWatch : GoodIn wsX1_holder (wsV RX1 80 RX1 yX1_isWatch wsX1_isWatch) := goodIn_app (goodIn_of _ (by decide +kernel)) ggX1_holder_X1_isWatch
set_option maxRecDepth 20000 in
theorem ggX1_holder_X1_no : GoodIn wsX1_holder wsX1_no := goodIn_r _ [20, 1, 24, 25, 26, 27, 28, 29, 30, 31, 32, 33, 34, 35, 36] (by decide +kernel) (by decide +kernel)
set_option maxRecDepth 20000 in
theorem gX1_holder_X1_no : GoodIn wsX1_holder (wsV RX1 66 RX1 yX1_no wsX1_no) := goodIn_app (goodIn_of _ (by decide +kernel)) ggX1_holder_X1_no
set_option maxRecDepth 20000 in
theorem ggX1_holder_X1_at : GoodIn wsX1_holder wsX1_at := goodIn_r _ [23] (by decide +kernel) (by decide +kernel)
set_option maxRecDepth 20000 in
theorem gX1_holder_X1_at : GoodIn wsX1_holder (va_wsS RX1 53 yX1_at wsX1_at) := goodIn_app (goodIn_of _ (by decide +kernel)) ggX1_holder_X1_at
theorem dX1_holder_0 : decode cX1_holder 0 = .ok (.aload_n 0, 1) := by decide +kernel
theorem dX1_holder_1 : decode cX1_holder 1 = .ok (.iconst 0, 1) := by decide +kernel
theorem dX1_holder_2 : decode cX1_holder 2 = .ok (.putfield 35, 3) := by decide +kernel
theorem dX1_holder_5 : decode cX1_holder 5 = .ok (.aload_n 0, 1) := by decide +kernel
theorem dX1_holder_6 : decode cX1_holder 6 = .ok (.iload_n 1, 1) := by decide +kernel
theorem dX1_holder_7 : decode cX1_holder 7 = .ok (.iload_n 2, 1) := by decide +kernel
theorem dX1_holder_8 : decode cX1_holder 8 = .ok (.invokevirtual 80, 3) := by decide +kernel
theorem dX1_holder_11 : decode cX1_holder 11 = .ok (.ifCond .ne 9, 3) := by decide +kernel
theorem dX1_holder_14 : decode cX1_holder 14 = .ok (.aload_n 0, 1) := by decide +kernel
theorem dX1_holder_15 : decode cX1_holder 15 = .ok (.iconst 1, 1) := by decide +kernel
theorem dX1_holder_16 : decode cX1_holder 16 = .ok (.invokevirtual 66, 3) := by decide +kernel
theorem dX1_holder_19 : decode cX1_holder 19 = .ok (.ireturn, 1) := by decide +kernel
theorem dX1_holder_20 : decode cX1_holder 20 = .ok (.iconst (-1), 1) := by decide +kernel
theorem dX1_holder_21 : decode cX1_holder 21 = .ok (.istore_n 3, 1) := by decide +kernel
theorem dX1_holder_22 : decode cX1_holder 22 = .ok (.iconst 0, 1) := by decide +kernel
theorem dX1_holder_23 : decode cX1_holder 23 = .ok (.istore 4, 2) := by decide +kernel
theorem dX1_holder_25 : decode cX1_holder 25 = .ok (.iconst 0, 1) := by decide +kernel
theorem dX1_holder_26 : decode cX1_holder 26 = .ok (.istore 5, 2) := by decide +kernel
theorem dX1_holder_28 : decode cX1_holder 28 = .ok (.iload 5, 2) := by decide +kernel
theorem dX1_holder_30 : decode cX1_holder 30 = .ok (.aload_n 0, 1) := by decide +kernel
theorem dX1_holder_31 : decode cX1_holder 31 = .ok (.getfield 50, 3) := by decide +kernel
theorem dX1_holder_34 : decode cX1_holder 34 = .ok (.if_icmp .ge 46, 3) := by decide +kernel
theorem dX1_holder_37 : decode cX1_holder 37 = .ok (.aload_n 0, 1) := by decide +kernel
theorem dX1_holder_38 : decode cX1_holder 38 = .ok (.getfield 16, 3) := by decide +kernel
theorem dX1_holder_41 : decode cX1_holder 41 = .ok (.iload_n 1, 1) := by decide +kernel
theorem dX1_holder_42 : decode cX1_holder 42 = .ok (.iload_n 2, 1) := by decide +kernel
theorem dX1_holder_43 : decode cX1_holder 43 = .ok (.iload 5, 2) := by decide +kernel
theorem dX1_holder_45 : decode cX1_holder 45 = .ok (.invokestatic 53, 3) := by decide +kernel
theorem dX1_holder_48 : decode cX1_holder 48 = .ok (.iaload, 1) := by decide +kernel
theorem dX1_holder_49 : decode cX1_holder 49 = .ok (.iload 4, 2) := by decide +kernel
theorem dX1_holder_51 : decode cX1_holder 51 = .ok (.if_icmp .gt 6, 3) := by decide +kernel
theorem dX1_holder_54 : decode cX1_holder 54 = .ok (.goto 20, 3) := by decide +kernel
theorem dX1_holder_57 : decode cX1_holder 57 = .ok (.iload 5, 2) := by decide +kernel
theorem dX1_holder_59 : decode cX1_holder 59 = .ok (.istore_n 3, 1) := by decide +kernel
theorem dX1_holder_60 : decode cX1_holder 60 = .ok (.aload_n 0, 1) := by decide +kernel
theorem dX1_holder_61 : decode cX1_holder 61 = .ok (.getfield 16, 3) := by decide +kernel
theorem dX1_holder_64 : decode cX1_holder 64 = .ok (.iload_n 1, 1) := by decide +kernel
theorem dX1_holder_65 : decode cX1_holder 65 = .ok (.iload_n 2, 1) := by decide +kernel
theorem dX1_holder_66 : decode cX1_holder 66 = .ok (.iload 5, 2) := by decide +kernel
theorem dX1_holder_68 : decode cX1_holder 68 = .ok (.invokestatic 53, 3) := by decide +kernel
theorem dX1_holder_71 : decode cX1_holder 71 = .ok (.iaload, 1) := by decide +kernel
theorem dX1_holder_72 : decode cX1_holder 72 = .ok (.istore 4, 2) := by decide +kernel
theorem dX1_holder_74 : decode cX1_holder 74 = .ok (.iinc 5 1, 3) := by decide +kernel
theorem dX1_holder_77 : decode cX1_holder 77 = .ok (.goto (-49), 3) := by decide +kernel
theorem dX1_holder_80 : decode cX1_holder 80 = .ok (.iload_n 3, 1) := by decide +kernel
theorem dX1_holder_81 : decode cX1_holder 81 = .ok (.iconst (-1), 1) := by decide +kernel
theorem dX1_holder_82 : decode cX1_holder 82 = .ok (.if_icmp .ne 11, 3) := by decide +kernel
theorem dX1_holder_85 : decode cX1_holder 85 = .ok (.aload_n 0, 1) := by decide +kernel
theorem dX1_holder_86 : decode cX1_holder 86 = .ok (.iconst 2, 1) := by decide +kernel
theorem dX1_holder_87 : decode cX1_holder 87 = .ok (.invokevirtual 66, 3) := by decide +kernel
theorem dX1_holder_90 : decode cX1_holder 90 = .ok (.goto 4, 3) := by decide +kernel
theorem dX1_holder_93 : decode cX1_holder 93 = .ok (.iload_n 3, 1) := by decide +kernel
theorem dX1_holder_94 : decode cX1_holder 94 = .ok (.ireturn, 1) := by decide +kernel
set_option maxRecDepth 20000 in
theorem ggX1_master_X1_isFerry : GoodIn wsX1_master wsX1_isFerry := goodIn_r _ [6, 7, 8, 9, 5, 10, 28, 29, 30, 31, 32, 33, 34, 35, 36, 37, 38, 39, 40] (by decide +kernel) (by decide +kernel)
set_option maxRecDepth 20000 in
theorem gX1_master_X1_isFerry : GoodIn wsX1_master (wsV RX1 46 RX1 yX1_isFerry wsX1_isFerry) := goodIn_app (goodIn_of _ (by decide +kernel)) ggX1_master_X1_isFerry
set_option maxRecDepth 20000 in
theorem ggX1_master_X1_no : GoodIn wsX1_master wsX1_no := goodIn_r _ [14, 1, 28, 29, 30, 31, 32, 33, 34, 35, 36, 37, 38, 39, 40] (by decide +kernel) (by decide +kernel)
set_option maxRecDepth 20000 in
theorem gX1_master_X1_no : GoodIn wsX1_master (wsV RX1 66 RX1 yX1_no wsX1_no) := goodIn_app (goodIn_of _ (by decide +kernel)) ggX1_master_X1_no
set_option maxRecDepth 20000 in
theorem ggX1_master_X1_masterOf : GoodIn wsX1_master wsX1_masterOf := goodIn_r _ [18, 19, 20, 21, 22, 5, 23, 24, 25, 26, 27, 28, 29, 30, 31, 32, 33, 34, 35, 36, 37, 38, 39, 40] (by decide +kernel) (by decide +kernel)
set_option maxRecDepth 20000 in
theorem gX1_master_X1_masterOf : GoodIn wsX1_master (wsV RX1 103 RX1 yX1_masterOf wsX1_masterOf) := goodIn_app (goodIn_of _ (by decide +kernel)) ggX1_master_X1_masterOf
theorem dX1_master_0 : decode cX1_master 0 = .ok (.aload_n 0, 1) := by decide +kernel
theorem dX1_master_1 : decode cX1_master 1 = .ok (.iconst 0, 1) := by decide +kernel
theorem dX1_master_2 : decode cX1_master 2 = .ok (.putfield 35, 3) := by decide +kernel
theorem dX1_master_5 : decode cX1_master 5 = .ok (.aload_n 0, 1) := by decide +kernel
theorem dX1_master_6 : decode cX1_master 6 = .ok (.iload_n 1, 1) := by decide +kernel
theorem dX1_master_7 : decode cX1_master 7 = .ok (.invokevirtual 46, 3) := by decide +kernel
theorem dX1_master_10 : decode cX1_master 10 = .ok (.ifCond .ne 9, 3) := by decide +kernel
theorem dX1_master_13 : decode cX1_master 13 = .ok (.aload_n 0, 1) := by decide +kernel
theorem dX1_master_14 : decode cX1_master 14 = .ok (.iconst 1, 1) := by decide +kernel
theorem dX1_master_15 : decode cX1_master 15 = .ok (.invokevirtual 66, 3) := by decide +kernel
theorem dX1_master_18 : decode cX1_master 18 = .ok (.ireturn, 1) := by decide +kernel
theorem dX1_master_19 : decode cX1_master 19 = .ok (.aload_n 0, 1) := by decide +kernel
theorem dX1_master_20 : decode cX1_master 20 = .ok (.iload_n 1, 1) := by decide +kernel
theorem dX1_master_21 : decode cX1_master 21 = .ok (.invokevirtual 103, 3) := by decide +kernel
theorem dX1_master_24 : decode cX1_master 24 = .ok (.istore_n 2, 1) := by decide +kernel
theorem dX1_master_25 : decode cX1_master 25 = .ok (.iload_n 2, 1) := by decide +kernel
theorem dX1_master_26 : decode cX1_master 26 = .ok (.iconst (-1), 1) := by decide +kernel
theorem dX1_master_27 : decode cX1_master 27 = .ok (.if_icmp .ne 11, 3) := by decide +kernel
theorem dX1_master_30 : decode cX1_master 30 = .ok (.aload_n 0, 1) := by decide +kernel
theorem dX1_master_31 : decode cX1_master 31 = .ok (.iconst 2, 1) := by decide +kernel
theorem dX1_master_32 : decode cX1_master 32 = .ok (.invokevirtual 66, 3) := by decide +kernel
theorem dX1_master_35 : decode cX1_master 35 = .ok (.goto 4, 3) := by decide +kernel
theorem dX1_master_38 : decode cX1_master 38 = .ok (.iload_n 2, 1) := by decide +kernel
theorem dX1_master_39 : decode cX1_master 39 = .ok (.ireturn, 1) := by decide +kernel
set_option maxRecDepth 20000 in
theorem ggX1_hasMaster_X1_isFerry : GoodIn wsX1_hasMaster wsX1_isFerry := goodIn_r _ [6, 7, 8, 9, 5, 10, 28, 29, 30, 31, 32, 33, 34, 35, 36, 37, 38, 39, 40] (by decide +kernel) (by decide +kernel)
set_option maxRecDepth 20000 in
theorem gX1_hasMaster_X1_isFerry : GoodIn wsX1_hasMaster (wsV RX1 46 RX1 yX1_isFerry wsX1_isFerry) := goodIn_app (goodIn_of _ (by decide +kernel)) ggX1_hasMaster_X1_isFerry
set_option maxRecDepth 20000 in
theorem ggX1_hasMaster_X1_masterOf : GoodIn wsX1_hasMaster wsX1_masterOf := goodIn_r _ [14, 15, 16, 17, 18, 5, 19, 20, 21, 22, 23, 28, 29, 30, 31, 32, 33, 34, 35, 36, 37, 38, 39, 40] (by decide +kernel) (by decide +kernel)
set_option maxRecDepth 20000 in
theorem gX1_hasMaster_X1_masterOf : GoodIn wsX1_hasMaster (wsV RX1 103 RX1 yX1_masterOf wsX1_masterOf) := goodIn_app (goodIn_of _ (by decide +kernel)) ggX1_hasMaster_X1_masterOf
set_option maxRecDepth 20000 in
theorem ggX1_hasMaster_X1_isNot : GoodIn wsX1_hasMaster wsX1_isNot := goodIn_r _ [27, 1, 28, 29, 30, 31, 32, 33, 34, 35, 36, 37, 38, 39, 40] (by decide +kernel) (by decide +kernel)
set_option maxRecDepth 20000 in
theorem gX1_hasMaster_X1_isNot : GoodIn wsX1_hasMaster (wsV RX1 126 RX1 yX1_isNot wsX1_isNot) := goodIn_app (goodIn_of _ (by decide +kernel)) ggX1_hasMaster_X1_isNot
theorem dX1_hasMaster_0 : decode cX1_hasMaster 0 = .ok (.aload_n 0, 1) := by decide +kernel
theorem dX1_hasMaster_1 : decode cX1_hasMaster 1 = .ok (.iconst 0, 1) := by decide +kernel
theorem dX1_hasMaster_2 : decode cX1_hasMaster 2 = .ok (.putfield 35, 3) := by decide +kernel
theorem dX1_hasMaster_5 : decode cX1_hasMaster 5 = .ok (.aload_n 0, 1) := by decide +kernel
theorem dX1_hasMaster_6 : decode cX1_hasMaster 6 = .ok (.iload_n 1, 1) := by decide +kernel
theorem dX1_hasMaster_7 : decode cX1_hasMaster 7 = .ok (.invokevirtual 46, 3) := by decide +kernel
theorem dX1_hasMaster_10 : decode cX1_hasMaster 10 = .ok (.ifCond .eq 20, 3) := by decide +kernel
theorem dX1_hasMaster_13 : decode cX1_hasMaster 13 = .ok (.aload_n 0, 1) := by decide +kernel
theorem dX1_hasMaster_14 : decode cX1_hasMaster 14 = .ok (.iload_n 1, 1) := by decide +kernel
theorem dX1_hasMaster_15 : decode cX1_hasMaster 15 = .ok (.invokevirtual 103, 3) := by decide +kernel
theorem dX1_hasMaster_18 : decode cX1_hasMaster 18 = .ok (.iconst (-1), 1) := by decide +kernel
theorem dX1_hasMaster_19 : decode cX1_hasMaster 19 = .ok (.if_icmp .eq 7, 3) := by decide +kernel
theorem dX1_hasMaster_22 : decode cX1_hasMaster 22 = .ok (.iconst 1, 1) := by decide +kernel
theorem dX1_hasMaster_23 : decode cX1_hasMaster 23 = .ok (.goto 12, 3) := by decide +kernel
theorem dX1_hasMaster_26 : decode cX1_hasMaster 26 = .ok (.iconst 0, 1) := by decide +kernel
theorem dX1_hasMaster_27 : decode cX1_hasMaster 27 = .ok (.goto 8, 3) := by decide +kernel
theorem dX1_hasMaster_30 : decode cX1_hasMaster 30 = .ok (.aload_n 0, 1) := by decide +kernel
theorem dX1_hasMaster_31 : decode cX1_hasMaster 31 = .ok (.iconst 1, 1) := by decide +kernel
theorem dX1_hasMaster_32 : decode cX1_hasMaster 32 = .ok (.invokevirtual 126, 3) := by decide +kernel
theorem dX1_hasMaster_35 : decode cX1_hasMaster 35 = .ok (.ireturn, 1) := by decide +kernel
set_option maxRecDepth 20000 in
theorem ggX1_shareValue_X1_isWatch : GoodIn wsX1_shareValue wsX1_isWatch := goodIn_r _ [6, 7, 8, 9, 5, 10, 11, 12, 13, 14, 25, 26, 27, 28, 29, 30, 31, 32, 33, 34, 35, 36, 37] (by decide +kernel) (by decide +kernel)
set_option maxRecDepth 20000 in
theorem gX1_shareValue_X1_isWatch : GoodIn wsX1_shareValue (wsV RX1 80 RX1 yX1_isWatch wsX1_isWatch) := goodIn_app (goodIn_of _ (by decide +kernel)) ggX1_shareValue_X1_isWatch
set_option maxRecDepth 20000 in
theorem ggX1_shareValue_X1_worth : GoodIn wsX1_shareValue wsX1_worth := goodIn_r _ [18, 19, 20, 25, 26, 27, 28, 29, 30, 31, 32, 33, 34, 35, 36, 37] (by decide +kernel) (by decide +kernel)
set_option maxRecDepth 20000 in
theorem gX1_shareValue_X1_worth : GoodIn wsX1_shareValue (wsV RX1 87 RX1 yX1_worth wsX1_worth) := goodIn_app (goodIn_of _ (by decide +kernel)) ggX1_shareValue_X1_worth
set_option maxRecDepth 20000 in
theorem ggX1_shareValue_X1_no : GoodIn wsX1_shareValue wsX1_no := goodIn_r _ [24, 1, 25, 26, 27, 28, 29, 30, 31, 32, 33, 34, 35, 36, 37] (by decide +kernel) (by decide +kernel)
set_option maxRecDepth 20000 in
theorem gX1_shareValue_X1_no : GoodIn wsX1_shareValue (wsV RX1 66 RX1 yX1_no wsX1_no) := goodIn_app (goodIn_of _ (by decide +kernel)) ggX1_shareValue_X1_no
theorem dX1_shareValue_0 : decode cX1_shareValue 0 = .ok (.aload_n 0, 1) := by decide +kernel
theorem dX1_shareValue_1 : decode cX1_shareValue 1 = .ok (.iconst 0, 1) := by decide +kernel
theorem dX1_shareValue_2 : decode cX1_shareValue 2 = .ok (.putfield 35, 3) := by decide +kernel
theorem dX1_shareValue_5 : decode cX1_shareValue 5 = .ok (.aload_n 0, 1) := by decide +kernel
theorem dX1_shareValue_6 : decode cX1_shareValue 6 = .ok (.iload_n 1, 1) := by decide +kernel
theorem dX1_shareValue_7 : decode cX1_shareValue 7 = .ok (.iload_n 2, 1) := by decide +kernel
theorem dX1_shareValue_8 : decode cX1_shareValue 8 = .ok (.invokevirtual 80, 3) := by decide +kernel
theorem dX1_shareValue_11 : decode cX1_shareValue 11 = .ok (.ifCond .eq 12, 3) := by decide +kernel
theorem dX1_shareValue_14 : decode cX1_shareValue 14 = .ok (.aload_n 0, 1) := by decide +kernel
theorem dX1_shareValue_15 : decode cX1_shareValue 15 = .ok (.iload_n 1, 1) := by decide +kernel
theorem dX1_shareValue_16 : decode cX1_shareValue 16 = .ok (.iload_n 2, 1) := by decide +kernel
theorem dX1_shareValue_17 : decode cX1_shareValue 17 = .ok (.invokevirtual 87, 3) := by decide +kernel
theorem dX1_shareValue_20 : decode cX1_shareValue 20 = .ok (.goto 8, 3) := by decide +kernel
theorem dX1_shareValue_23 : decode cX1_shareValue 23 = .ok (.aload_n 0, 1) := by decide +kernel
theorem dX1_shareValue_24 : decode cX1_shareValue 24 = .ok (.iconst 1, 1) := by decide +kernel
theorem dX1_shareValue_25 : decode cX1_shareValue 25 = .ok (.invokevirtual 66, 3) := by decide +kernel
theorem dX1_shareValue_28 : decode cX1_shareValue 28 = .ok (.ireturn, 1) := by decide +kernel
set_option maxRecDepth 20000 in
theorem ggX1_watchAt_X1_isIn : GoodIn wsX1_watchAt wsX1_isIn := goodIn_r _ [5] (by decide +kernel) (by decide +kernel)
set_option maxRecDepth 20000 in
theorem gX1_watchAt_X1_isIn : GoodIn wsX1_watchAt (va_wsS RX1 42 yX1_isIn wsX1_isIn) := goodIn_app (goodIn_of _ (by decide +kernel)) ggX1_watchAt_X1_isIn
set_option maxRecDepth 20000 in
theorem ggX1_watchAt_X1_no : GoodIn wsX1_watchAt wsX1_no := goodIn_r _ [9, 1, 10, 11, 12, 13, 14, 15, 16, 17, 18, 19, 20, 21, 22] (by decide +kernel) (by decide +kernel)
set_option maxRecDepth 20000 in
theorem gX1_watchAt_X1_no : GoodIn wsX1_watchAt (wsV RX1 66 RX1 yX1_no wsX1_no) := goodIn_app (goodIn_of _ (by decide +kernel)) ggX1_watchAt_X1_no
theorem dX1_watchAt_0 : decode cX1_watchAt 0 = .ok (.aload_n 0, 1) := by decide +kernel
theorem dX1_watchAt_1 : decode cX1_watchAt 1 = .ok (.iconst 0, 1) := by decide +kernel
theorem dX1_watchAt_2 : decode cX1_watchAt 2 = .ok (.putfield 35, 3) := by decide +kernel
theorem dX1_watchAt_5 : decode cX1_watchAt 5 = .ok (.iload_n 1, 1) := by decide +kernel
theorem dX1_watchAt_6 : decode cX1_watchAt 6 = .ok (.iconst 0, 1) := by decide +kernel
theorem dX1_watchAt_7 : decode cX1_watchAt 7 = .ok (.bipush 23, 2) := by decide +kernel
theorem dX1_watchAt_9 : decode cX1_watchAt 9 = .ok (.invokestatic 42, 3) := by decide +kernel
theorem dX1_watchAt_12 : decode cX1_watchAt 12 = .ok (.ifCond .eq 10, 3) := by decide +kernel
theorem dX1_watchAt_15 : decode cX1_watchAt 15 = .ok (.iload_n 1, 1) := by decide +kernel
theorem dX1_watchAt_16 : decode cX1_watchAt 16 = .ok (.bipush 6, 2) := by decide +kernel
theorem dX1_watchAt_18 : decode cX1_watchAt 18 = .ok (.idiv, 1) := by decide +kernel
theorem dX1_watchAt_19 : decode cX1_watchAt 19 = .ok (.goto 8, 3) := by decide +kernel
theorem dX1_watchAt_22 : decode cX1_watchAt 22 = .ok (.aload_n 0, 1) := by decide +kernel
theorem dX1_watchAt_23 : decode cX1_watchAt 23 = .ok (.iconst 1, 1) := by decide +kernel
theorem dX1_watchAt_24 : decode cX1_watchAt 24 = .ok (.invokevirtual 66, 3) := by decide +kernel
theorem dX1_watchAt_27 : decode cX1_watchAt 27 = .ok (.ireturn, 1) := by decide +kernel
theorem dX1_people_0 : decode cX1_people 0 = .ok (.aload_n 0, 1) := by decide +kernel
theorem dX1_people_1 : decode cX1_people 1 = .ok (.iconst 0, 1) := by decide +kernel
theorem dX1_people_2 : decode cX1_people 2 = .ok (.putfield 35, 3) := by decide +kernel
theorem dX1_people_5 : decode cX1_people 5 = .ok (.aload_n 0, 1) := by decide +kernel
theorem dX1_people_6 : decode cX1_people 6 = .ok (.getfield 50, 3) := by decide +kernel
theorem dX1_people_9 : decode cX1_people 9 = .ok (.ireturn, 1) := by decide +kernel
theorem dX1_alive_0 : decode cX1_alive 0 = .ok (.iconst 0, 1) := by decide +kernel
theorem dX1_alive_1 : decode cX1_alive 1 = .ok (.istore_n 1, 1) := by decide +kernel
theorem dX1_alive_2 : decode cX1_alive 2 = .ok (.iconst 0, 1) := by decide +kernel
theorem dX1_alive_3 : decode cX1_alive 3 = .ok (.istore_n 2, 1) := by decide +kernel
theorem dX1_alive_4 : decode cX1_alive 4 = .ok (.iload_n 2, 1) := by decide +kernel
theorem dX1_alive_5 : decode cX1_alive 5 = .ok (.aload_n 0, 1) := by decide +kernel
theorem dX1_alive_6 : decode cX1_alive 6 = .ok (.getfield 50, 3) := by decide +kernel
theorem dX1_alive_9 : decode cX1_alive 9 = .ok (.if_icmp .ge 26, 3) := by decide +kernel
theorem dX1_alive_12 : decode cX1_alive 12 = .ok (.iload_n 1, 1) := by decide +kernel
theorem dX1_alive_13 : decode cX1_alive 13 = .ok (.aload_n 0, 1) := by decide +kernel
theorem dX1_alive_14 : decode cX1_alive 14 = .ok (.getfield 28, 3) := by decide +kernel
theorem dX1_alive_17 : decode cX1_alive 17 = .ok (.iload_n 2, 1) := by decide +kernel
theorem dX1_alive_18 : decode cX1_alive 18 = .ok (.baload, 1) := by decide +kernel
theorem dX1_alive_19 : decode cX1_alive 19 = .ok (.ifCond .eq 7, 3) := by decide +kernel
theorem dX1_alive_22 : decode cX1_alive 22 = .ok (.iconst 0, 1) := by decide +kernel
theorem dX1_alive_23 : decode cX1_alive 23 = .ok (.goto 4, 3) := by decide +kernel
theorem dX1_alive_26 : decode cX1_alive 26 = .ok (.iconst 1, 1) := by decide +kernel
theorem dX1_alive_27 : decode cX1_alive 27 = .ok (.iadd, 1) := by decide +kernel
theorem dX1_alive_28 : decode cX1_alive 28 = .ok (.istore_n 1, 1) := by decide +kernel
theorem dX1_alive_29 : decode cX1_alive 29 = .ok (.iinc 2 1, 3) := by decide +kernel
theorem dX1_alive_32 : decode cX1_alive 32 = .ok (.goto (-28), 3) := by decide +kernel
theorem dX1_alive_35 : decode cX1_alive 35 = .ok (.iload_n 1, 1) := by decide +kernel
theorem dX1_alive_36 : decode cX1_alive 36 = .ok (.ireturn, 1) := by decide +kernel
set_option maxRecDepth 20000 in
theorem ggX1_living_X1_alive : GoodIn wsX1_living wsX1_alive := goodIn_r _ [6, 7, 8, 9, 10, 11, 12, 13, 14, 15, 16, 17, 18, 19, 20, 21] (by decide +kernel) (by decide +kernel)
set_option maxRecDepth 20000 in
theorem gX1_living_X1_alive : GoodIn wsX1_living (wsV RX1 129 RX1 yX1_alive wsX1_alive) := goodIn_app (goodIn_of _ (by decide +kernel)) ggX1_living_X1_alive
theorem dX1_living_0 : decode cX1_living 0 = .ok (.aload_n 0, 1) := by decide +kernel
theorem dX1_living_1 : decode cX1_living 1 = .ok (.iconst 0, 1) := by decide +kernel
theorem dX1_living_2 : decode cX1_living 2 = .ok (.putfield 35, 3) := by decide +kernel
theorem dX1_living_5 : decode cX1_living 5 = .ok (.aload_n 0, 1) := by decide +kernel
theorem dX1_living_6 : decode cX1_living 6 = .ok (.invokevirtual 129, 3) := by decide +kernel
theorem dX1_living_9 : decode cX1_living 9 = .ok (.ireturn, 1) := by decide +kernel
set_option maxRecDepth 20000 in
theorem ggX1_isAlive_X1_isPerson : GoodIn wsX1_isAlive wsX1_isPerson := goodIn_r _ [7, 8, 9, 10, 6, 11, 16, 17, 18, 19, 20, 21, 22, 23, 24, 25, 26, 27, 28] (by decide +kernel) (by decide +kernel)
set_option maxRecDepth 20000 in
theorem gX1_isAlive_X1_isPerson : GoodIn wsX1_isAlive (wsV RX1 73 RX1 yX1_isPerson wsX1_isPerson) := goodIn_app (goodIn_of _ (by decide +kernel)) ggX1_isAlive_X1_isPerson
set_option maxRecDepth 20000 in
theorem ggX1_isAlive_X1_isNot : GoodIn wsX1_isAlive wsX1_isNot := goodIn_r _ [15, 1, 16, 17, 18, 19, 20, 21, 22, 23, 24, 25, 26, 27, 28] (by decide +kernel) (by decide +kernel)
set_option maxRecDepth 20000 in
theorem gX1_isAlive_X1_isNot : GoodIn wsX1_isAlive (wsV RX1 126 RX1 yX1_isNot wsX1_isNot) := goodIn_app (goodIn_of _ (by decide +kernel)) ggX1_isAlive_X1_isNot
theorem dX1_isAlive_0 : decode cX1_isAlive 0 = .ok (.aload_n 0, 1) := by decide +kernel
theorem dX1_isAlive_1 : decode cX1_isAlive 1 = .ok (.iconst 0, 1) := by decide +kernel
theorem dX1_isAlive_2 : decode cX1_isAlive 2 = .ok (.putfield 35, 3) := by decide +kernel
theorem dX1_isAlive_5 : decode cX1_isAlive 5 = .ok (.aload_n 0, 1) := by decide +kernel
theorem dX1_isAlive_6 : decode cX1_isAlive 6 = .ok (.iload_n 1, 1) := by decide +kernel
theorem dX1_isAlive_7 : decode cX1_isAlive 7 = .ok (.invokevirtual 73, 3) := by decide +kernel
theorem dX1_isAlive_10 : decode cX1_isAlive 10 = .ok (.ifCond .eq 20, 3) := by decide +kernel
theorem dX1_isAlive_13 : decode cX1_isAlive 13 = .ok (.aload_n 0, 1) := by decide +kernel
theorem dX1_isAlive_14 : decode cX1_isAlive 14 = .ok (.getfield 28, 3) := by decide +kernel
theorem dX1_isAlive_17 : decode cX1_isAlive 17 = .ok (.iload_n 1, 1) := by decide +kernel
theorem dX1_isAlive_18 : decode cX1_isAlive 18 = .ok (.baload, 1) := by decide +kernel
theorem dX1_isAlive_19 : decode cX1_isAlive 19 = .ok (.ifCond .ne 7, 3) := by decide +kernel
theorem dX1_isAlive_22 : decode cX1_isAlive 22 = .ok (.iconst 1, 1) := by decide +kernel
theorem dX1_isAlive_23 : decode cX1_isAlive 23 = .ok (.goto 12, 3) := by decide +kernel
theorem dX1_isAlive_26 : decode cX1_isAlive 26 = .ok (.iconst 0, 1) := by decide +kernel
theorem dX1_isAlive_27 : decode cX1_isAlive 27 = .ok (.goto 8, 3) := by decide +kernel
theorem dX1_isAlive_30 : decode cX1_isAlive 30 = .ok (.aload_n 0, 1) := by decide +kernel
theorem dX1_isAlive_31 : decode cX1_isAlive 31 = .ok (.iconst 1, 1) := by decide +kernel
theorem dX1_isAlive_32 : decode cX1_isAlive 32 = .ok (.invokevirtual 126, 3) := by decide +kernel
theorem dX1_isAlive_35 : decode cX1_isAlive 35 = .ok (.ireturn, 1) := by decide +kernel
set_option maxRecDepth 20000 in
theorem ggX1_coins_X1_isPerson : GoodIn wsX1_coins wsX1_isPerson := goodIn_r _ [7, 8, 9, 10, 6, 11, 16, 17, 18, 19, 20, 21, 22, 23, 24, 25, 26, 27, 28] (by decide +kernel) (by decide +kernel)
set_option maxRecDepth 20000 in
theorem gX1_coins_X1_isPerson : GoodIn wsX1_coins (wsV RX1 73 RX1 yX1_isPerson wsX1_isPerson) := goodIn_app (goodIn_of _ (by decide +kernel)) ggX1_coins_X1_isPerson
set_option maxRecDepth 20000 in
theorem ggX1_coins_X1_no : GoodIn wsX1_coins wsX1_no := goodIn_r _ [15, 1, 16, 17, 18, 19, 20, 21, 22, 23, 24, 25, 26, 27, 28] (by decide +kernel) (by decide +kernel)
set_option maxRecDepth 20000 in
theorem gX1_coins_X1_no : GoodIn wsX1_coins (wsV RX1 66 RX1 yX1_no wsX1_no) := goodIn_app (goodIn_of _ (by decide +kernel)) ggX1_coins_X1_no
theorem dX1_coins_0 : decode cX1_coins 0 = .ok (.aload_n 0, 1) := by decide +kernel
theorem dX1_coins_1 : decode cX1_coins 1 = .ok (.iconst 0, 1) := by decide +kernel
theorem dX1_coins_2 : decode cX1_coins 2 = .ok (.putfield 35, 3) := by decide +kernel
theorem dX1_coins_5 : decode cX1_coins 5 = .ok (.aload_n 0, 1) := by decide +kernel
theorem dX1_coins_6 : decode cX1_coins 6 = .ok (.iload_n 1, 1) := by decide +kernel
theorem dX1_coins_7 : decode cX1_coins 7 = .ok (.invokevirtual 73, 3) := by decide +kernel
theorem dX1_coins_10 : decode cX1_coins 10 = .ok (.ifCond .eq 12, 3) := by decide +kernel
theorem dX1_coins_13 : decode cX1_coins 13 = .ok (.aload_n 0, 1) := by decide +kernel
theorem dX1_coins_14 : decode cX1_coins 14 = .ok (.getfield 19, 3) := by decide +kernel
theorem dX1_coins_17 : decode cX1_coins 17 = .ok (.iload_n 1, 1) := by decide +kernel
theorem dX1_coins_18 : decode cX1_coins 18 = .ok (.iaload, 1) := by decide +kernel
theorem dX1_coins_19 : decode cX1_coins 19 = .ok (.goto 8, 3) := by decide +kernel
theorem dX1_coins_22 : decode cX1_coins 22 = .ok (.aload_n 0, 1) := by decide +kernel
theorem dX1_coins_23 : decode cX1_coins 23 = .ok (.iconst 1, 1) := by decide +kernel
theorem dX1_coins_24 : decode cX1_coins 24 = .ok (.invokevirtual 66, 3) := by decide +kernel
theorem dX1_coins_27 : decode cX1_coins 27 = .ok (.ireturn, 1) := by decide +kernel
set_option maxRecDepth 20000 in
theorem ggX1_earned_X1_isPerson : GoodIn wsX1_earned wsX1_isPerson := goodIn_r _ [7, 8, 9, 10, 6, 11, 16, 17, 18, 19, 20, 21, 22, 23, 24, 25, 26, 27, 28] (by decide +kernel) (by decide +kernel)
set_option maxRecDepth 20000 in
theorem gX1_earned_X1_isPerson : GoodIn wsX1_earned (wsV RX1 73 RX1 yX1_isPerson wsX1_isPerson) := goodIn_app (goodIn_of _ (by decide +kernel)) ggX1_earned_X1_isPerson
set_option maxRecDepth 20000 in
theorem ggX1_earned_X1_no : GoodIn wsX1_earned wsX1_no := goodIn_r _ [15, 1, 16, 17, 18, 19, 20, 21, 22, 23, 24, 25, 26, 27, 28] (by decide +kernel) (by decide +kernel)
set_option maxRecDepth 20000 in
theorem gX1_earned_X1_no : GoodIn wsX1_earned (wsV RX1 66 RX1 yX1_no wsX1_no) := goodIn_app (goodIn_of _ (by decide +kernel)) ggX1_earned_X1_no
theorem dX1_earned_0 : decode cX1_earned 0 = .ok (.aload_n 0, 1) := by decide +kernel
theorem dX1_earned_1 : decode cX1_earned 1 = .ok (.iconst 0, 1) := by decide +kernel
theorem dX1_earned_2 : decode cX1_earned 2 = .ok (.putfield 35, 3) := by decide +kernel
theorem dX1_earned_5 : decode cX1_earned 5 = .ok (.aload_n 0, 1) := by decide +kernel
theorem dX1_earned_6 : decode cX1_earned 6 = .ok (.iload_n 1, 1) := by decide +kernel
theorem dX1_earned_7 : decode cX1_earned 7 = .ok (.invokevirtual 73, 3) := by decide +kernel
theorem dX1_earned_10 : decode cX1_earned 10 = .ok (.ifCond .eq 12, 3) := by decide +kernel
theorem dX1_earned_13 : decode cX1_earned 13 = .ok (.aload_n 0, 1) := by decide +kernel
theorem dX1_earned_14 : decode cX1_earned 14 = .ok (.getfield 22, 3) := by decide +kernel
theorem dX1_earned_17 : decode cX1_earned 17 = .ok (.iload_n 1, 1) := by decide +kernel
theorem dX1_earned_18 : decode cX1_earned 18 = .ok (.iaload, 1) := by decide +kernel
theorem dX1_earned_19 : decode cX1_earned 19 = .ok (.goto 8, 3) := by decide +kernel
theorem dX1_earned_22 : decode cX1_earned 22 = .ok (.aload_n 0, 1) := by decide +kernel
theorem dX1_earned_23 : decode cX1_earned 23 = .ok (.iconst 1, 1) := by decide +kernel
theorem dX1_earned_24 : decode cX1_earned 24 = .ok (.invokevirtual 66, 3) := by decide +kernel
theorem dX1_earned_27 : decode cX1_earned 27 = .ok (.ireturn, 1) := by decide +kernel
set_option maxRecDepth 20000 in
theorem ggX1_allOf_X1_inFerry : GoodIn wsX1_allOf wsX1_inFerry := goodIn_r _ [6, 7, 8, 9, 5, 10, 11, 12, 13, 14, 15, 16, 17, 18, 19, 20, 21, 22, 23] (by decide +kernel) (by decide +kernel)
set_option maxRecDepth 20000 in
theorem gX1_allOf_X1_inFerry : GoodIn wsX1_allOf (wsV RX1 100 RX1 yX1_inFerry wsX1_inFerry) := goodIn_app (goodIn_of _ (by decide +kernel)) ggX1_allOf_X1_inFerry
theorem dX1_allOf_0 : decode cX1_allOf 0 = .ok (.iconst 0, 1) := by decide +kernel
theorem dX1_allOf_1 : decode cX1_allOf 1 = .ok (.istore_n 2, 1) := by decide +kernel
theorem dX1_allOf_2 : decode cX1_allOf 2 = .ok (.iconst 0, 1) := by decide +kernel
theorem dX1_allOf_3 : decode cX1_allOf 3 = .ok (.istore_n 3, 1) := by decide +kernel
theorem dX1_allOf_4 : decode cX1_allOf 4 = .ok (.iload_n 3, 1) := by decide +kernel
theorem dX1_allOf_5 : decode cX1_allOf 5 = .ok (.aload_n 0, 1) := by decide +kernel
theorem dX1_allOf_6 : decode cX1_allOf 6 = .ok (.getfield 39, 3) := by decide +kernel
theorem dX1_allOf_9 : decode cX1_allOf 9 = .ok (.if_icmp .ge 18, 3) := by decide +kernel
theorem dX1_allOf_12 : decode cX1_allOf 12 = .ok (.iload_n 2, 1) := by decide +kernel
theorem dX1_allOf_13 : decode cX1_allOf 13 = .ok (.aload_n 0, 1) := by decide +kernel
theorem dX1_allOf_14 : decode cX1_allOf 14 = .ok (.iload_n 3, 1) := by decide +kernel
theorem dX1_allOf_15 : decode cX1_allOf 15 = .ok (.iload_n 1, 1) := by decide +kernel
theorem dX1_allOf_16 : decode cX1_allOf 16 = .ok (.invokevirtual 100, 3) := by decide +kernel
theorem dX1_allOf_19 : decode cX1_allOf 19 = .ok (.iadd, 1) := by decide +kernel
theorem dX1_allOf_20 : decode cX1_allOf 20 = .ok (.istore_n 2, 1) := by decide +kernel
theorem dX1_allOf_21 : decode cX1_allOf 21 = .ok (.iinc 3 1, 3) := by decide +kernel
theorem dX1_allOf_24 : decode cX1_allOf 24 = .ok (.goto (-20), 3) := by decide +kernel
theorem dX1_allOf_27 : decode cX1_allOf 27 = .ok (.iload_n 2, 1) := by decide +kernel
theorem dX1_allOf_28 : decode cX1_allOf 28 = .ok (.ireturn, 1) := by decide +kernel
set_option maxRecDepth 20000 in
theorem ggX1_allShares_X1_isPerson : GoodIn wsX1_allShares wsX1_isPerson := goodIn_r _ [6, 7, 8, 9, 5, 10, 28, 29, 30, 31, 32, 33, 34, 35, 36, 37, 38, 39, 40] (by decide +kernel) (by decide +kernel)
set_option maxRecDepth 20000 in
theorem gX1_allShares_X1_isPerson : GoodIn wsX1_allShares (wsV RX1 73 RX1 yX1_isPerson wsX1_isPerson) := goodIn_app (goodIn_of _ (by decide +kernel)) ggX1_allShares_X1_isPerson
set_option maxRecDepth 20000 in
theorem ggX1_allShares_X1_allOf : GoodIn wsX1_allShares wsX1_allOf := goodIn_r _ [14, 15, 16, 17, 18, 5, 19, 20, 21, 22, 23, 28, 29, 30, 31, 32, 33, 34, 35, 36, 37, 38, 39, 40] (by decide +kernel) (by decide +kernel)
set_option maxRecDepth 20000 in
theorem gX1_allShares_X1_allOf : GoodIn wsX1_allShares (wsV RX1 133 RX1 yX1_allOf wsX1_allOf) := goodIn_app (goodIn_of _ (by decide +kernel)) ggX1_allShares_X1_allOf
set_option maxRecDepth 20000 in
theorem ggX1_allShares_X1_no : GoodIn wsX1_allShares wsX1_no := goodIn_r _ [27, 1, 28, 29, 30, 31, 32, 33, 34, 35, 36, 37, 38, 39, 40] (by decide +kernel) (by decide +kernel)
set_option maxRecDepth 20000 in
theorem gX1_allShares_X1_no : GoodIn wsX1_allShares (wsV RX1 66 RX1 yX1_no wsX1_no) := goodIn_app (goodIn_of _ (by decide +kernel)) ggX1_allShares_X1_no
theorem dX1_allShares_0 : decode cX1_allShares 0 = .ok (.aload_n 0, 1) := by decide +kernel
theorem dX1_allShares_1 : decode cX1_allShares 1 = .ok (.iconst 0, 1) := by decide +kernel
theorem dX1_allShares_2 : decode cX1_allShares 2 = .ok (.putfield 35, 3) := by decide +kernel
theorem dX1_allShares_5 : decode cX1_allShares 5 = .ok (.aload_n 0, 1) := by decide +kernel
theorem dX1_allShares_6 : decode cX1_allShares 6 = .ok (.iload_n 1, 1) := by decide +kernel
theorem dX1_allShares_7 : decode cX1_allShares 7 = .ok (.invokevirtual 73, 3) := by decide +kernel
theorem dX1_allShares_10 : decode cX1_allShares 10 = .ok (.ifCond .eq 11, 3) := by decide +kernel
theorem dX1_allShares_13 : decode cX1_allShares 13 = .ok (.aload_n 0, 1) := by decide +kernel
theorem dX1_allShares_14 : decode cX1_allShares 14 = .ok (.iload_n 1, 1) := by decide +kernel
theorem dX1_allShares_15 : decode cX1_allShares 15 = .ok (.invokevirtual 133, 3) := by decide +kernel
theorem dX1_allShares_18 : decode cX1_allShares 18 = .ok (.goto 8, 3) := by decide +kernel
theorem dX1_allShares_21 : decode cX1_allShares 21 = .ok (.aload_n 0, 1) := by decide +kernel
theorem dX1_allShares_22 : decode cX1_allShares 22 = .ok (.iconst 1, 1) := by decide +kernel
theorem dX1_allShares_23 : decode cX1_allShares 23 = .ok (.invokevirtual 66, 3) := by decide +kernel
theorem dX1_allShares_26 : decode cX1_allShares 26 = .ok (.ireturn, 1) := by decide +kernel
set_option maxRecDepth 20000 in
theorem ggX1_hasParent_X1_isPerson : GoodIn wsX1_hasParent wsX1_isPerson := goodIn_r _ [7, 8, 9, 10, 6, 11, 16, 17, 18, 19, 20, 21, 22, 23, 24, 25, 26, 27, 28] (by decide +kernel) (by decide +kernel)
set_option maxRecDepth 20000 in
theorem gX1_hasParent_X1_isPerson : GoodIn wsX1_hasParent (wsV RX1 73 RX1 yX1_isPerson wsX1_isPerson) := goodIn_app (goodIn_of _ (by decide +kernel)) ggX1_hasParent_X1_isPerson
set_option maxRecDepth 20000 in
theorem ggX1_hasParent_X1_isNot : GoodIn wsX1_hasParent wsX1_isNot := goodIn_r _ [15, 1, 16, 17, 18, 19, 20, 21, 22, 23, 24, 25, 26, 27, 28] (by decide +kernel) (by decide +kernel)
set_option maxRecDepth 20000 in
theorem gX1_hasParent_X1_isNot : GoodIn wsX1_hasParent (wsV RX1 126 RX1 yX1_isNot wsX1_isNot) := goodIn_app (goodIn_of _ (by decide +kernel)) ggX1_hasParent_X1_isNot
theorem dX1_hasParent_0 : decode cX1_hasParent 0 = .ok (.aload_n 0, 1) := by decide +kernel
theorem dX1_hasParent_1 : decode cX1_hasParent 1 = .ok (.iconst 0, 1) := by decide +kernel
theorem dX1_hasParent_2 : decode cX1_hasParent 2 = .ok (.putfield 35, 3) := by decide +kernel
theorem dX1_hasParent_5 : decode cX1_hasParent 5 = .ok (.aload_n 0, 1) := by decide +kernel
theorem dX1_hasParent_6 : decode cX1_hasParent 6 = .ok (.iload_n 1, 1) := by decide +kernel
theorem dX1_hasParent_7 : decode cX1_hasParent 7 = .ok (.invokevirtual 73, 3) := by decide +kernel
theorem dX1_hasParent_10 : decode cX1_hasParent 10 = .ok (.ifCond .eq 21, 3) := by decide +kernel
theorem dX1_hasParent_13 : decode cX1_hasParent 13 = .ok (.aload_n 0, 1) := by decide +kernel
theorem dX1_hasParent_14 : decode cX1_hasParent 14 = .ok (.getfield 25, 3) := by decide +kernel
theorem dX1_hasParent_17 : decode cX1_hasParent 17 = .ok (.iload_n 1, 1) := by decide +kernel
theorem dX1_hasParent_18 : decode cX1_hasParent 18 = .ok (.iaload, 1) := by decide +kernel
theorem dX1_hasParent_19 : decode cX1_hasParent 19 = .ok (.iconst (-1), 1) := by decide +kernel
theorem dX1_hasParent_20 : decode cX1_hasParent 20 = .ok (.if_icmp .eq 7, 3) := by decide +kernel
theorem dX1_hasParent_23 : decode cX1_hasParent 23 = .ok (.iconst 1, 1) := by decide +kernel
theorem dX1_hasParent_24 : decode cX1_hasParent 24 = .ok (.goto 12, 3) := by decide +kernel
theorem dX1_hasParent_27 : decode cX1_hasParent 27 = .ok (.iconst 0, 1) := by decide +kernel
theorem dX1_hasParent_28 : decode cX1_hasParent 28 = .ok (.goto 8, 3) := by decide +kernel
theorem dX1_hasParent_31 : decode cX1_hasParent 31 = .ok (.aload_n 0, 1) := by decide +kernel
theorem dX1_hasParent_32 : decode cX1_hasParent 32 = .ok (.iconst 1, 1) := by decide +kernel
theorem dX1_hasParent_33 : decode cX1_hasParent 33 = .ok (.invokevirtual 126, 3) := by decide +kernel
theorem dX1_hasParent_36 : decode cX1_hasParent 36 = .ok (.ireturn, 1) := by decide +kernel
set_option maxRecDepth 20000 in
theorem ggX1_parent_X1_isPerson : GoodIn wsX1_parent wsX1_isPerson := goodIn_r _ [7, 8, 9, 10, 6, 11, 16, 17, 18, 19, 20, 21, 22, 23, 24, 25, 26, 27, 28] (by decide +kernel) (by decide +kernel)
set_option maxRecDepth 20000 in
theorem gX1_parent_X1_isPerson : GoodIn wsX1_parent (wsV RX1 73 RX1 yX1_isPerson wsX1_isPerson) := goodIn_app (goodIn_of _ (by decide +kernel)) ggX1_parent_X1_isPerson
set_option maxRecDepth 20000 in
theorem ggX1_parent_X1_no : GoodIn wsX1_parent wsX1_no := goodIn_r _ [15, 1, 16, 17, 18, 19, 20, 21, 22, 23, 24, 25, 26, 27, 28] (by decide +kernel) (by decide +kernel)
set_option maxRecDepth 20000 in
theorem gX1_parent_X1_no : GoodIn wsX1_parent (wsV RX1 66 RX1 yX1_no wsX1_no) := goodIn_app (goodIn_of _ (by decide +kernel)) ggX1_parent_X1_no
theorem dX1_parent_0 : decode cX1_parent 0 = .ok (.aload_n 0, 1) := by decide +kernel
theorem dX1_parent_1 : decode cX1_parent 1 = .ok (.iconst 0, 1) := by decide +kernel
theorem dX1_parent_2 : decode cX1_parent 2 = .ok (.putfield 35, 3) := by decide +kernel
theorem dX1_parent_5 : decode cX1_parent 5 = .ok (.aload_n 0, 1) := by decide +kernel
theorem dX1_parent_6 : decode cX1_parent 6 = .ok (.iload_n 1, 1) := by decide +kernel
theorem dX1_parent_7 : decode cX1_parent 7 = .ok (.invokevirtual 73, 3) := by decide +kernel
theorem dX1_parent_10 : decode cX1_parent 10 = .ok (.ifCond .ne 9, 3) := by decide +kernel
theorem dX1_parent_13 : decode cX1_parent 13 = .ok (.aload_n 0, 1) := by decide +kernel
theorem dX1_parent_14 : decode cX1_parent 14 = .ok (.iconst 1, 1) := by decide +kernel
theorem dX1_parent_15 : decode cX1_parent 15 = .ok (.invokevirtual 66, 3) := by decide +kernel
theorem dX1_parent_18 : decode cX1_parent 18 = .ok (.ireturn, 1) := by decide +kernel
theorem dX1_parent_19 : decode cX1_parent 19 = .ok (.aload_n 0, 1) := by decide +kernel
theorem dX1_parent_20 : decode cX1_parent 20 = .ok (.getfield 25, 3) := by decide +kernel
theorem dX1_parent_23 : decode cX1_parent 23 = .ok (.iload_n 1, 1) := by decide +kernel
theorem dX1_parent_24 : decode cX1_parent 24 = .ok (.iaload, 1) := by decide +kernel
theorem dX1_parent_25 : decode cX1_parent 25 = .ok (.iconst (-1), 1) := by decide +kernel
theorem dX1_parent_26 : decode cX1_parent 26 = .ok (.if_icmp .ne 11, 3) := by decide +kernel
theorem dX1_parent_29 : decode cX1_parent 29 = .ok (.aload_n 0, 1) := by decide +kernel
theorem dX1_parent_30 : decode cX1_parent 30 = .ok (.iconst 2, 1) := by decide +kernel
theorem dX1_parent_31 : decode cX1_parent 31 = .ok (.invokevirtual 66, 3) := by decide +kernel
theorem dX1_parent_34 : decode cX1_parent 34 = .ok (.goto 9, 3) := by decide +kernel
theorem dX1_parent_37 : decode cX1_parent 37 = .ok (.aload_n 0, 1) := by decide +kernel
theorem dX1_parent_38 : decode cX1_parent 38 = .ok (.getfield 25, 3) := by decide +kernel
theorem dX1_parent_41 : decode cX1_parent 41 = .ok (.iload_n 1, 1) := by decide +kernel
theorem dX1_parent_42 : decode cX1_parent 42 = .ok (.iaload, 1) := by decide +kernel
theorem dX1_parent_43 : decode cX1_parent 43 = .ok (.ireturn, 1) := by decide +kernel
theorem dX1_childrenOf_0 : decode cX1_childrenOf 0 = .ok (.iconst 0, 1) := by decide +kernel
theorem dX1_childrenOf_1 : decode cX1_childrenOf 1 = .ok (.istore_n 2, 1) := by decide +kernel
theorem dX1_childrenOf_2 : decode cX1_childrenOf 2 = .ok (.iconst 0, 1) := by decide +kernel
theorem dX1_childrenOf_3 : decode cX1_childrenOf 3 = .ok (.istore_n 3, 1) := by decide +kernel
theorem dX1_childrenOf_4 : decode cX1_childrenOf 4 = .ok (.iload_n 3, 1) := by decide +kernel
theorem dX1_childrenOf_5 : decode cX1_childrenOf 5 = .ok (.aload_n 0, 1) := by decide +kernel
theorem dX1_childrenOf_6 : decode cX1_childrenOf 6 = .ok (.getfield 50, 3) := by decide +kernel
theorem dX1_childrenOf_9 : decode cX1_childrenOf 9 = .ok (.if_icmp .ge 27, 3) := by decide +kernel
theorem dX1_childrenOf_12 : decode cX1_childrenOf 12 = .ok (.iload_n 2, 1) := by decide +kernel
theorem dX1_childrenOf_13 : decode cX1_childrenOf 13 = .ok (.aload_n 0, 1) := by decide +kernel
theorem dX1_childrenOf_14 : decode cX1_childrenOf 14 = .ok (.getfield 25, 3) := by decide +kernel
theorem dX1_childrenOf_17 : decode cX1_childrenOf 17 = .ok (.iload_n 3, 1) := by decide +kernel
theorem dX1_childrenOf_18 : decode cX1_childrenOf 18 = .ok (.iaload, 1) := by decide +kernel
theorem dX1_childrenOf_19 : decode cX1_childrenOf 19 = .ok (.iload_n 1, 1) := by decide +kernel
theorem dX1_childrenOf_20 : decode cX1_childrenOf 20 = .ok (.if_icmp .ne 7, 3) := by decide +kernel
theorem dX1_childrenOf_23 : decode cX1_childrenOf 23 = .ok (.iconst 1, 1) := by decide +kernel
theorem dX1_childrenOf_24 : decode cX1_childrenOf 24 = .ok (.goto 4, 3) := by decide +kernel
theorem dX1_childrenOf_27 : decode cX1_childrenOf 27 = .ok (.iconst 0, 1) := by decide +kernel
theorem dX1_childrenOf_28 : decode cX1_childrenOf 28 = .ok (.iadd, 1) := by decide +kernel
theorem dX1_childrenOf_29 : decode cX1_childrenOf 29 = .ok (.istore_n 2, 1) := by decide +kernel
theorem dX1_childrenOf_30 : decode cX1_childrenOf 30 = .ok (.iinc 3 1, 3) := by decide +kernel
theorem dX1_childrenOf_33 : decode cX1_childrenOf 33 = .ok (.goto (-29), 3) := by decide +kernel
theorem dX1_childrenOf_36 : decode cX1_childrenOf 36 = .ok (.iload_n 2, 1) := by decide +kernel
theorem dX1_childrenOf_37 : decode cX1_childrenOf 37 = .ok (.ireturn, 1) := by decide +kernel
set_option maxRecDepth 20000 in
theorem ggX1_children_X1_isPerson : GoodIn wsX1_children wsX1_isPerson := goodIn_r _ [6, 7, 8, 9, 5, 10, 20, 21, 22, 23, 24, 25, 26, 27, 28, 29, 30, 31, 32] (by decide +kernel) (by decide +kernel)
set_option maxRecDepth 20000 in
theorem gX1_children_X1_isPerson : GoodIn wsX1_children (wsV RX1 73 RX1 yX1_isPerson wsX1_isPerson) := goodIn_app (goodIn_of _ (by decide +kernel)) ggX1_children_X1_isPerson
set_option maxRecDepth 20000 in
theorem ggX1_children_X1_childrenOf : GoodIn wsX1_children wsX1_childrenOf := goodIn_r _ [14, 7, 15, 20, 21, 22, 23, 24, 25, 26, 27, 28, 29, 30, 31, 32] (by decide +kernel) (by decide +kernel)
set_option maxRecDepth 20000 in
theorem gX1_children_X1_childrenOf : GoodIn wsX1_children (wsV RX1 136 RX1 yX1_childrenOf wsX1_childrenOf) := goodIn_app (goodIn_of _ (by decide +kernel)) ggX1_children_X1_childrenOf
set_option maxRecDepth 20000 in
theorem ggX1_children_X1_no : GoodIn wsX1_children wsX1_no := goodIn_r _ [19, 1, 20, 21, 22, 23, 24, 25, 26, 27, 28, 29, 30, 31, 32] (by decide +kernel) (by decide +kernel)
set_option maxRecDepth 20000 in
theorem gX1_children_X1_no : GoodIn wsX1_children (wsV RX1 66 RX1 yX1_no wsX1_no) := goodIn_app (goodIn_of _ (by decide +kernel)) ggX1_children_X1_no
theorem dX1_children_0 : decode cX1_children 0 = .ok (.aload_n 0, 1) := by decide +kernel
theorem dX1_children_1 : decode cX1_children 1 = .ok (.iconst 0, 1) := by decide +kernel
theorem dX1_children_2 : decode cX1_children 2 = .ok (.putfield 35, 3) := by decide +kernel
theorem dX1_children_5 : decode cX1_children 5 = .ok (.aload_n 0, 1) := by decide +kernel
theorem dX1_children_6 : decode cX1_children 6 = .ok (.iload_n 1, 1) := by decide +kernel
theorem dX1_children_7 : decode cX1_children 7 = .ok (.invokevirtual 73, 3) := by decide +kernel
theorem dX1_children_10 : decode cX1_children 10 = .ok (.ifCond .eq 11, 3) := by decide +kernel
theorem dX1_children_13 : decode cX1_children 13 = .ok (.aload_n 0, 1) := by decide +kernel
theorem dX1_children_14 : decode cX1_children 14 = .ok (.iload_n 1, 1) := by decide +kernel
theorem dX1_children_15 : decode cX1_children 15 = .ok (.invokevirtual 136, 3) := by decide +kernel
theorem dX1_children_18 : decode cX1_children 18 = .ok (.goto 8, 3) := by decide +kernel
theorem dX1_children_21 : decode cX1_children 21 = .ok (.aload_n 0, 1) := by decide +kernel
theorem dX1_children_22 : decode cX1_children 22 = .ok (.iconst 1, 1) := by decide +kernel
theorem dX1_children_23 : decode cX1_children 23 = .ok (.invokevirtual 66, 3) := by decide +kernel
theorem dX1_children_26 : decode cX1_children 26 = .ok (.ireturn, 1) := by decide +kernel
set_option maxRecDepth 20000 in
theorem ggX1_heirsOf_X1_lookForHeirs : GoodIn wsX1_heirsOf wsX1_lookForHeirs := goodIn_r _ [6, 1, 7, 8, 9, 10, 11, 12, 5, 13, 14, 15, 16, 17, 18, 19, 20, 21, 22, 23, 24, 25, 26, 27] (by decide +kernel) (by decide +kernel)
set_option maxRecDepth 20000 in
theorem gX1_heirsOf_X1_lookForHeirs : GoodIn wsX1_heirsOf (wsV RX1 120 RX1 yX1_lookForHeirs wsX1_lookForHeirs) := goodIn_app (goodIn_of _ (by decide +kernel)) ggX1_heirsOf_X1_lookForHeirs
theorem dX1_heirsOf_0 : decode cX1_heirsOf 0 = .ok (.aload_n 0, 1) := by decide +kernel
theorem dX1_heirsOf_1 : decode cX1_heirsOf 1 = .ok (.iload_n 1, 1) := by decide +kernel
theorem dX1_heirsOf_2 : decode cX1_heirsOf 2 = .ok (.invokevirtual 120, 3) := by decide +kernel
theorem dX1_heirsOf_5 : decode cX1_heirsOf 5 = .ok (.aload_n 0, 1) := by decide +kernel
theorem dX1_heirsOf_6 : decode cX1_heirsOf 6 = .ok (.getfield 113, 3) := by decide +kernel
theorem dX1_heirsOf_9 : decode cX1_heirsOf 9 = .ok (.ireturn, 1) := by decide +kernel
set_option maxRecDepth 20000 in
theorem ggX1_heirs_X1_isPerson : GoodIn wsX1_heirs wsX1_isPerson := goodIn_r _ [6, 7, 8, 9, 5, 10, 31, 32, 33, 34, 35, 36, 37, 38, 39, 40, 41, 42, 43] (by decide +kernel) (by decide +kernel)
set_option maxRecDepth 20000 in
theorem gX1_heirs_X1_isPerson : GoodIn wsX1_heirs (wsV RX1 73 RX1 yX1_isPerson wsX1_isPerson) := goodIn_app (goodIn_of _ (by decide +kernel)) ggX1_heirs_X1_isPerson
set_option maxRecDepth 20000 in
theorem ggX1_heirs_X1_heirsOf : GoodIn wsX1_heirs wsX1_heirsOf := goodIn_r _ [14, 15, 16, 17, 18, 5, 19, 7, 20, 21, 22, 23, 24, 25, 26, 31, 32, 33, 34, 35, 36, 37, 38, 39, 40, 41, 42, 43] (by decide +kernel) (by decide +kernel)
set_option maxRecDepth 20000 in
theorem gX1_heirs_X1_heirsOf : GoodIn wsX1_heirs (wsV RX1 139 RX1 yX1_heirsOf wsX1_heirsOf) := goodIn_app (goodIn_of _ (by decide +kernel)) ggX1_heirs_X1_heirsOf
set_option maxRecDepth 20000 in
theorem ggX1_heirs_X1_no : GoodIn wsX1_heirs wsX1_no := goodIn_r _ [30, 1, 31, 32, 33, 34, 35, 36, 37, 38, 39, 40, 41, 42, 43] (by decide +kernel) (by decide +kernel)
set_option maxRecDepth 20000 in
theorem gX1_heirs_X1_no : GoodIn wsX1_heirs (wsV RX1 66 RX1 yX1_no wsX1_no) := goodIn_app (goodIn_of _ (by decide +kernel)) ggX1_heirs_X1_no
theorem dX1_heirs_0 : decode cX1_heirs 0 = .ok (.aload_n 0, 1) := by decide +kernel
theorem dX1_heirs_1 : decode cX1_heirs 1 = .ok (.iconst 0, 1) := by decide +kernel
theorem dX1_heirs_2 : decode cX1_heirs 2 = .ok (.putfield 35, 3) := by decide +kernel
theorem dX1_heirs_5 : decode cX1_heirs 5 = .ok (.aload_n 0, 1) := by decide +kernel
theorem dX1_heirs_6 : decode cX1_heirs 6 = .ok (.iload_n 1, 1) := by decide +kernel
theorem dX1_heirs_7 : decode cX1_heirs 7 = .ok (.invokevirtual 73, 3) := by decide +kernel
theorem dX1_heirs_10 : decode cX1_heirs 10 = .ok (.ifCond .eq 11, 3) := by decide +kernel
theorem dX1_heirs_13 : decode cX1_heirs 13 = .ok (.aload_n 0, 1) := by decide +kernel
theorem dX1_heirs_14 : decode cX1_heirs 14 = .ok (.iload_n 1, 1) := by decide +kernel
theorem dX1_heirs_15 : decode cX1_heirs 15 = .ok (.invokevirtual 139, 3) := by decide +kernel
theorem dX1_heirs_18 : decode cX1_heirs 18 = .ok (.goto 8, 3) := by decide +kernel
theorem dX1_heirs_21 : decode cX1_heirs 21 = .ok (.aload_n 0, 1) := by decide +kernel
theorem dX1_heirs_22 : decode cX1_heirs 22 = .ok (.iconst 1, 1) := by decide +kernel
theorem dX1_heirs_23 : decode cX1_heirs 23 = .ok (.invokevirtual 66, 3) := by decide +kernel
theorem dX1_heirs_26 : decode cX1_heirs 26 = .ok (.ireturn, 1) := by decide +kernel
set_option maxRecDepth 20000 in
theorem ggX1_heir_X1_isPerson : GoodIn wsX1_heir wsX1_isPerson := goodIn_r _ [7, 8, 9, 10, 6, 11, 31, 32, 33, 34, 35, 36, 37, 38, 39, 40, 41, 42, 43] (by decide +kernel) (by decide +kernel)
set_option maxRecDepth 20000 in
theorem gX1_heir_X1_isPerson : GoodIn wsX1_heir (wsV RX1 73 RX1 yX1_isPerson wsX1_isPerson) := goodIn_app (goodIn_of _ (by decide +kernel)) ggX1_heir_X1_isPerson
set_option maxRecDepth 20000 in
theorem ggX1_heir_X1_heirsOf : GoodIn wsX1_heir wsX1_heirsOf := goodIn_r _ [15, 16, 17, 18, 19, 6, 20, 8, 21, 22, 23, 24, 25, 26, 2, 31, 32, 33, 34, 35, 36, 37, 38, 39, 40, 41, 42, 43] (by decide +kernel) (by decide +kernel)
set_option maxRecDepth 20000 in
theorem gX1_heir_X1_heirsOf : GoodIn wsX1_heir (wsV RX1 139 RX1 yX1_heirsOf wsX1_heirsOf) := goodIn_app (goodIn_of _ (by decide +kernel)) ggX1_heir_X1_heirsOf
set_option maxRecDepth 20000 in
theorem ggX1_heir_X1_isIn : GoodIn wsX1_heir wsX1_isIn := goodIn_r _ [11] (by decide +kernel) (by decide +kernel)
set_option maxRecDepth 20000 in
theorem gX1_heir_X1_isIn : GoodIn wsX1_heir (va_wsS RX1 42 yX1_isIn wsX1_isIn) := goodIn_app (goodIn_of _ (by decide +kernel)) ggX1_heir_X1_isIn
set_option maxRecDepth 20000 in
theorem ggX1_heir_X1_no : GoodIn wsX1_heir wsX1_no := goodIn_r _ [30, 1, 31, 32, 33, 34, 35, 36, 37, 38, 39, 40, 41, 42, 43] (by decide +kernel) (by decide +kernel)
set_option maxRecDepth 20000 in
theorem gX1_heir_X1_no : GoodIn wsX1_heir (wsV RX1 66 RX1 yX1_no wsX1_no) := goodIn_app (goodIn_of _ (by decide +kernel)) ggX1_heir_X1_no
theorem dX1_heir_0 : decode cX1_heir 0 = .ok (.aload_n 0, 1) := by decide +kernel
theorem dX1_heir_1 : decode cX1_heir 1 = .ok (.iconst 0, 1) := by decide +kernel
theorem dX1_heir_2 : decode cX1_heir 2 = .ok (.putfield 35, 3) := by decide +kernel
theorem dX1_heir_5 : decode cX1_heir 5 = .ok (.aload_n 0, 1) := by decide +kernel
theorem dX1_heir_6 : decode cX1_heir 6 = .ok (.iload_n 1, 1) := by decide +kernel
theorem dX1_heir_7 : decode cX1_heir 7 = .ok (.invokevirtual 73, 3) := by decide +kernel
theorem dX1_heir_10 : decode cX1_heir 10 = .ok (.ifCond .eq 27, 3) := by decide +kernel
theorem dX1_heir_13 : decode cX1_heir 13 = .ok (.iload_n 2, 1) := by decide +kernel
theorem dX1_heir_14 : decode cX1_heir 14 = .ok (.iconst 0, 1) := by decide +kernel
theorem dX1_heir_15 : decode cX1_heir 15 = .ok (.aload_n 0, 1) := by decide +kernel
theorem dX1_heir_16 : decode cX1_heir 16 = .ok (.iload_n 1, 1) := by decide +kernel
theorem dX1_heir_17 : decode cX1_heir 17 = .ok (.invokevirtual 139, 3) := by decide +kernel
theorem dX1_heir_20 : decode cX1_heir 20 = .ok (.iconst 1, 1) := by decide +kernel
theorem dX1_heir_21 : decode cX1_heir 21 = .ok (.isub, 1) := by decide +kernel
theorem dX1_heir_22 : decode cX1_heir 22 = .ok (.invokestatic 42, 3) := by decide +kernel
theorem dX1_heir_25 : decode cX1_heir 25 = .ok (.ifCond .eq 12, 3) := by decide +kernel
theorem dX1_heir_28 : decode cX1_heir 28 = .ok (.aload_n 0, 1) := by decide +kernel
theorem dX1_heir_29 : decode cX1_heir 29 = .ok (.getfield 32, 3) := by decide +kernel
theorem dX1_heir_32 : decode cX1_heir 32 = .ok (.iload_n 2, 1) := by decide +kernel
theorem dX1_heir_33 : decode cX1_heir 33 = .ok (.iaload, 1) := by decide +kernel
theorem dX1_heir_34 : decode cX1_heir 34 = .ok (.goto 8, 3) := by decide +kernel
theorem dX1_heir_37 : decode cX1_heir 37 = .ok (.aload_n 0, 1) := by decide +kernel
theorem dX1_heir_38 : decode cX1_heir 38 = .ok (.iconst 1, 1) := by decide +kernel
theorem dX1_heir_39 : decode cX1_heir 39 = .ok (.invokevirtual 66, 3) := by decide +kernel
theorem dX1_heir_42 : decode cX1_heir 42 = .ok (.ireturn, 1) := by decide +kernel
theorem dX1_crownCoins_0 : decode cX1_crownCoins 0 = .ok (.aload_n 0, 1) := by decide +kernel
theorem dX1_crownCoins_1 : decode cX1_crownCoins 1 = .ok (.iconst 0, 1) := by decide +kernel
theorem dX1_crownCoins_2 : decode cX1_crownCoins 2 = .ok (.putfield 35, 3) := by decide +kernel
theorem dX1_crownCoins_5 : decode cX1_crownCoins 5 = .ok (.aload_n 0, 1) := by decide +kernel
theorem dX1_crownCoins_6 : decode cX1_crownCoins 6 = .ok (.getfield 110, 3) := by decide +kernel
theorem dX1_crownCoins_9 : decode cX1_crownCoins 9 = .ok (.ireturn, 1) := by decide +kernel
set_option maxRecDepth 20000 in
theorem ggX1_price_X1_isPerson : GoodIn wsX1_price wsX1_isPerson := goodIn_r _ [6, 7, 8, 9, 5, 10, 38, 39, 40, 41, 42, 43, 44, 45, 46, 47, 48, 49, 50] (by decide +kernel) (by decide +kernel)
set_option maxRecDepth 20000 in
theorem gX1_price_X1_isPerson : GoodIn wsX1_price (wsV RX1 73 RX1 yX1_isPerson wsX1_isPerson) := goodIn_app (goodIn_of _ (by decide +kernel)) ggX1_price_X1_isPerson
set_option maxRecDepth 20000 in
theorem ggX1_price_X1_isWatch : GoodIn wsX1_price wsX1_isWatch := goodIn_r _ [14, 15, 16, 17, 5, 18, 19, 8, 9, 10, 38, 39, 40, 41, 42, 43, 44, 45, 46, 47, 48, 49, 50] (by decide +kernel) (by decide +kernel)
set_option maxRecDepth 20000 in
theorem gX1_price_X1_isWatch : GoodIn wsX1_price (wsV RX1 80 RX1 yX1_isWatch wsX1_isWatch) := goodIn_app (goodIn_of _ (by decide +kernel)) ggX1_price_X1_isWatch
set_option maxRecDepth 20000 in
theorem ggX1_price_X1_priceOf : GoodIn wsX1_price wsX1_priceOf := goodIn_r _ [23, 24, 25, 26, 5, 27, 28, 29, 30, 31, 32, 33, 38, 39, 40, 41, 42, 43, 44, 45, 46, 47, 48, 49, 50] (by decide +kernel) (by decide +kernel)
set_option maxRecDepth 20000 in
theorem gX1_price_X1_priceOf : GoodIn wsX1_price (wsV RX1 90 RX1 yX1_priceOf wsX1_priceOf) := goodIn_app (goodIn_of _ (by decide +kernel)) ggX1_price_X1_priceOf
set_option maxRecDepth 20000 in
theorem ggX1_price_X1_no : GoodIn wsX1_price wsX1_no := goodIn_r _ [37, 1, 38, 39, 40, 41, 42, 43, 44, 45, 46, 47, 48, 49, 50] (by decide +kernel) (by decide +kernel)
set_option maxRecDepth 20000 in
theorem gX1_price_X1_no : GoodIn wsX1_price (wsV RX1 66 RX1 yX1_no wsX1_no) := goodIn_app (goodIn_of _ (by decide +kernel)) ggX1_price_X1_no
theorem dX1_price_0 : decode cX1_price 0 = .ok (.aload_n 0, 1) := by decide +kernel
theorem dX1_price_1 : decode cX1_price 1 = .ok (.iconst 0, 1) := by decide +kernel
theorem dX1_price_2 : decode cX1_price 2 = .ok (.putfield 35, 3) := by decide +kernel
theorem dX1_price_5 : decode cX1_price 5 = .ok (.aload_n 0, 1) := by decide +kernel
theorem dX1_price_6 : decode cX1_price 6 = .ok (.iload_n 1, 1) := by decide +kernel
theorem dX1_price_7 : decode cX1_price 7 = .ok (.invokevirtual 73, 3) := by decide +kernel
theorem dX1_price_10 : decode cX1_price 10 = .ok (.ifCond .eq 22, 3) := by decide +kernel
theorem dX1_price_13 : decode cX1_price 13 = .ok (.aload_n 0, 1) := by decide +kernel
theorem dX1_price_14 : decode cX1_price 14 = .ok (.iload_n 2, 1) := by decide +kernel
theorem dX1_price_15 : decode cX1_price 15 = .ok (.iload_n 3, 1) := by decide +kernel
theorem dX1_price_16 : decode cX1_price 16 = .ok (.invokevirtual 80, 3) := by decide +kernel
theorem dX1_price_19 : decode cX1_price 19 = .ok (.ifCond .eq 13, 3) := by decide +kernel
theorem dX1_price_22 : decode cX1_price 22 = .ok (.aload_n 0, 1) := by decide +kernel
theorem dX1_price_23 : decode cX1_price 23 = .ok (.iload_n 1, 1) := by decide +kernel
theorem dX1_price_24 : decode cX1_price 24 = .ok (.iload_n 2, 1) := by decide +kernel
theorem dX1_price_25 : decode cX1_price 25 = .ok (.iload_n 3, 1) := by decide +kernel
theorem dX1_price_26 : decode cX1_price 26 = .ok (.invokevirtual 90, 3) := by decide +kernel
theorem dX1_price_29 : decode cX1_price 29 = .ok (.goto 8, 3) := by decide +kernel
theorem dX1_price_32 : decode cX1_price 32 = .ok (.aload_n 0, 1) := by decide +kernel
theorem dX1_price_33 : decode cX1_price 33 = .ok (.iconst 1, 1) := by decide +kernel
theorem dX1_price_34 : decode cX1_price 34 = .ok (.invokevirtual 66, 3) := by decide +kernel
theorem dX1_price_37 : decode cX1_price 37 = .ok (.ireturn, 1) := by decide +kernel
set_option maxRecDepth 20000 in
theorem ggX1_canBuy_X1_isPerson : GoodIn wsX1_canBuy wsX1_isPerson := goodIn_r _ [6, 7, 8, 9, 5, 10, 48, 49, 50, 51, 52, 53, 54, 55, 56, 57, 58, 59, 60] (by decide +kernel) (by decide +kernel)
set_option maxRecDepth 20000 in
theorem gX1_canBuy_X1_isPerson : GoodIn wsX1_canBuy (wsV RX1 73 RX1 yX1_isPerson wsX1_isPerson) := goodIn_app (goodIn_of _ (by decide +kernel)) ggX1_canBuy_X1_isPerson
set_option maxRecDepth 20000 in
theorem ggX1_canBuy_X1_isWatch : GoodIn wsX1_canBuy wsX1_isWatch := goodIn_r _ [14, 15, 16, 17, 5, 18, 19, 8, 9, 10, 48, 49, 50, 51, 52, 53, 54, 55, 56, 57, 58, 59, 60] (by decide +kernel) (by decide +kernel)
set_option maxRecDepth 20000 in
theorem gX1_canBuy_X1_isWatch : GoodIn wsX1_canBuy (wsV RX1 80 RX1 yX1_isWatch wsX1_isWatch) := goodIn_app (goodIn_of _ (by decide +kernel)) ggX1_canBuy_X1_isWatch
set_option maxRecDepth 20000 in
theorem ggX1_canBuy_X1_buys : GoodIn wsX1_canBuy wsX1_buys := goodIn_r _ [23, 24, 25, 26, 27, 28, 29, 5, 30, 31, 32, 33, 34, 35, 36, 37, 38, 39, 40, 41, 42, 43, 7, 48, 49, 50, 51, 52, 53, 54, 55, 56, 57, 58, 59, 60] (by decide +kernel) (by decide +kernel)
set_option maxRecDepth 20000 in
theorem gX1_canBuy_X1_buys : GoodIn wsX1_canBuy (wsV RX1 97 RX1 yX1_buys wsX1_buys) := goodIn_app (goodIn_of _ (by decide +kernel)) ggX1_canBuy_X1_buys
set_option maxRecDepth 20000 in
theorem ggX1_canBuy_X1_isNot : GoodIn wsX1_canBuy wsX1_isNot := goodIn_r _ [47, 1, 48, 49, 50, 51, 52, 53, 54, 55, 56, 57, 58, 59, 60] (by decide +kernel) (by decide +kernel)
set_option maxRecDepth 20000 in
theorem gX1_canBuy_X1_isNot : GoodIn wsX1_canBuy (wsV RX1 126 RX1 yX1_isNot wsX1_isNot) := goodIn_app (goodIn_of _ (by decide +kernel)) ggX1_canBuy_X1_isNot
theorem dX1_canBuy_0 : decode cX1_canBuy 0 = .ok (.aload_n 0, 1) := by decide +kernel
theorem dX1_canBuy_1 : decode cX1_canBuy 1 = .ok (.iconst 0, 1) := by decide +kernel
theorem dX1_canBuy_2 : decode cX1_canBuy 2 = .ok (.putfield 35, 3) := by decide +kernel
theorem dX1_canBuy_5 : decode cX1_canBuy 5 = .ok (.aload_n 0, 1) := by decide +kernel
theorem dX1_canBuy_6 : decode cX1_canBuy 6 = .ok (.iload_n 1, 1) := by decide +kernel
theorem dX1_canBuy_7 : decode cX1_canBuy 7 = .ok (.invokevirtual 73, 3) := by decide +kernel
theorem dX1_canBuy_10 : decode cX1_canBuy 10 = .ok (.ifCond .eq 33, 3) := by decide +kernel
theorem dX1_canBuy_13 : decode cX1_canBuy 13 = .ok (.aload_n 0, 1) := by decide +kernel
theorem dX1_canBuy_14 : decode cX1_canBuy 14 = .ok (.iload_n 2, 1) := by decide +kernel
theorem dX1_canBuy_15 : decode cX1_canBuy 15 = .ok (.invokevirtual 73, 3) := by decide +kernel
theorem dX1_canBuy_18 : decode cX1_canBuy 18 = .ok (.ifCond .eq 25, 3) := by decide +kernel
theorem dX1_canBuy_21 : decode cX1_canBuy 21 = .ok (.aload_n 0, 1) := by decide +kernel
theorem dX1_canBuy_22 : decode cX1_canBuy 22 = .ok (.iload_n 3, 1) := by decide +kernel
theorem dX1_canBuy_23 : decode cX1_canBuy 23 = .ok (.iload 4, 2) := by decide +kernel
theorem dX1_canBuy_25 : decode cX1_canBuy 25 = .ok (.invokevirtual 80, 3) := by decide +kernel
theorem dX1_canBuy_28 : decode cX1_canBuy 28 = .ok (.ifCond .eq 15, 3) := by decide +kernel
theorem dX1_canBuy_31 : decode cX1_canBuy 31 = .ok (.aload_n 0, 1) := by decide +kernel
theorem dX1_canBuy_32 : decode cX1_canBuy 32 = .ok (.iload_n 1, 1) := by decide +kernel
theorem dX1_canBuy_33 : decode cX1_canBuy 33 = .ok (.iload_n 2, 1) := by decide +kernel
theorem dX1_canBuy_34 : decode cX1_canBuy 34 = .ok (.iload_n 3, 1) := by decide +kernel
theorem dX1_canBuy_35 : decode cX1_canBuy 35 = .ok (.iload 4, 2) := by decide +kernel
theorem dX1_canBuy_37 : decode cX1_canBuy 37 = .ok (.invokevirtual 97, 3) := by decide +kernel
theorem dX1_canBuy_40 : decode cX1_canBuy 40 = .ok (.goto 8, 3) := by decide +kernel
theorem dX1_canBuy_43 : decode cX1_canBuy 43 = .ok (.aload_n 0, 1) := by decide +kernel
theorem dX1_canBuy_44 : decode cX1_canBuy 44 = .ok (.iconst 1, 1) := by decide +kernel
theorem dX1_canBuy_45 : decode cX1_canBuy 45 = .ok (.invokevirtual 126, 3) := by decide +kernel
theorem dX1_canBuy_48 : decode cX1_canBuy 48 = .ok (.ireturn, 1) := by decide +kernel
set_option maxRecDepth 20000 in
theorem ggX1_inheritance_X1_isPerson : GoodIn wsX1_inheritance wsX1_isPerson := goodIn_r _ [9, 10, 11, 12, 8, 13, 44, 45, 46, 47, 48, 49, 50, 51, 52, 53, 54, 55, 56] (by decide +kernel) (by decide +kernel)
set_option maxRecDepth 20000 in
theorem gX1_inheritance_X1_isPerson : GoodIn wsX1_inheritance (wsV RX1 73 RX1 yX1_isPerson wsX1_isPerson) := goodIn_app (goodIn_of _ (by decide +kernel)) ggX1_inheritance_X1_isPerson
set_option maxRecDepth 20000 in
theorem ggX1_inheritance_X1_isWatch : GoodIn wsX1_inheritance wsX1_isWatch := goodIn_r _ [17, 18, 19, 20, 8, 21, 22, 11, 12, 13, 44, 45, 46, 47, 48, 49, 50, 51, 52, 53, 54, 55, 56] (by decide +kernel) (by decide +kernel)
set_option maxRecDepth 20000 in
theorem gX1_inheritance_X1_isWatch : GoodIn wsX1_inheritance (wsV RX1 80 RX1 yX1_isWatch wsX1_isWatch) := goodIn_app (goodIn_of _ (by decide +kernel)) ggX1_inheritance_X1_isWatch
set_option maxRecDepth 20000 in
theorem ggX1_inheritance_X1_no : GoodIn wsX1_inheritance wsX1_no := goodIn_r _ [26, 1, 44, 45, 46, 47, 48, 49, 50, 51, 52, 53, 54, 55, 56] (by decide +kernel) (by decide +kernel)
set_option maxRecDepth 20000 in
theorem gX1_inheritance_X1_no : GoodIn wsX1_inheritance (wsV RX1 66 RX1 yX1_no wsX1_no) := goodIn_app (goodIn_of _ (by decide +kernel)) ggX1_inheritance_X1_no
set_option maxRecDepth 20000 in
theorem ggX1_inheritance_X1_lookForHeirs : GoodIn wsX1_inheritance wsX1_lookForHeirs := goodIn_r _ [30, 2, 10, 31, 32, 33, 34, 35, 8, 36, 3, 44, 45, 46, 47, 48, 49, 50, 51, 52, 53, 54, 55, 56] (by decide +kernel) (by decide +kernel)
set_option maxRecDepth 20000 in
theorem gX1_inheritance_X1_lookForHeirs : GoodIn wsX1_inheritance (wsV RX1 120 RX1 yX1_lookForHeirs wsX1_lookForHeirs) := goodIn_app (goodIn_of _ (by decide +kernel)) ggX1_inheritance_X1_lookForHeirs
set_option maxRecDepth 20000 in
theorem ggX1_inheritance_X1_at : GoodIn wsX1_inheritance wsX1_at := goodIn_r _ [39] (by decide +kernel) (by decide +kernel)
set_option maxRecDepth 20000 in
theorem gX1_inheritance_X1_at : GoodIn wsX1_inheritance (va_wsS RX1 53 yX1_at wsX1_at) := goodIn_app (goodIn_of _ (by decide +kernel)) ggX1_inheritance_X1_at
set_option maxRecDepth 20000 in
theorem ggX1_inheritance_X1_partOf : GoodIn wsX1_inheritance wsX1_partOf := goodIn_r _ [43, 2, 44, 45, 46, 47, 48, 49, 50, 51, 52, 53, 54, 55, 56] (by decide +kernel) (by decide +kernel)
set_option maxRecDepth 20000 in
theorem gX1_inheritance_X1_partOf : GoodIn wsX1_inheritance (wsV RX1 123 RX1 yX1_partOf wsX1_partOf) := goodIn_app (goodIn_of _ (by decide +kernel)) ggX1_inheritance_X1_partOf
theorem dX1_inheritance_0 : decode cX1_inheritance 0 = .ok (.aload_n 0, 1) := by decide +kernel
theorem dX1_inheritance_1 : decode cX1_inheritance 1 = .ok (.iconst 0, 1) := by decide +kernel
theorem dX1_inheritance_2 : decode cX1_inheritance 2 = .ok (.putfield 35, 3) := by decide +kernel
theorem dX1_inheritance_5 : decode cX1_inheritance 5 = .ok (.aload_n 0, 1) := by decide +kernel
theorem dX1_inheritance_6 : decode cX1_inheritance 6 = .ok (.iload_n 1, 1) := by decide +kernel
theorem dX1_inheritance_7 : decode cX1_inheritance 7 = .ok (.invokevirtual 73, 3) := by decide +kernel
theorem dX1_inheritance_10 : decode cX1_inheritance 10 = .ok (.ifCond .eq 21, 3) := by decide +kernel
theorem dX1_inheritance_13 : decode cX1_inheritance 13 = .ok (.aload_n 0, 1) := by decide +kernel
theorem dX1_inheritance_14 : decode cX1_inheritance 14 = .ok (.iload_n 2, 1) := by decide +kernel
theorem dX1_inheritance_15 : decode cX1_inheritance 15 = .ok (.invokevirtual 73, 3) := by decide +kernel
theorem dX1_inheritance_18 : decode cX1_inheritance 18 = .ok (.ifCond .eq 13, 3) := by decide +kernel
theorem dX1_inheritance_21 : decode cX1_inheritance 21 = .ok (.aload_n 0, 1) := by decide +kernel
theorem dX1_inheritance_22 : decode cX1_inheritance 22 = .ok (.iload_n 3, 1) := by decide +kernel
theorem dX1_inheritance_23 : decode cX1_inheritance 23 = .ok (.iload 4, 2) := by decide +kernel
theorem dX1_inheritance_25 : decode cX1_inheritance 25 = .ok (.invokevirtual 80, 3) := by decide +kernel
theorem dX1_inheritance_28 : decode cX1_inheritance 28 = .ok (.ifCond .ne 9, 3) := by decide +kernel
theorem dX1_inheritance_31 : decode cX1_inheritance 31 = .ok (.aload_n 0, 1) := by decide +kernel
theorem dX1_inheritance_32 : decode cX1_inheritance 32 = .ok (.iconst 1, 1) := by decide +kernel
theorem dX1_inheritance_33 : decode cX1_inheritance 33 = .ok (.invokevirtual 66, 3) := by decide +kernel
theorem dX1_inheritance_36 : decode cX1_inheritance 36 = .ok (.ireturn, 1) := by decide +kernel
theorem dX1_inheritance_37 : decode cX1_inheritance 37 = .ok (.aload_n 0, 1) := by decide +kernel
theorem dX1_inheritance_38 : decode cX1_inheritance 38 = .ok (.iload_n 1, 1) := by decide +kernel
theorem dX1_inheritance_39 : decode cX1_inheritance 39 = .ok (.invokevirtual 120, 3) := by decide +kernel
theorem dX1_inheritance_42 : decode cX1_inheritance 42 = .ok (.iconst 0, 1) := by decide +kernel
theorem dX1_inheritance_43 : decode cX1_inheritance 43 = .ok (.istore 5, 2) := by decide +kernel
theorem dX1_inheritance_45 : decode cX1_inheritance 45 = .ok (.iload 5, 2) := by decide +kernel
theorem dX1_inheritance_47 : decode cX1_inheritance 47 = .ok (.aload_n 0, 1) := by decide +kernel
theorem dX1_inheritance_48 : decode cX1_inheritance 48 = .ok (.getfield 113, 3) := by decide +kernel
theorem dX1_inheritance_51 : decode cX1_inheritance 51 = .ok (.if_icmp .ge 39, 3) := by decide +kernel
theorem dX1_inheritance_54 : decode cX1_inheritance 54 = .ok (.aload_n 0, 1) := by decide +kernel
theorem dX1_inheritance_55 : decode cX1_inheritance 55 = .ok (.getfield 32, 3) := by decide +kernel
theorem dX1_inheritance_58 : decode cX1_inheritance 58 = .ok (.iload 5, 2) := by decide +kernel
theorem dX1_inheritance_60 : decode cX1_inheritance 60 = .ok (.iaload, 1) := by decide +kernel
theorem dX1_inheritance_61 : decode cX1_inheritance 61 = .ok (.iload_n 2, 1) := by decide +kernel
theorem dX1_inheritance_62 : decode cX1_inheritance 62 = .ok (.if_icmp .ne 22, 3) := by decide +kernel
theorem dX1_inheritance_65 : decode cX1_inheritance 65 = .ok (.aload_n 0, 1) := by decide +kernel
theorem dX1_inheritance_66 : decode cX1_inheritance 66 = .ok (.aload_n 0, 1) := by decide +kernel
theorem dX1_inheritance_67 : decode cX1_inheritance 67 = .ok (.getfield 16, 3) := by decide +kernel
theorem dX1_inheritance_70 : decode cX1_inheritance 70 = .ok (.iload_n 3, 1) := by decide +kernel
theorem dX1_inheritance_71 : decode cX1_inheritance 71 = .ok (.iload 4, 2) := by decide +kernel
theorem dX1_inheritance_73 : decode cX1_inheritance 73 = .ok (.iload_n 1, 1) := by decide +kernel
theorem dX1_inheritance_74 : decode cX1_inheritance 74 = .ok (.invokestatic 53, 3) := by decide +kernel
theorem dX1_inheritance_77 : decode cX1_inheritance 77 = .ok (.iaload, 1) := by decide +kernel
theorem dX1_inheritance_78 : decode cX1_inheritance 78 = .ok (.iload 5, 2) := by decide +kernel
theorem dX1_inheritance_80 : decode cX1_inheritance 80 = .ok (.invokevirtual 123, 3) := by decide +kernel
theorem dX1_inheritance_83 : decode cX1_inheritance 83 = .ok (.ireturn, 1) := by decide +kernel
theorem dX1_inheritance_84 : decode cX1_inheritance 84 = .ok (.iinc 5 1, 3) := by decide +kernel
theorem dX1_inheritance_87 : decode cX1_inheritance 87 = .ok (.goto (-42), 3) := by decide +kernel
theorem dX1_inheritance_90 : decode cX1_inheritance 90 = .ok (.iconst 0, 1) := by decide +kernel
theorem dX1_inheritance_91 : decode cX1_inheritance 91 = .ok (.ireturn, 1) := by decide +kernel
set_option maxRecDepth 20000 in
theorem ggX1_fare_X1_isPerson : GoodIn wsX1_fare wsX1_isPerson := goodIn_r _ [6, 7, 8, 9, 5, 10, 29, 30, 31, 32, 33, 34, 35, 36, 37, 38, 39, 40, 41] (by decide +kernel) (by decide +kernel)
set_option maxRecDepth 20000 in
theorem gX1_fare_X1_isPerson : GoodIn wsX1_fare (wsV RX1 73 RX1 yX1_isPerson wsX1_isPerson) := goodIn_app (goodIn_of _ (by decide +kernel)) ggX1_fare_X1_isPerson
set_option maxRecDepth 20000 in
theorem ggX1_fare_X1_isFerry : GoodIn wsX1_fare wsX1_isFerry := goodIn_r _ [14, 15, 8, 9, 5, 10, 29, 30, 31, 32, 33, 34, 35, 36, 37, 38, 39, 40, 41] (by decide +kernel) (by decide +kernel)
set_option maxRecDepth 20000 in
theorem gX1_fare_X1_isFerry : GoodIn wsX1_fare (wsV RX1 46 RX1 yX1_isFerry wsX1_isFerry) := goodIn_app (goodIn_of _ (by decide +kernel)) ggX1_fare_X1_isFerry
set_option maxRecDepth 20000 in
theorem ggX1_fare_X1_isIn : GoodIn wsX1_fare wsX1_isIn := goodIn_r _ [10] (by decide +kernel) (by decide +kernel)
set_option maxRecDepth 20000 in
theorem gX1_fare_X1_isIn : GoodIn wsX1_fare (va_wsS RX1 42 yX1_isIn wsX1_isIn) := goodIn_app (goodIn_of _ (by decide +kernel)) ggX1_fare_X1_isIn
set_option maxRecDepth 20000 in
theorem ggX1_fare_X1_no : GoodIn wsX1_fare wsX1_no := goodIn_r _ [19, 1, 29, 30, 31, 32, 33, 34, 35, 36, 37, 38, 39, 40, 41] (by decide +kernel) (by decide +kernel)
set_option maxRecDepth 20000 in
theorem gX1_fare_X1_no : GoodIn wsX1_fare (wsV RX1 66 RX1 yX1_no wsX1_no) := goodIn_app (goodIn_of _ (by decide +kernel)) ggX1_fare_X1_no
set_option maxRecDepth 20000 in
theorem ggX1_fare_X1_part : GoodIn wsX1_fare wsX1_part := goodIn_r _ [23, 24, 25, 26, 27, 5, 28, 29, 30, 31, 32, 33, 34, 35, 36, 37, 38, 39, 40, 41] (by decide +kernel) (by decide +kernel)
set_option maxRecDepth 20000 in
theorem gX1_fare_X1_part : GoodIn wsX1_fare (wsV RX1 106 RX1 yX1_part wsX1_part) := goodIn_app (goodIn_of _ (by decide +kernel)) ggX1_fare_X1_part
theorem dX1_fare_0 : decode cX1_fare 0 = .ok (.aload_n 0, 1) := by decide +kernel
theorem dX1_fare_1 : decode cX1_fare 1 = .ok (.iconst 0, 1) := by decide +kernel
theorem dX1_fare_2 : decode cX1_fare 2 = .ok (.putfield 35, 3) := by decide +kernel
theorem dX1_fare_5 : decode cX1_fare 5 = .ok (.aload_n 0, 1) := by decide +kernel
theorem dX1_fare_6 : decode cX1_fare 6 = .ok (.iload_n 1, 1) := by decide +kernel
theorem dX1_fare_7 : decode cX1_fare 7 = .ok (.invokevirtual 73, 3) := by decide +kernel
theorem dX1_fare_10 : decode cX1_fare 10 = .ok (.ifCond .eq 21, 3) := by decide +kernel
theorem dX1_fare_13 : decode cX1_fare 13 = .ok (.aload_n 0, 1) := by decide +kernel
theorem dX1_fare_14 : decode cX1_fare 14 = .ok (.iload_n 2, 1) := by decide +kernel
theorem dX1_fare_15 : decode cX1_fare 15 = .ok (.invokevirtual 46, 3) := by decide +kernel
theorem dX1_fare_18 : decode cX1_fare 18 = .ok (.ifCond .eq 13, 3) := by decide +kernel
theorem dX1_fare_21 : decode cX1_fare 21 = .ok (.iload_n 3, 1) := by decide +kernel
theorem dX1_fare_22 : decode cX1_fare 22 = .ok (.iconst 0, 1) := by decide +kernel
theorem dX1_fare_23 : decode cX1_fare 23 = .ok (.bipush 23, 2) := by decide +kernel
theorem dX1_fare_25 : decode cX1_fare 25 = .ok (.invokestatic 42, 3) := by decide +kernel
theorem dX1_fare_28 : decode cX1_fare 28 = .ok (.ifCond .ne 9, 3) := by decide +kernel
theorem dX1_fare_31 : decode cX1_fare 31 = .ok (.aload_n 0, 1) := by decide +kernel
theorem dX1_fare_32 : decode cX1_fare 32 = .ok (.iconst 1, 1) := by decide +kernel
theorem dX1_fare_33 : decode cX1_fare 33 = .ok (.invokevirtual 66, 3) := by decide +kernel
theorem dX1_fare_36 : decode cX1_fare 36 = .ok (.ireturn, 1) := by decide +kernel
theorem dX1_fare_37 : decode cX1_fare 37 = .ok (.iload 4, 2) := by decide +kernel
theorem dX1_fare_39 : decode cX1_fare 39 = .ok (.iconst 1, 1) := by decide +kernel
theorem dX1_fare_40 : decode cX1_fare 40 = .ok (.sipush 200, 3) := by decide +kernel
theorem dX1_fare_43 : decode cX1_fare 43 = .ok (.invokestatic 42, 3) := by decide +kernel
theorem dX1_fare_46 : decode cX1_fare 46 = .ok (.ifCond .eq 15, 3) := by decide +kernel
theorem dX1_fare_49 : decode cX1_fare 49 = .ok (.aload_n 0, 1) := by decide +kernel
theorem dX1_fare_50 : decode cX1_fare 50 = .ok (.iload_n 2, 1) := by decide +kernel
theorem dX1_fare_51 : decode cX1_fare 51 = .ok (.iload_n 3, 1) := by decide +kernel
theorem dX1_fare_52 : decode cX1_fare 52 = .ok (.iload_n 1, 1) := by decide +kernel
theorem dX1_fare_53 : decode cX1_fare 53 = .ok (.iload 4, 2) := by decide +kernel
theorem dX1_fare_55 : decode cX1_fare 55 = .ok (.invokevirtual 106, 3) := by decide +kernel
theorem dX1_fare_58 : decode cX1_fare 58 = .ok (.goto 8, 3) := by decide +kernel
theorem dX1_fare_61 : decode cX1_fare 61 = .ok (.aload_n 0, 1) := by decide +kernel
theorem dX1_fare_62 : decode cX1_fare 62 = .ok (.iconst 2, 1) := by decide +kernel
theorem dX1_fare_63 : decode cX1_fare 63 = .ok (.invokevirtual 66, 3) := by decide +kernel
theorem dX1_fare_66 : decode cX1_fare 66 = .ok (.ireturn, 1) := by decide +kernel
set_option maxRecDepth 20000 in
theorem ggX1_richest_X1_no : GoodIn wsX1_richest wsX1_no := goodIn_r _ [9, 1, 10, 11, 12, 13, 14, 15, 16, 17, 18, 19, 20, 21, 22] (by decide +kernel) (by decide +kernel)
set_option maxRecDepth 20000 in
theorem gX1_richest_X1_no : GoodIn wsX1_richest (wsV RX1 66 RX1 yX1_no wsX1_no) := goodIn_app (goodIn_of _ (by decide +kernel)) ggX1_richest_X1_no
theorem dX1_richest_0 : decode cX1_richest 0 = .ok (.aload_n 0, 1) := by decide +kernel
theorem dX1_richest_1 : decode cX1_richest 1 = .ok (.iconst 0, 1) := by decide +kernel
theorem dX1_richest_2 : decode cX1_richest 2 = .ok (.putfield 35, 3) := by decide +kernel
theorem dX1_richest_5 : decode cX1_richest 5 = .ok (.iconst (-1), 1) := by decide +kernel
theorem dX1_richest_6 : decode cX1_richest 6 = .ok (.istore_n 1, 1) := by decide +kernel
theorem dX1_richest_7 : decode cX1_richest 7 = .ok (.iconst 0, 1) := by decide +kernel
theorem dX1_richest_8 : decode cX1_richest 8 = .ok (.istore_n 2, 1) := by decide +kernel
theorem dX1_richest_9 : decode cX1_richest 9 = .ok (.iload_n 2, 1) := by decide +kernel
theorem dX1_richest_10 : decode cX1_richest 10 = .ok (.aload_n 0, 1) := by decide +kernel
theorem dX1_richest_11 : decode cX1_richest 11 = .ok (.getfield 50, 3) := by decide +kernel
theorem dX1_richest_14 : decode cX1_richest 14 = .ok (.if_icmp .ge 40, 3) := by decide +kernel
theorem dX1_richest_17 : decode cX1_richest 17 = .ok (.aload_n 0, 1) := by decide +kernel
theorem dX1_richest_18 : decode cX1_richest 18 = .ok (.getfield 28, 3) := by decide +kernel
theorem dX1_richest_21 : decode cX1_richest 21 = .ok (.iload_n 2, 1) := by decide +kernel
theorem dX1_richest_22 : decode cX1_richest 22 = .ok (.baload, 1) := by decide +kernel
theorem dX1_richest_23 : decode cX1_richest 23 = .ok (.ifCond .ne 25, 3) := by decide +kernel
theorem dX1_richest_26 : decode cX1_richest 26 = .ok (.iload_n 1, 1) := by decide +kernel
theorem dX1_richest_27 : decode cX1_richest 27 = .ok (.iconst (-1), 1) := by decide +kernel
theorem dX1_richest_28 : decode cX1_richest 28 = .ok (.if_icmp .eq 18, 3) := by decide +kernel
theorem dX1_richest_31 : decode cX1_richest 31 = .ok (.aload_n 0, 1) := by decide +kernel
theorem dX1_richest_32 : decode cX1_richest 32 = .ok (.getfield 19, 3) := by decide +kernel
theorem dX1_richest_35 : decode cX1_richest 35 = .ok (.iload_n 2, 1) := by decide +kernel
theorem dX1_richest_36 : decode cX1_richest 36 = .ok (.iaload, 1) := by decide +kernel
theorem dX1_richest_37 : decode cX1_richest 37 = .ok (.aload_n 0, 1) := by decide +kernel
theorem dX1_richest_38 : decode cX1_richest 38 = .ok (.getfield 19, 3) := by decide +kernel
theorem dX1_richest_41 : decode cX1_richest 41 = .ok (.iload_n 1, 1) := by decide +kernel
theorem dX1_richest_42 : decode cX1_richest 42 = .ok (.iaload, 1) := by decide +kernel
theorem dX1_richest_43 : decode cX1_richest 43 = .ok (.if_icmp .le 5, 3) := by decide +kernel
theorem dX1_richest_46 : decode cX1_richest 46 = .ok (.iload_n 2, 1) := by decide +kernel
theorem dX1_richest_47 : decode cX1_richest 47 = .ok (.istore_n 1, 1) := by decide +kernel
theorem dX1_richest_48 : decode cX1_richest 48 = .ok (.iinc 2 1, 3) := by decide +kernel
theorem dX1_richest_51 : decode cX1_richest 51 = .ok (.goto (-42), 3) := by decide +kernel
theorem dX1_richest_54 : decode cX1_richest 54 = .ok (.iload_n 1, 1) := by decide +kernel
theorem dX1_richest_55 : decode cX1_richest 55 = .ok (.iconst (-1), 1) := by decide +kernel
theorem dX1_richest_56 : decode cX1_richest 56 = .ok (.if_icmp .ne 11, 3) := by decide +kernel
theorem dX1_richest_59 : decode cX1_richest 59 = .ok (.aload_n 0, 1) := by decide +kernel
theorem dX1_richest_60 : decode cX1_richest 60 = .ok (.iconst 1, 1) := by decide +kernel
theorem dX1_richest_61 : decode cX1_richest 61 = .ok (.invokevirtual 66, 3) := by decide +kernel
theorem dX1_richest_64 : decode cX1_richest 64 = .ok (.goto 4, 3) := by decide +kernel
theorem dX1_richest_67 : decode cX1_richest 67 = .ok (.iload_n 1, 1) := by decide +kernel
theorem dX1_richest_68 : decode cX1_richest 68 = .ok (.ireturn, 1) := by decide +kernel
set_option maxRecDepth 20000 in
theorem ggX1_meanCoins_X1_alive : GoodIn wsX1_meanCoins wsX1_alive := goodIn_r _ [8, 2, 9, 10, 11, 12, 13, 14, 15, 16, 17, 18, 19, 20, 21, 22] (by decide +kernel) (by decide +kernel)
set_option maxRecDepth 20000 in
theorem gX1_meanCoins_X1_alive : GoodIn wsX1_meanCoins (wsV RX1 129 RX1 yX1_alive wsX1_alive) := goodIn_app (goodIn_of _ (by decide +kernel)) ggX1_meanCoins_X1_alive
theorem dX1_meanCoins_0 : decode cX1_meanCoins 0 = .ok (.aload_n 0, 1) := by decide +kernel
theorem dX1_meanCoins_1 : decode cX1_meanCoins 1 = .ok (.iconst 0, 1) := by decide +kernel
theorem dX1_meanCoins_2 : decode cX1_meanCoins 2 = .ok (.putfield 35, 3) := by decide +kernel
theorem dX1_meanCoins_5 : decode cX1_meanCoins 5 = .ok (.iconst 0, 1) := by decide +kernel
theorem dX1_meanCoins_6 : decode cX1_meanCoins 6 = .ok (.istore_n 1, 1) := by decide +kernel
theorem dX1_meanCoins_7 : decode cX1_meanCoins 7 = .ok (.iconst 0, 1) := by decide +kernel
theorem dX1_meanCoins_8 : decode cX1_meanCoins 8 = .ok (.istore_n 2, 1) := by decide +kernel
theorem dX1_meanCoins_9 : decode cX1_meanCoins 9 = .ok (.iload_n 2, 1) := by decide +kernel
theorem dX1_meanCoins_10 : decode cX1_meanCoins 10 = .ok (.aload_n 0, 1) := by decide +kernel
theorem dX1_meanCoins_11 : decode cX1_meanCoins 11 = .ok (.getfield 50, 3) := by decide +kernel
theorem dX1_meanCoins_14 : decode cX1_meanCoins 14 = .ok (.if_icmp .ge 18, 3) := by decide +kernel
theorem dX1_meanCoins_17 : decode cX1_meanCoins 17 = .ok (.iload_n 1, 1) := by decide +kernel
theorem dX1_meanCoins_18 : decode cX1_meanCoins 18 = .ok (.aload_n 0, 1) := by decide +kernel
theorem dX1_meanCoins_19 : decode cX1_meanCoins 19 = .ok (.getfield 19, 3) := by decide +kernel
theorem dX1_meanCoins_22 : decode cX1_meanCoins 22 = .ok (.iload_n 2, 1) := by decide +kernel
theorem dX1_meanCoins_23 : decode cX1_meanCoins 23 = .ok (.iaload, 1) := by decide +kernel
theorem dX1_meanCoins_24 : decode cX1_meanCoins 24 = .ok (.iadd, 1) := by decide +kernel
theorem dX1_meanCoins_25 : decode cX1_meanCoins 25 = .ok (.istore_n 1, 1) := by decide +kernel
theorem dX1_meanCoins_26 : decode cX1_meanCoins 26 = .ok (.iinc 2 1, 3) := by decide +kernel
theorem dX1_meanCoins_29 : decode cX1_meanCoins 29 = .ok (.goto (-20), 3) := by decide +kernel
theorem dX1_meanCoins_32 : decode cX1_meanCoins 32 = .ok (.aload_n 0, 1) := by decide +kernel
theorem dX1_meanCoins_33 : decode cX1_meanCoins 33 = .ok (.invokevirtual 129, 3) := by decide +kernel
theorem dX1_meanCoins_36 : decode cX1_meanCoins 36 = .ok (.ifCond .ne 7, 3) := by decide +kernel
theorem dX1_meanCoins_39 : decode cX1_meanCoins 39 = .ok (.dconst 0, 1) := by decide +kernel
theorem dX1_meanCoins_40 : decode cX1_meanCoins 40 = .ok (.goto 11, 3) := by decide +kernel
theorem dX1_meanCoins_43 : decode cX1_meanCoins 43 = .ok (.iload_n 1, 1) := by decide +kernel
theorem dX1_meanCoins_44 : decode cX1_meanCoins 44 = .ok (.i2d, 1) := by decide +kernel
theorem dX1_meanCoins_45 : decode cX1_meanCoins 45 = .ok (.aload_n 0, 1) := by decide +kernel
theorem dX1_meanCoins_46 : decode cX1_meanCoins 46 = .ok (.invokevirtual 129, 3) := by decide +kernel
theorem dX1_meanCoins_49 : decode cX1_meanCoins 49 = .ok (.i2d, 1) := by decide +kernel
theorem dX1_meanCoins_50 : decode cX1_meanCoins 50 = .ok (.ddiv, 1) := by decide +kernel
theorem dX1_meanCoins_51 : decode cX1_meanCoins 51 = .ok (.dreturn, 1) := by decide +kernel
set_option maxRecDepth 20000 in
theorem ggX1_digest_X1_alive : GoodIn wsX1_digest wsX1_alive := goodIn_r _ [17, 5, 10, 48, 49, 50, 51, 52, 53, 54, 55, 56, 57, 58, 59, 60] (by decide +kernel) (by decide +kernel)
set_option maxRecDepth 20000 in
theorem gX1_digest_X1_alive : GoodIn wsX1_digest (wsV RX1 129 RX1 yX1_alive wsX1_alive) := goodIn_app (goodIn_of _ (by decide +kernel)) ggX1_digest_X1_alive
set_option maxRecDepth 20000 in
theorem ggX1_digest_X1_at : GoodIn wsX1_digest wsX1_at := goodIn_r _ [20] (by decide +kernel) (by decide +kernel)
set_option maxRecDepth 20000 in
theorem gX1_digest_X1_at : GoodIn wsX1_digest (va_wsS RX1 53 yX1_at wsX1_at) := goodIn_app (goodIn_of _ (by decide +kernel)) ggX1_digest_X1_at
set_option maxRecDepth 20000 in
theorem ggX1_digest_X1_allOf : GoodIn wsX1_digest wsX1_allOf := goodIn_r _ [24, 4, 25, 26, 27, 16, 28, 9, 18, 19, 20, 48, 49, 50, 51, 52, 53, 54, 55, 56, 57, 58, 59, 60] (by decide +kernel) (by decide +kernel)
set_option maxRecDepth 20000 in
theorem gX1_digest_X1_allOf : GoodIn wsX1_digest (wsV RX1 133 RX1 yX1_allOf wsX1_allOf) := goodIn_app (goodIn_of _ (by decide +kernel)) ggX1_digest_X1_allOf
set_option maxRecDepth 20000 in
theorem ggX1_digest_X1_childrenOf : GoodIn wsX1_digest wsX1_childrenOf := goodIn_r _ [32, 5, 33, 48, 49, 50, 51, 52, 53, 54, 55, 56, 57, 58, 59, 60] (by decide +kernel) (by decide +kernel)
set_option maxRecDepth 20000 in
theorem gX1_digest_X1_childrenOf : GoodIn wsX1_digest (wsV RX1 136 RX1 yX1_childrenOf wsX1_childrenOf) := goodIn_app (goodIn_of _ (by decide +kernel)) ggX1_digest_X1_childrenOf
set_option maxRecDepth 20000 in
theorem ggX1_digest_X1_heirsOf : GoodIn wsX1_digest wsX1_heirsOf := goodIn_r _ [37, 38, 39, 40, 41, 16, 42, 5, 33, 10, 43, 44, 45, 46, 47, 48, 49, 50, 51, 52, 53, 54, 55, 56, 57, 58, 59, 60] (by decide +kernel) (by decide +kernel)
set_option maxRecDepth 20000 in
theorem gX1_digest_X1_heirsOf : GoodIn wsX1_digest (wsV RX1 139 RX1 yX1_heirsOf wsX1_heirsOf) := goodIn_app (goodIn_of _ (by decide +kernel)) ggX1_digest_X1_heirsOf
theorem dX1_digest_0 : decode cX1_digest 0 = .ok (.aload_n 0, 1) := by decide +kernel
theorem dX1_digest_1 : decode cX1_digest 1 = .ok (.iconst 0, 1) := by decide +kernel
theorem dX1_digest_2 : decode cX1_digest 2 = .ok (.putfield 35, 3) := by decide +kernel
theorem dX1_digest_5 : decode cX1_digest 5 = .ok (.ldc2_w 142, 3) := by decide +kernel
theorem dX1_digest_8 : decode cX1_digest 8 = .ok (.lstore_n 1, 1) := by decide +kernel
theorem dX1_digest_9 : decode cX1_digest 9 = .ok (.lload_n 1, 1) := by decide +kernel
theorem dX1_digest_10 : decode cX1_digest 10 = .ok (.ldc2_w 144, 3) := by decide +kernel
theorem dX1_digest_13 : decode cX1_digest 13 = .ok (.lmul, 1) := by decide +kernel
theorem dX1_digest_14 : decode cX1_digest 14 = .ok (.aload_n 0, 1) := by decide +kernel
theorem dX1_digest_15 : decode cX1_digest 15 = .ok (.getfield 39, 3) := by decide +kernel
theorem dX1_digest_18 : decode cX1_digest 18 = .ok (.i2l, 1) := by decide +kernel
theorem dX1_digest_19 : decode cX1_digest 19 = .ok (.ladd, 1) := by decide +kernel
theorem dX1_digest_20 : decode cX1_digest 20 = .ok (.ldc2_w 144, 3) := by decide +kernel
theorem dX1_digest_23 : decode cX1_digest 23 = .ok (.lmul, 1) := by decide +kernel
theorem dX1_digest_24 : decode cX1_digest 24 = .ok (.aload_n 0, 1) := by decide +kernel
theorem dX1_digest_25 : decode cX1_digest 25 = .ok (.getfield 50, 3) := by decide +kernel
theorem dX1_digest_28 : decode cX1_digest 28 = .ok (.i2l, 1) := by decide +kernel
theorem dX1_digest_29 : decode cX1_digest 29 = .ok (.ladd, 1) := by decide +kernel
theorem dX1_digest_30 : decode cX1_digest 30 = .ok (.lstore_n 1, 1) := by decide +kernel
theorem dX1_digest_31 : decode cX1_digest 31 = .ok (.lload_n 1, 1) := by decide +kernel
theorem dX1_digest_32 : decode cX1_digest 32 = .ok (.ldc2_w 144, 3) := by decide +kernel
theorem dX1_digest_35 : decode cX1_digest 35 = .ok (.lmul, 1) := by decide +kernel
theorem dX1_digest_36 : decode cX1_digest 36 = .ok (.aload_n 0, 1) := by decide +kernel
theorem dX1_digest_37 : decode cX1_digest 37 = .ok (.invokevirtual 129, 3) := by decide +kernel
theorem dX1_digest_40 : decode cX1_digest 40 = .ok (.i2l, 1) := by decide +kernel
theorem dX1_digest_41 : decode cX1_digest 41 = .ok (.ladd, 1) := by decide +kernel
theorem dX1_digest_42 : decode cX1_digest 42 = .ok (.ldc2_w 144, 3) := by decide +kernel
theorem dX1_digest_45 : decode cX1_digest 45 = .ok (.lmul, 1) := by decide +kernel
theorem dX1_digest_46 : decode cX1_digest 46 = .ok (.aload_n 0, 1) := by decide +kernel
theorem dX1_digest_47 : decode cX1_digest 47 = .ok (.getfield 110, 3) := by decide +kernel
theorem dX1_digest_50 : decode cX1_digest 50 = .ok (.i2l, 1) := by decide +kernel
theorem dX1_digest_51 : decode cX1_digest 51 = .ok (.ladd, 1) := by decide +kernel
theorem dX1_digest_52 : decode cX1_digest 52 = .ok (.lstore_n 1, 1) := by decide +kernel
theorem dX1_digest_53 : decode cX1_digest 53 = .ok (.iconst 0, 1) := by decide +kernel
theorem dX1_digest_54 : decode cX1_digest 54 = .ok (.istore_n 3, 1) := by decide +kernel
theorem dX1_digest_55 : decode cX1_digest 55 = .ok (.iload_n 3, 1) := by decide +kernel
theorem dX1_digest_56 : decode cX1_digest 56 = .ok (.aload_n 0, 1) := by decide +kernel
theorem dX1_digest_57 : decode cX1_digest 57 = .ok (.getfield 39, 3) := by decide +kernel
theorem dX1_digest_60 : decode cX1_digest 60 = .ok (.if_icmp .ge 89, 3) := by decide +kernel
theorem dX1_digest_63 : decode cX1_digest 63 = .ok (.lload_n 1, 1) := by decide +kernel
theorem dX1_digest_64 : decode cX1_digest 64 = .ok (.ldc2_w 144, 3) := by decide +kernel
theorem dX1_digest_67 : decode cX1_digest 67 = .ok (.lmul, 1) := by decide +kernel
theorem dX1_digest_68 : decode cX1_digest 68 = .ok (.aload_n 0, 1) := by decide +kernel
theorem dX1_digest_69 : decode cX1_digest 69 = .ok (.getfield 9, 3) := by decide +kernel
theorem dX1_digest_72 : decode cX1_digest 72 = .ok (.iload_n 3, 1) := by decide +kernel
theorem dX1_digest_73 : decode cX1_digest 73 = .ok (.iaload, 1) := by decide +kernel
theorem dX1_digest_74 : decode cX1_digest 74 = .ok (.i2l, 1) := by decide +kernel
theorem dX1_digest_75 : decode cX1_digest 75 = .ok (.ladd, 1) := by decide +kernel
theorem dX1_digest_76 : decode cX1_digest 76 = .ok (.ldc2_w 144, 3) := by decide +kernel
theorem dX1_digest_79 : decode cX1_digest 79 = .ok (.lmul, 1) := by decide +kernel
theorem dX1_digest_80 : decode cX1_digest 80 = .ok (.aload_n 0, 1) := by decide +kernel
theorem dX1_digest_81 : decode cX1_digest 81 = .ok (.getfield 13, 3) := by decide +kernel
theorem dX1_digest_84 : decode cX1_digest 84 = .ok (.iload_n 3, 1) := by decide +kernel
theorem dX1_digest_85 : decode cX1_digest 85 = .ok (.iaload, 1) := by decide +kernel
theorem dX1_digest_86 : decode cX1_digest 86 = .ok (.i2l, 1) := by decide +kernel
theorem dX1_digest_87 : decode cX1_digest 87 = .ok (.ladd, 1) := by decide +kernel
theorem dX1_digest_88 : decode cX1_digest 88 = .ok (.lstore_n 1, 1) := by decide +kernel
theorem dX1_digest_89 : decode cX1_digest 89 = .ok (.iconst 0, 1) := by decide +kernel
theorem dX1_digest_90 : decode cX1_digest 90 = .ok (.istore 4, 2) := by decide +kernel
theorem dX1_digest_92 : decode cX1_digest 92 = .ok (.iload 4, 2) := by decide +kernel
theorem dX1_digest_94 : decode cX1_digest 94 = .ok (.iconst 4, 1) := by decide +kernel
theorem dX1_digest_95 : decode cX1_digest 95 = .ok (.if_icmp .ge 48, 3) := by decide +kernel
theorem dX1_digest_98 : decode cX1_digest 98 = .ok (.iconst 0, 1) := by decide +kernel
theorem dX1_digest_99 : decode cX1_digest 99 = .ok (.istore 5, 2) := by decide +kernel
theorem dX1_digest_101 : decode cX1_digest 101 = .ok (.iload 5, 2) := by decide +kernel
theorem dX1_digest_103 : decode cX1_digest 103 = .ok (.aload_n 0, 1) := by decide +kernel
theorem dX1_digest_104 : decode cX1_digest 104 = .ok (.getfield 50, 3) := by decide +kernel
theorem dX1_digest_107 : decode cX1_digest 107 = .ok (.if_icmp .ge 30, 3) := by decide +kernel
theorem dX1_digest_110 : decode cX1_digest 110 = .ok (.lload_n 1, 1) := by decide +kernel
theorem dX1_digest_111 : decode cX1_digest 111 = .ok (.ldc2_w 144, 3) := by decide +kernel
theorem dX1_digest_114 : decode cX1_digest 114 = .ok (.lmul, 1) := by decide +kernel
theorem dX1_digest_115 : decode cX1_digest 115 = .ok (.aload_n 0, 1) := by decide +kernel
theorem dX1_digest_116 : decode cX1_digest 116 = .ok (.getfield 16, 3) := by decide +kernel
theorem dX1_digest_119 : decode cX1_digest 119 = .ok (.iload_n 3, 1) := by decide +kernel
theorem dX1_digest_120 : decode cX1_digest 120 = .ok (.iload 4, 2) := by decide +kernel
theorem dX1_digest_122 : decode cX1_digest 122 = .ok (.iload 5, 2) := by decide +kernel
theorem dX1_digest_124 : decode cX1_digest 124 = .ok (.invokestatic 53, 3) := by decide +kernel
theorem dX1_digest_127 : decode cX1_digest 127 = .ok (.iaload, 1) := by decide +kernel
theorem dX1_digest_128 : decode cX1_digest 128 = .ok (.i2l, 1) := by decide +kernel
theorem dX1_digest_129 : decode cX1_digest 129 = .ok (.ladd, 1) := by decide +kernel
theorem dX1_digest_130 : decode cX1_digest 130 = .ok (.lstore_n 1, 1) := by decide +kernel
theorem dX1_digest_131 : decode cX1_digest 131 = .ok (.iinc 5 1, 3) := by decide +kernel
theorem dX1_digest_134 : decode cX1_digest 134 = .ok (.goto (-33), 3) := by decide +kernel
theorem dX1_digest_137 : decode cX1_digest 137 = .ok (.iinc 4 1, 3) := by decide +kernel
theorem dX1_digest_140 : decode cX1_digest 140 = .ok (.goto (-48), 3) := by decide +kernel
theorem dX1_digest_143 : decode cX1_digest 143 = .ok (.iinc 3 1, 3) := by decide +kernel
theorem dX1_digest_146 : decode cX1_digest 146 = .ok (.goto (-91), 3) := by decide +kernel
theorem dX1_digest_149 : decode cX1_digest 149 = .ok (.iconst 0, 1) := by decide +kernel
theorem dX1_digest_150 : decode cX1_digest 150 = .ok (.istore_n 3, 1) := by decide +kernel
theorem dX1_digest_151 : decode cX1_digest 151 = .ok (.iload_n 3, 1) := by decide +kernel
theorem dX1_digest_152 : decode cX1_digest 152 = .ok (.aload_n 0, 1) := by decide +kernel
theorem dX1_digest_153 : decode cX1_digest 153 = .ok (.getfield 50, 3) := by decide +kernel
theorem dX1_digest_156 : decode cX1_digest 156 = .ok (.if_icmp .ge 92, 3) := by decide +kernel
theorem dX1_digest_159 : decode cX1_digest 159 = .ok (.lload_n 1, 1) := by decide +kernel
theorem dX1_digest_160 : decode cX1_digest 160 = .ok (.ldc2_w 144, 3) := by decide +kernel
theorem dX1_digest_163 : decode cX1_digest 163 = .ok (.lmul, 1) := by decide +kernel
theorem dX1_digest_164 : decode cX1_digest 164 = .ok (.aload_n 0, 1) := by decide +kernel
theorem dX1_digest_165 : decode cX1_digest 165 = .ok (.getfield 28, 3) := by decide +kernel
theorem dX1_digest_168 : decode cX1_digest 168 = .ok (.iload_n 3, 1) := by decide +kernel
theorem dX1_digest_169 : decode cX1_digest 169 = .ok (.baload, 1) := by decide +kernel
theorem dX1_digest_170 : decode cX1_digest 170 = .ok (.ifCond .eq 7, 3) := by decide +kernel
theorem dX1_digest_173 : decode cX1_digest 173 = .ok (.iconst 0, 1) := by decide +kernel
theorem dX1_digest_174 : decode cX1_digest 174 = .ok (.goto 4, 3) := by decide +kernel
theorem dX1_digest_177 : decode cX1_digest 177 = .ok (.iconst 1, 1) := by decide +kernel
theorem dX1_digest_178 : decode cX1_digest 178 = .ok (.i2l, 1) := by decide +kernel
theorem dX1_digest_179 : decode cX1_digest 179 = .ok (.ladd, 1) := by decide +kernel
theorem dX1_digest_180 : decode cX1_digest 180 = .ok (.ldc2_w 144, 3) := by decide +kernel
theorem dX1_digest_183 : decode cX1_digest 183 = .ok (.lmul, 1) := by decide +kernel
theorem dX1_digest_184 : decode cX1_digest 184 = .ok (.aload_n 0, 1) := by decide +kernel
theorem dX1_digest_185 : decode cX1_digest 185 = .ok (.getfield 19, 3) := by decide +kernel
theorem dX1_digest_188 : decode cX1_digest 188 = .ok (.iload_n 3, 1) := by decide +kernel
theorem dX1_digest_189 : decode cX1_digest 189 = .ok (.iaload, 1) := by decide +kernel
theorem dX1_digest_190 : decode cX1_digest 190 = .ok (.i2l, 1) := by decide +kernel
theorem dX1_digest_191 : decode cX1_digest 191 = .ok (.ladd, 1) := by decide +kernel
theorem dX1_digest_192 : decode cX1_digest 192 = .ok (.lstore_n 1, 1) := by decide +kernel
theorem dX1_digest_193 : decode cX1_digest 193 = .ok (.lload_n 1, 1) := by decide +kernel
theorem dX1_digest_194 : decode cX1_digest 194 = .ok (.ldc2_w 144, 3) := by decide +kernel
theorem dX1_digest_197 : decode cX1_digest 197 = .ok (.lmul, 1) := by decide +kernel
theorem dX1_digest_198 : decode cX1_digest 198 = .ok (.aload_n 0, 1) := by decide +kernel
theorem dX1_digest_199 : decode cX1_digest 199 = .ok (.getfield 22, 3) := by decide +kernel
theorem dX1_digest_202 : decode cX1_digest 202 = .ok (.iload_n 3, 1) := by decide +kernel
theorem dX1_digest_203 : decode cX1_digest 203 = .ok (.iaload, 1) := by decide +kernel
theorem dX1_digest_204 : decode cX1_digest 204 = .ok (.i2l, 1) := by decide +kernel
theorem dX1_digest_205 : decode cX1_digest 205 = .ok (.ladd, 1) := by decide +kernel
theorem dX1_digest_206 : decode cX1_digest 206 = .ok (.ldc2_w 144, 3) := by decide +kernel
theorem dX1_digest_209 : decode cX1_digest 209 = .ok (.lmul, 1) := by decide +kernel
theorem dX1_digest_210 : decode cX1_digest 210 = .ok (.aload_n 0, 1) := by decide +kernel
theorem dX1_digest_211 : decode cX1_digest 211 = .ok (.iload_n 3, 1) := by decide +kernel
theorem dX1_digest_212 : decode cX1_digest 212 = .ok (.invokevirtual 133, 3) := by decide +kernel
theorem dX1_digest_215 : decode cX1_digest 215 = .ok (.i2l, 1) := by decide +kernel
theorem dX1_digest_216 : decode cX1_digest 216 = .ok (.ladd, 1) := by decide +kernel
theorem dX1_digest_217 : decode cX1_digest 217 = .ok (.lstore_n 1, 1) := by decide +kernel
theorem dX1_digest_218 : decode cX1_digest 218 = .ok (.lload_n 1, 1) := by decide +kernel
theorem dX1_digest_219 : decode cX1_digest 219 = .ok (.ldc2_w 144, 3) := by decide +kernel
theorem dX1_digest_222 : decode cX1_digest 222 = .ok (.lmul, 1) := by decide +kernel
theorem dX1_digest_223 : decode cX1_digest 223 = .ok (.aload_n 0, 1) := by decide +kernel
theorem dX1_digest_224 : decode cX1_digest 224 = .ok (.iload_n 3, 1) := by decide +kernel
theorem dX1_digest_225 : decode cX1_digest 225 = .ok (.invokevirtual 136, 3) := by decide +kernel
theorem dX1_digest_228 : decode cX1_digest 228 = .ok (.i2l, 1) := by decide +kernel
theorem dX1_digest_229 : decode cX1_digest 229 = .ok (.ladd, 1) := by decide +kernel
theorem dX1_digest_230 : decode cX1_digest 230 = .ok (.ldc2_w 144, 3) := by decide +kernel
theorem dX1_digest_233 : decode cX1_digest 233 = .ok (.lmul, 1) := by decide +kernel
theorem dX1_digest_234 : decode cX1_digest 234 = .ok (.aload_n 0, 1) := by decide +kernel
theorem dX1_digest_235 : decode cX1_digest 235 = .ok (.iload_n 3, 1) := by decide +kernel
theorem dX1_digest_236 : decode cX1_digest 236 = .ok (.invokevirtual 139, 3) := by decide +kernel
theorem dX1_digest_239 : decode cX1_digest 239 = .ok (.i2l, 1) := by decide +kernel
theorem dX1_digest_240 : decode cX1_digest 240 = .ok (.ladd, 1) := by decide +kernel
theorem dX1_digest_241 : decode cX1_digest 241 = .ok (.lstore_n 1, 1) := by decide +kernel
theorem dX1_digest_242 : decode cX1_digest 242 = .ok (.iinc 3 1, 3) := by decide +kernel
theorem dX1_digest_245 : decode cX1_digest 245 = .ok (.goto (-94), 3) := by decide +kernel
theorem dX1_digest_248 : decode cX1_digest 248 = .ok (.lload_n 1, 1) := by decide +kernel
theorem dX1_digest_249 : decode cX1_digest 249 = .ok (.lreturn, 1) := by decide +kernel
theorem dJ9_min_7cf53_0 : decode cJ9_min_7cf53 0 = .ok (.iload_n 0, 1) := by decide +kernel
theorem dJ9_min_7cf53_1 : decode cJ9_min_7cf53 1 = .ok (.iload_n 1, 1) := by decide +kernel
theorem dJ9_min_7cf53_2 : decode cJ9_min_7cf53 2 = .ok (.if_icmp .gt 7, 3) := by decide +kernel
theorem dJ9_min_7cf53_5 : decode cJ9_min_7cf53 5 = .ok (.iload_n 0, 1) := by decide +kernel
theorem dJ9_min_7cf53_6 : decode cJ9_min_7cf53 6 = .ok (.goto 4, 3) := by decide +kernel
theorem dJ9_min_7cf53_9 : decode cJ9_min_7cf53 9 = .ok (.iload_n 1, 1) := by decide +kernel
theorem dJ9_min_7cf53_10 : decode cJ9_min_7cf53 10 = .ok (.ireturn, 1) := by decide +kernel
