theorem dL_below_0 : decode cL_below 0 = .ok (.iload_n 0, 1) := by decide +kernel
theorem dL_below_1 : decode cL_below 1 = .ok (.ldc 7, 2) := by decide +kernel
theorem dL_below_3 : decode cL_below 3 = .ok (.iand, 1) := by decide +kernel
theorem dL_below_4 : decode cL_below 4 = .ok (.iload_n 1, 1) := by decide +kernel
theorem dL_below_5 : decode cL_below 5 = .ok (.irem, 1) := by decide +kernel
theorem dL_below_6 : decode cL_below 6 = .ok (.ireturn, 1) := by decide +kernel
theorem dL_cell_0 : decode cL_cell 0 = .ok (.iload_n 1, 1) := by decide +kernel
theorem dL_cell_1 : decode cL_cell 1 = .ok (.aload_n 0, 1) := by decide +kernel
theorem dL_cell_2 : decode cL_cell 2 = .ok (.arraylength, 1) := by decide +kernel
theorem dL_cell_3 : decode cL_cell 3 = .ok (.if_icmp .ge 9, 3) := by decide +kernel
theorem dL_cell_6 : decode cL_cell 6 = .ok (.aload_n 0, 1) := by decide +kernel
theorem dL_cell_7 : decode cL_cell 7 = .ok (.iload_n 1, 1) := by decide +kernel
theorem dL_cell_8 : decode cL_cell 8 = .ok (.iaload, 1) := by decide +kernel
theorem dL_cell_9 : decode cL_cell 9 = .ok (.goto 9, 3) := by decide +kernel
theorem dL_cell_12 : decode cL_cell 12 = .ok (.ldc 8, 2) := by decide +kernel
theorem dL_cell_14 : decode cL_cell 14 = .ok (.iload_n 1, 1) := by decide +kernel
theorem dL_cell_15 : decode cL_cell 15 = .ok (.iconst 3, 1) := by decide +kernel
theorem dL_cell_16 : decode cL_cell 16 = .ok (.iadd, 1) := by decide +kernel
theorem dL_cell_17 : decode cL_cell 17 = .ok (.imul, 1) := by decide +kernel
theorem dL_cell_18 : decode cL_cell 18 = .ok (.ireturn, 1) := by decide +kernel
set_option maxRecDepth 20000 in
theorem ggL_act_L_below : GoodIn wsL_act wsL_below := goodIn_r _ [7, 8] (by decide +kernel) (by decide +kernel)
set_option maxRecDepth 20000 in
theorem gL_act_L_below : GoodIn wsL_act (va_wsS RL 15 yL_below wsL_below) := goodIn_app (goodIn_of _ (by decide +kernel)) ggL_act_L_below
set_option maxRecDepth 20000 in
theorem ggL_act_X1_addFerry : GoodIn wsL_act wsX1_addFerry := goodIn_r _ [13, 14, 15, 16, 17, 18, 19, 20, 12, 21, 257, 258, 259, 260, 261] (by decide +kernel) (by decide +kernel)
set_option maxRecDepth 20000 in
theorem gL_act_X1_addFerry : GoodIn wsL_act (wsV RL 25 RX1 yX1_addFerry wsX1_addFerry) := goodIn_app (goodIn_of _ (by decide +kernel)) ggL_act_X1_addFerry
set_option maxRecDepth 20000 in
theorem ggL_act_X0_addFerry : GoodIn wsL_act wsX0_addFerry := goodIn_ca (goodIn_ca (goodIn_r _ [26, 27, 28, 29, 30, 31, 32, 25, 33, 34, 35, 262, 263, 264, 265, 266, 267, 268, 269, 270, 271] (by decide +kernel) (by decide +kernel)) (goodIn_sub (fun _ h => List.mem_cons_of_mem _ (List.mem_append_left _ (List.mem_append_left _ (List.mem_append_right _ h)))) (by decide +kernel))) (goodIn_sub (fun _ h => List.mem_cons_of_mem _ (List.mem_append_left _ (List.mem_append_right _ h))) (by decide +kernel))
set_option maxRecDepth 20000 in
theorem gL_act_X0_addFerry : GoodIn wsL_act (wsV RL 29 RX0 yX0_addFerry wsX0_addFerry) := goodIn_app (goodIn_of _ (by decide +kernel)) ggL_act_X0_addFerry
set_option maxRecDepth 20000 in
theorem ggL_act_X1_addPerson : GoodIn wsL_act wsX1_addPerson := goodIn_r _ [39, 40, 41, 18, 257, 258, 259, 260, 261] (by decide +kernel) (by decide +kernel)
set_option maxRecDepth 20000 in
theorem gL_act_X1_addPerson : GoodIn wsL_act (wsV RL 34 RX1 yX1_addPerson wsX1_addPerson) := goodIn_app (goodIn_of _ (by decide +kernel)) ggL_act_X1_addPerson
set_option maxRecDepth 20000 in
theorem ggL_act_X0_addPerson : GoodIn wsL_act wsX0_addPerson := goodIn_ca (goodIn_r _ [45, 46, 47, 48, 25, 49, 27, 28, 50, 51, 52, 53, 54, 55, 56, 262, 263, 264, 265, 266, 267, 268, 269, 270, 271] (by decide +kernel) (by decide +kernel)) (goodIn_sub (fun _ h => List.mem_cons_of_mem _ (List.mem_append_left _ (List.mem_append_left _ (List.mem_append_right _ h)))) (by decide +kernel))
set_option maxRecDepth 20000 in
theorem gL_act_X0_addPerson : GoodIn wsL_act (wsV RL 37 RX0 yX0_addPerson wsX0_addPerson) := goodIn_app (goodIn_of _ (by decide +kernel)) ggL_act_X0_addPerson
set_option maxRecDepth 20000 in
theorem ggL_act_X0_addChild : GoodIn wsL_act wsX0_addChild := goodIn_ca (goodIn_ca (goodIn_r _ [60, 61, 62, 63, 25, 64, 65, 66, 50, 67, 68, 69, 70, 27, 28, 55, 46, 47, 48, 49, 51, 52, 53, 54, 56, 262, 263, 264, 265, 266, 267, 268, 269, 270, 271] (by decide +kernel) (by decide +kernel)) (goodIn_sub (fun _ h => List.mem_cons_of_mem _ (List.mem_append_right _ h)) (by decide +kernel))) (goodIn_sub (fun _ h => List.mem_cons_of_mem _ (List.mem_append_left _ (List.mem_append_left _ (List.mem_append_right _ h)))) (by decide +kernel))
set_option maxRecDepth 20000 in
theorem gL_act_X0_addChild : GoodIn wsL_act (wsV RL 40 RX0 yX0_addChild wsX0_addChild) := goodIn_app (goodIn_of _ (by decide +kernel)) ggL_act_X0_addChild
set_option maxRecDepth 20000 in
theorem ggL_act_X1_get : GoodIn wsL_act wsX1_get := goodIn_r _ [74, 40, 75, 76, 77, 78, 257, 258, 259, 260, 261] (by decide +kernel) (by decide +kernel)
set_option maxRecDepth 20000 in
theorem gL_act_X1_get : GoodIn wsL_act (wsV RL 43 RX1 yX1_get wsX1_get) := goodIn_app (goodIn_of _ (by decide +kernel)) ggL_act_X1_get
set_option maxRecDepth 20000 in
theorem ggL_act_X0_pay : GoodIn wsL_act wsX0_pay := goodIn_ca (goodIn_ca (goodIn_ca (goodIn_r _ [82, 34, 35, 83, 61, 62, 63, 25, 64, 65, 66, 50, 67, 68, 69, 70, 27, 28, 55, 84, 85, 86, 87, 88, 76, 77, 78, 262, 263, 264, 265, 266, 267, 268, 269, 270, 271] (by decide +kernel) (by decide +kernel)) (goodIn_sub (fun _ h => List.mem_cons_of_mem _ (List.mem_append_left _ (List.mem_append_right _ h))) (by decide +kernel))) (goodIn_sub (fun _ h => List.mem_cons_of_mem _ (List.mem_append_right _ h)) (by decide +kernel))) (goodIn_sub (fun _ h => List.mem_cons_of_mem _ (List.mem_append_left _ (List.mem_append_left _ (List.mem_append_right _ h)))) (by decide +kernel))
set_option maxRecDepth 20000 in
theorem gL_act_X0_pay : GoodIn wsL_act (wsV RL 47 RX0 yX0_pay wsX0_pay) := goodIn_app (goodIn_of _ (by decide +kernel)) ggL_act_X0_pay
set_option maxRecDepth 20000 in
theorem ggL_act_X1_has : GoodIn wsL_act wsX1_has := goodIn_r _ [92, 16, 257, 258, 259, 260, 261] (by decide +kernel) (by decide +kernel)
set_option maxRecDepth 20000 in
theorem gL_act_X1_has : GoodIn wsL_act (wsV RL 50 RX1 yX1_has wsX1_has) := goodIn_app (goodIn_of _ (by decide +kernel)) ggL_act_X1_has
set_option maxRecDepth 20000 in
theorem ggL_act_X1_hand : GoodIn wsL_act wsX1_hand := goodIn_r _ [96, 16, 257, 258, 259, 260, 261] (by decide +kernel) (by decide +kernel)
set_option maxRecDepth 20000 in
theorem gL_act_X1_hand : GoodIn wsL_act (wsV RL 54 RX1 yX1_hand wsX1_hand) := goodIn_app (goodIn_of _ (by decide +kernel)) ggL_act_X1_hand
set_option maxRecDepth 20000 in
theorem ggL_act_X0_grant : GoodIn wsL_act wsX0_grant := goodIn_ca (goodIn_ca (goodIn_ca (goodIn_r _ [100, 27, 28, 101, 102, 103, 25, 104, 65, 66, 29, 105, 106, 107, 61, 62, 63, 64, 50, 108, 109, 110, 34, 35, 67, 68, 69, 70, 55, 111, 112, 113, 114, 115, 116, 117, 118, 119, 120, 121, 122, 123, 124, 125, 126, 262, 263, 264, 265, 266, 267, 268, 269, 270, 271] (by decide +kernel) (by decide +kernel)) (goodIn_sub (fun _ h => List.mem_cons_of_mem _ (List.mem_append_left _ (List.mem_append_left _ (List.mem_append_right _ h)))) (by decide +kernel))) (goodIn_sub (fun _ h => List.mem_cons_of_mem _ (List.mem_append_right _ h)) (by decide +kernel))) (goodIn_sub (fun _ h => List.mem_cons_of_mem _ (List.mem_append_left _ (List.mem_append_right _ h))) (by decide +kernel))
set_option maxRecDepth 20000 in
theorem gL_act_X0_grant : GoodIn wsL_act (wsV RL 58 RX0 yX0_grant wsX0_grant) := goodIn_app (goodIn_of _ (by decide +kernel)) ggL_act_X0_grant
set_option maxRecDepth 20000 in
theorem ggL_act_X0_give : GoodIn wsL_act wsX0_give := goodIn_ca (goodIn_ca (goodIn_ca (goodIn_r _ [130, 34, 35, 27, 28, 61, 62, 63, 25, 64, 65, 66, 50, 101, 102, 103, 104, 29, 105, 106, 107, 108, 109, 110, 67, 68, 69, 70, 55, 115, 116, 117, 118, 119, 120, 121, 122, 123, 124, 125, 126, 262, 263, 264, 265, 266, 267, 268, 269, 270, 271] (by decide +kernel) (by decide +kernel)) (goodIn_sub (fun _ h => List.mem_cons_of_mem _ (List.mem_append_left _ (List.mem_append_right _ h))) (by decide +kernel))) (goodIn_sub (fun _ h => List.mem_cons_of_mem _ (List.mem_append_left _ (List.mem_append_left _ (List.mem_append_right _ h)))) (by decide +kernel))) (goodIn_sub (fun _ h => List.mem_cons_of_mem _ (List.mem_append_right _ h)) (by decide +kernel))
set_option maxRecDepth 20000 in
theorem gL_act_X0_give : GoodIn wsL_act (wsV RL 62 RX0 yX0_give wsX0_give) := goodIn_app (goodIn_of _ (by decide +kernel)) ggL_act_X0_give
set_option maxRecDepth 20000 in
theorem ggL_act_X1_canBuy : GoodIn wsL_act wsX1_canBuy := goodIn_r _ [134, 40, 16, 135, 90, 91, 12, 92, 136, 137, 138, 139, 14, 257, 258, 259, 260, 261] (by decide +kernel) (by decide +kernel)
set_option maxRecDepth 20000 in
theorem gL_act_X1_canBuy : GoodIn wsL_act (wsV RL 66 RX1 yX1_canBuy wsX1_canBuy) := goodIn_app (goodIn_of _ (by decide +kernel)) ggL_act_X1_canBuy
set_option maxRecDepth 20000 in
theorem ggL_act_X1_value : GoodIn wsL_act wsX1_value := goodIn_r _ [139, 14, 257, 258, 259, 260, 261] (by decide +kernel) (by decide +kernel)
set_option maxRecDepth 20000 in
theorem gL_act_X1_value : GoodIn wsL_act (wsV RL 70 RX1 yX1_value wsX1_value) := goodIn_app (goodIn_of _ (by decide +kernel)) ggL_act_X1_value
set_option maxRecDepth 20000 in
theorem ggL_act_X0_buy : GoodIn wsL_act wsX0_buy := goodIn_ca (goodIn_ca (goodIn_r _ [144, 27, 28, 83, 145, 146, 147, 25, 148, 61, 62, 63, 64, 65, 66, 50, 101, 102, 103, 104, 29, 105, 106, 107, 149, 150, 151, 152, 55, 153, 154, 155, 156, 115, 116, 117, 118, 119, 120, 121, 122, 157, 158, 159, 160, 30, 161, 162, 163, 164, 165, 84, 85, 86, 87, 88, 76, 77, 78, 123, 124, 125, 126, 262, 263, 264, 265, 266, 267, 268, 269, 270, 271] (by decide +kernel) (by decide +kernel)) (goodIn_sub (fun _ h => List.mem_cons_of_mem _ (List.mem_append_left _ (List.mem_append_left _ (List.mem_append_right _ h)))) (by decide +kernel))) (goodIn_sub (fun _ h => List.mem_cons_of_mem _ (List.mem_append_right _ h)) (by decide +kernel))
set_option maxRecDepth 20000 in
theorem gL_act_X0_buy : GoodIn wsL_act (wsV RL 73 RX0 yX0_buy wsX0_buy) := goodIn_app (goodIn_of _ (by decide +kernel)) ggL_act_X0_buy
set_option maxRecDepth 20000 in
theorem ggL_act_X1_master : GoodIn wsL_act wsX1_master := goodIn_r _ [169, 40, 170, 171, 172, 12, 173, 135, 90, 91, 92, 16, 257, 258, 259, 260, 261] (by decide +kernel) (by decide +kernel)
set_option maxRecDepth 20000 in
theorem gL_act_X1_master : GoodIn wsL_act (wsV RL 76 RX1 yX1_master wsX1_master) := goodIn_app (goodIn_of _ (by decide +kernel)) ggL_act_X1_master
set_option maxRecDepth 20000 in
theorem ggL_act_X0_setToll : GoodIn wsL_act wsX0_setToll := goodIn_ca (goodIn_ca (goodIn_ca (goodIn_r _ [177, 27, 28, 30, 101, 102, 103, 25, 104, 65, 66, 29, 61, 62, 63, 64, 50, 31, 32, 33, 34, 35, 178, 179, 180, 181, 182, 183, 184, 185, 115, 116, 117, 118, 119, 120, 121, 122, 262, 263, 264, 265, 266, 267, 268, 269, 270, 271] (by decide +kernel) (by decide +kernel)) (goodIn_sub (fun _ h => List.mem_cons_of_mem _ (List.mem_append_left _ (List.mem_append_left _ (List.mem_append_right _ h)))) (by decide +kernel))) (goodIn_sub (fun _ h => List.mem_cons_of_mem _ (List.mem_append_right _ h)) (by decide +kernel))) (goodIn_sub (fun _ h => List.mem_cons_of_mem _ (List.mem_append_left _ (List.mem_append_right _ h))) (by decide +kernel))
set_option maxRecDepth 20000 in
theorem gL_act_X0_setToll : GoodIn wsL_act (wsV RL 79 RX0 yX0_setToll wsX0_setToll) := goodIn_app (goodIn_of _ (by decide +kernel)) ggL_act_X0_setToll
set_option maxRecDepth 20000 in
theorem ggL_act_X1_heirs : GoodIn wsL_act wsX1_heirs := goodIn_r _ [189, 40, 190, 191, 192, 12, 193, 18, 19, 20, 21, 257, 258, 259, 260, 261] (by decide +kernel) (by decide +kernel)
set_option maxRecDepth 20000 in
theorem gL_act_X1_heirs : GoodIn wsL_act (wsV RL 82 RX1 yX1_heirs wsX1_heirs) := goodIn_app (goodIn_of _ (by decide +kernel)) ggL_act_X1_heirs
set_option maxRecDepth 20000 in
theorem ggL_act_X1_die : GoodIn wsL_act wsX1_die := goodIn_r _ [197, 14, 40, 198, 199, 187, 188, 12, 189, 190, 191, 192, 193, 18, 19, 20, 21, 135, 90, 91, 92, 16, 200, 201, 202, 203, 94, 95, 96, 204, 72, 73, 74, 75, 76, 77, 78, 257, 258, 259, 260, 261] (by decide +kernel) (by decide +kernel)
set_option maxRecDepth 20000 in
theorem gL_act_X1_die : GoodIn wsL_act (wsV RL 86 RX1 yX1_die wsX1_die) := goodIn_app (goodIn_of _ (by decide +kernel)) ggL_act_X1_die
set_option maxRecDepth 20000 in
theorem ggL_act_X0_die : GoodIn wsL_act wsX0_die := goodIn_ca (goodIn_ca (goodIn_r _ [208, 50, 209, 83, 61, 62, 63, 25, 64, 65, 66, 67, 68, 69, 70, 27, 28, 55, 210, 211, 212, 213, 214, 215, 216, 217, 218, 219, 220, 221, 56, 222, 223, 224, 225, 226, 227, 228, 229, 29, 115, 116, 117, 118, 119, 120, 121, 122, 230, 231, 232, 123, 124, 125, 126, 84, 85, 86, 87, 88, 76, 77, 78, 233, 234, 235, 236, 262, 263, 264, 265, 266, 267, 268, 269, 270, 271] (by decide +kernel) (by decide +kernel)) (goodIn_sub (fun _ h => List.mem_cons_of_mem _ (List.mem_append_right _ h)) (by decide +kernel))) (goodIn_sub (fun _ h => List.mem_cons_of_mem _ (List.mem_append_left _ (List.mem_append_left _ (List.mem_append_right _ h)))) (by decide +kernel))
set_option maxRecDepth 20000 in
theorem gL_act_X0_die : GoodIn wsL_act (wsV RL 89 RX0 yX0_die wsX0_die) := goodIn_app (goodIn_of _ (by decide +kernel)) ggL_act_X0_die
set_option maxRecDepth 20000 in
theorem ggL_act_X0_carry : GoodIn wsL_act wsX0_carry := goodIn_ca (goodIn_ca (goodIn_r _ [240, 30, 50, 241, 209, 242, 101, 102, 103, 25, 104, 65, 66, 29, 243, 244, 245, 246, 247, 248, 34, 35, 249, 250, 251, 252, 115, 116, 117, 118, 119, 120, 121, 122, 84, 85, 86, 87, 83, 88, 76, 77, 78, 262, 263, 264, 265, 266, 267, 268, 269, 270, 271] (by decide +kernel) (by decide +kernel)) (goodIn_sub (fun _ h => List.mem_cons_of_mem _ (List.mem_append_right _ h)) (by decide +kernel))) (goodIn_sub (fun _ h => List.mem_cons_of_mem _ (List.mem_append_left _ (List.mem_append_right _ h))) (by decide +kernel))
set_option maxRecDepth 20000 in
theorem gL_act_X0_carry : GoodIn wsL_act (wsV RL 91 RX0 yX0_carry wsX0_carry) := goodIn_app (goodIn_of _ (by decide +kernel)) ggL_act_X0_carry
set_option maxRecDepth 20000 in
theorem ggL_act_X1_carry : GoodIn wsL_act wsX1_carry := goodIn_r _ [256, 14, 40, 15, 198, 135, 90, 91, 12, 92, 16, 204, 72, 73, 74, 75, 76, 77, 78, 257, 258, 259, 260, 261] (by decide +kernel) (by decide +kernel)
set_option maxRecDepth 20000 in
theorem gL_act_X1_carry : GoodIn wsL_act (wsV RL 94 RX1 yX1_carry wsX1_carry) := goodIn_app (goodIn_of _ (by decide +kernel)) ggL_act_X1_carry
theorem dL_act_0 : decode cL_act 0 = .ok (.iload_n 2, 1) := by decide +kernel
theorem dL_act_1 : decode cL_act 1 = .ok (.iconst 3, 1) := by decide +kernel
theorem dL_act_2 : decode cL_act 2 = .ok (.ishr, 1) := by decide +kernel
theorem dL_act_3 : decode cL_act 3 = .ok (.aload_n 1, 1) := by decide +kernel
theorem dL_act_4 : decode cL_act 4 = .ok (.getfield 9, 3) := by decide +kernel
theorem dL_act_7 : decode cL_act 7 = .ok (.arraylength, 1) := by decide +kernel
theorem dL_act_8 : decode cL_act 8 = .ok (.invokestatic 15, 3) := by decide +kernel
theorem dL_act_11 : decode cL_act 11 = .ok (.istore_n 3, 1) := by decide +kernel
theorem dL_act_12 : decode cL_act 12 = .ok (.iload_n 2, 1) := by decide +kernel
theorem dL_act_13 : decode cL_act 13 = .ok (.bipush 6, 2) := by decide +kernel
theorem dL_act_15 : decode cL_act 15 = .ok (.ishr, 1) := by decide +kernel
theorem dL_act_16 : decode cL_act 16 = .ok (.iconst 4, 1) := by decide +kernel
theorem dL_act_17 : decode cL_act 17 = .ok (.invokestatic 15, 3) := by decide +kernel
theorem dL_act_20 : decode cL_act 20 = .ok (.istore 4, 2) := by decide +kernel
theorem dL_act_22 : decode cL_act 22 = .ok (.iload_n 2, 1) := by decide +kernel
theorem dL_act_23 : decode cL_act 23 = .ok (.iconst 4, 1) := by decide +kernel
theorem dL_act_24 : decode cL_act 24 = .ok (.ishr, 1) := by decide +kernel
theorem dL_act_25 : decode cL_act 25 = .ok (.aload_n 1, 1) := by decide +kernel
theorem dL_act_26 : decode cL_act 26 = .ok (.getfield 21, 3) := by decide +kernel
theorem dL_act_29 : decode cL_act 29 = .ok (.arraylength, 1) := by decide +kernel
theorem dL_act_30 : decode cL_act 30 = .ok (.invokestatic 15, 3) := by decide +kernel
theorem dL_act_33 : decode cL_act 33 = .ok (.istore 5, 2) := by decide +kernel
theorem dL_act_35 : decode cL_act 35 = .ok (.iload_n 2, 1) := by decide +kernel
theorem dL_act_36 : decode cL_act 36 = .ok (.bipush 8, 2) := by decide +kernel
theorem dL_act_38 : decode cL_act 38 = .ok (.ishr, 1) := by decide +kernel
theorem dL_act_39 : decode cL_act 39 = .ok (.aload_n 1, 1) := by decide +kernel
theorem dL_act_40 : decode cL_act 40 = .ok (.getfield 21, 3) := by decide +kernel
theorem dL_act_43 : decode cL_act 43 = .ok (.arraylength, 1) := by decide +kernel
theorem dL_act_44 : decode cL_act 44 = .ok (.invokestatic 15, 3) := by decide +kernel
theorem dL_act_47 : decode cL_act 47 = .ok (.istore 6, 2) := by decide +kernel
theorem dL_act_49 : decode cL_act 49 = .ok (.iconst 1, 1) := by decide +kernel
theorem dL_act_50 : decode cL_act 50 = .ok (.iload_n 2, 1) := by decide +kernel
theorem dL_act_51 : decode cL_act 51 = .ok (.iconst 5, 1) := by decide +kernel
theorem dL_act_52 : decode cL_act 52 = .ok (.ishr, 1) := by decide +kernel
theorem dL_act_53 : decode cL_act 53 = .ok (.iload_n 2, 1) := by decide +kernel
theorem dL_act_54 : decode cL_act 54 = .ok (.bipush 9, 2) := by decide +kernel
theorem dL_act_56 : decode cL_act 56 = .ok (.ishr, 1) := by decide +kernel
theorem dL_act_57 : decode cL_act 57 = .ok (.iconst 3, 1) := by decide +kernel
theorem dL_act_58 : decode cL_act 58 = .ok (.invokestatic 15, 3) := by decide +kernel
theorem dL_act_61 : decode cL_act 61 = .ok (.ifCond .ne 8, 3) := by decide +kernel
theorem dL_act_64 : decode cL_act 64 = .ok (.bipush 64, 2) := by decide +kernel
theorem dL_act_66 : decode cL_act 66 = .ok (.goto 5, 3) := by decide +kernel
theorem dL_act_69 : decode cL_act 69 = .ok (.bipush 20, 2) := by decide +kernel
theorem dL_act_71 : decode cL_act 71 = .ok (.invokestatic 15, 3) := by decide +kernel
theorem dL_act_74 : decode cL_act 74 = .ok (.iadd, 1) := by decide +kernel
theorem dL_act_75 : decode cL_act 75 = .ok (.istore 7, 2) := by decide +kernel
theorem dL_act_77 : decode cL_act 77 = .ok (.aload_n 1, 1) := by decide +kernel
theorem dL_act_78 : decode cL_act 78 = .ok (.getfield 21, 3) := by decide +kernel
theorem dL_act_81 : decode cL_act 81 = .ok (.iload 5, 2) := by decide +kernel
theorem dL_act_83 : decode cL_act 83 = .ok (.aaload, 1) := by decide +kernel
theorem dL_act_84 : decode cL_act 84 = .ok (.iconst 3, 1) := by decide +kernel
theorem dL_act_85 : decode cL_act 85 = .ok (.iaload, 1) := by decide +kernel
theorem dL_act_86 : decode cL_act 86 = .ok (.ifCond .ne 7, 3) := by decide +kernel
theorem dL_act_89 : decode cL_act 89 = .ok (.iconst 1, 1) := by decide +kernel
theorem dL_act_90 : decode cL_act 90 = .ok (.goto 4, 3) := by decide +kernel
theorem dL_act_93 : decode cL_act 93 = .ok (.iconst 0, 1) := by decide +kernel
theorem dL_act_94 : decode cL_act 94 = .ok (.istore 8, 2) := by decide +kernel
theorem dL_act_96 : decode cL_act 96 = .ok (.iload_n 2, 1) := by decide +kernel
theorem dL_act_97 : decode cL_act 97 = .ok (.bipush 18, 2) := by decide +kernel
theorem dL_act_99 : decode cL_act 99 = .ok (.invokestatic 15, 3) := by decide +kernel
theorem dL_act_102 : decode cL_act 102 = .ok (.tableswitch 733 0 14 #[74, 135, 187, 187, 245, 245, 319, 319, 319, 392, 479, 479, 479, 578, 678], 74) := by decide +kernel
theorem dL_act_176 : decode cL_act 176 = .ok (.aload_n 1, 1) := by decide +kernel
theorem dL_act_177 : decode cL_act 177 = .ok (.getfield 9, 3) := by decide +kernel
theorem dL_act_180 : decode cL_act 180 = .ok (.arraylength, 1) := by decide +kernel
theorem dL_act_181 : decode cL_act 181 = .ok (.bipush 6, 2) := by decide +kernel
theorem dL_act_183 : decode cL_act 183 = .ok (.if_icmp .ge 7, 3) := by decide +kernel
theorem dL_act_186 : decode cL_act 186 = .ok (.iconst 1, 1) := by decide +kernel
theorem dL_act_187 : decode cL_act 187 = .ok (.goto 4, 3) := by decide +kernel
theorem dL_act_190 : decode cL_act 190 = .ok (.iconst 0, 1) := by decide +kernel
theorem dL_act_191 : decode cL_act 191 = .ok (.istore 8, 2) := by decide +kernel
theorem dL_act_193 : decode cL_act 193 = .ok (.iload 8, 2) := by decide +kernel
theorem dL_act_195 : decode cL_act 195 = .ok (.ifCond .eq 12, 3) := by decide +kernel
theorem dL_act_198 : decode cL_act 198 = .ok (.aload_n 1, 1) := by decide +kernel
theorem dL_act_199 : decode cL_act 199 = .ok (.iload 7, 2) := by decide +kernel
theorem dL_act_201 : decode cL_act 201 = .ok (.bipush 21, 2) := by decide +kernel
theorem dL_act_203 : decode cL_act 203 = .ok (.irem, 1) := by decide +kernel
theorem dL_act_204 : decode cL_act 204 = .ok (.invokevirtual 25, 3) := by decide +kernel
theorem dL_act_207 : decode cL_act 207 = .ok (.aload_n 0, 1) := by decide +kernel
theorem dL_act_208 : decode cL_act 208 = .ok (.iload 7, 2) := by decide +kernel
theorem dL_act_210 : decode cL_act 210 = .ok (.bipush 21, 2) := by decide +kernel
theorem dL_act_212 : decode cL_act 212 = .ok (.irem, 1) := by decide +kernel
theorem dL_act_213 : decode cL_act 213 = .ok (.invokevirtual 29, 3) := by decide +kernel
theorem dL_act_216 : decode cL_act 216 = .ok (.aload_n 1, 1) := by decide +kernel
theorem dL_act_217 : decode cL_act 217 = .ok (.getfield 9, 3) := by decide +kernel
theorem dL_act_220 : decode cL_act 220 = .ok (.arraylength, 1) := by decide +kernel
theorem dL_act_221 : decode cL_act 221 = .ok (.iconst 1, 1) := by decide +kernel
theorem dL_act_222 : decode cL_act 222 = .ok (.isub, 1) := by decide +kernel
theorem dL_act_223 : decode cL_act 223 = .ok (.if_icmp .ne 12, 3) := by decide +kernel
theorem dL_act_226 : decode cL_act 226 = .ok (.iload 8, 2) := by decide +kernel
theorem dL_act_228 : decode cL_act 228 = .ok (.ifCond .eq 7, 3) := by decide +kernel
theorem dL_act_231 : decode cL_act 231 = .ok (.iconst 1, 1) := by decide +kernel
theorem dL_act_232 : decode cL_act 232 = .ok (.goto 4, 3) := by decide +kernel
theorem dL_act_235 : decode cL_act 235 = .ok (.iconst 0, 1) := by decide +kernel
theorem dL_act_236 : decode cL_act 236 = .ok (.ireturn, 1) := by decide +kernel
theorem dL_act_237 : decode cL_act 237 = .ok (.aload_n 1, 1) := by decide +kernel
theorem dL_act_238 : decode cL_act 238 = .ok (.getfield 21, 3) := by decide +kernel
theorem dL_act_241 : decode cL_act 241 = .ok (.arraylength, 1) := by decide +kernel
theorem dL_act_242 : decode cL_act 242 = .ok (.bipush 12, 2) := by decide +kernel
theorem dL_act_244 : decode cL_act 244 = .ok (.if_icmp .ge 7, 3) := by decide +kernel
theorem dL_act_247 : decode cL_act 247 = .ok (.iconst 1, 1) := by decide +kernel
theorem dL_act_248 : decode cL_act 248 = .ok (.goto 4, 3) := by decide +kernel
theorem dL_act_251 : decode cL_act 251 = .ok (.iconst 0, 1) := by decide +kernel
theorem dL_act_252 : decode cL_act 252 = .ok (.istore 8, 2) := by decide +kernel
theorem dL_act_254 : decode cL_act 254 = .ok (.iload 8, 2) := by decide +kernel
theorem dL_act_256 : decode cL_act 256 = .ok (.ifCond .eq 8, 3) := by decide +kernel
theorem dL_act_259 : decode cL_act 259 = .ok (.aload_n 1, 1) := by decide +kernel
theorem dL_act_260 : decode cL_act 260 = .ok (.iconst (-1), 1) := by decide +kernel
theorem dL_act_261 : decode cL_act 261 = .ok (.invokevirtual 34, 3) := by decide +kernel
theorem dL_act_264 : decode cL_act 264 = .ok (.aload_n 0, 1) := by decide +kernel
theorem dL_act_265 : decode cL_act 265 = .ok (.invokevirtual 37, 3) := by decide +kernel
theorem dL_act_268 : decode cL_act 268 = .ok (.aload_n 1, 1) := by decide +kernel
theorem dL_act_269 : decode cL_act 269 = .ok (.getfield 21, 3) := by decide +kernel
theorem dL_act_272 : decode cL_act 272 = .ok (.arraylength, 1) := by decide +kernel
theorem dL_act_273 : decode cL_act 273 = .ok (.iconst 1, 1) := by decide +kernel
theorem dL_act_274 : decode cL_act 274 = .ok (.isub, 1) := by decide +kernel
theorem dL_act_275 : decode cL_act 275 = .ok (.if_icmp .ne 12, 3) := by decide +kernel
theorem dL_act_278 : decode cL_act 278 = .ok (.iload 8, 2) := by decide +kernel
theorem dL_act_280 : decode cL_act 280 = .ok (.ifCond .eq 7, 3) := by decide +kernel
theorem dL_act_283 : decode cL_act 283 = .ok (.iconst 1, 1) := by decide +kernel
theorem dL_act_284 : decode cL_act 284 = .ok (.goto 4, 3) := by decide +kernel
theorem dL_act_287 : decode cL_act 287 = .ok (.iconst 0, 1) := by decide +kernel
theorem dL_act_288 : decode cL_act 288 = .ok (.ireturn, 1) := by decide +kernel
theorem dL_act_289 : decode cL_act 289 = .ok (.iload 8, 2) := by decide +kernel
theorem dL_act_291 : decode cL_act 291 = .ok (.aload_n 1, 1) := by decide +kernel
theorem dL_act_292 : decode cL_act 292 = .ok (.getfield 21, 3) := by decide +kernel
theorem dL_act_295 : decode cL_act 295 = .ok (.arraylength, 1) := by decide +kernel
theorem dL_act_296 : decode cL_act 296 = .ok (.bipush 12, 2) := by decide +kernel
theorem dL_act_298 : decode cL_act 298 = .ok (.if_icmp .ge 7, 3) := by decide +kernel
theorem dL_act_301 : decode cL_act 301 = .ok (.iconst 1, 1) := by decide +kernel
theorem dL_act_302 : decode cL_act 302 = .ok (.goto 4, 3) := by decide +kernel
theorem dL_act_305 : decode cL_act 305 = .ok (.iconst 0, 1) := by decide +kernel
theorem dL_act_306 : decode cL_act 306 = .ok (.iand, 1) := by decide +kernel
theorem dL_act_307 : decode cL_act 307 = .ok (.istore 8, 2) := by decide +kernel
theorem dL_act_309 : decode cL_act 309 = .ok (.iload 8, 2) := by decide +kernel
theorem dL_act_311 : decode cL_act 311 = .ok (.ifCond .eq 9, 3) := by decide +kernel
theorem dL_act_314 : decode cL_act 314 = .ok (.aload_n 1, 1) := by decide +kernel
theorem dL_act_315 : decode cL_act 315 = .ok (.iload 5, 2) := by decide +kernel
theorem dL_act_317 : decode cL_act 317 = .ok (.invokevirtual 34, 3) := by decide +kernel
theorem dL_act_320 : decode cL_act 320 = .ok (.aload_n 0, 1) := by decide +kernel
theorem dL_act_321 : decode cL_act 321 = .ok (.iload 5, 2) := by decide +kernel
theorem dL_act_323 : decode cL_act 323 = .ok (.invokevirtual 40, 3) := by decide +kernel
theorem dL_act_326 : decode cL_act 326 = .ok (.aload_n 1, 1) := by decide +kernel
theorem dL_act_327 : decode cL_act 327 = .ok (.getfield 21, 3) := by decide +kernel
theorem dL_act_330 : decode cL_act 330 = .ok (.arraylength, 1) := by decide +kernel
theorem dL_act_331 : decode cL_act 331 = .ok (.iconst 1, 1) := by decide +kernel
theorem dL_act_332 : decode cL_act 332 = .ok (.isub, 1) := by decide +kernel
theorem dL_act_333 : decode cL_act 333 = .ok (.if_icmp .ne 12, 3) := by decide +kernel
theorem dL_act_336 : decode cL_act 336 = .ok (.iload 8, 2) := by decide +kernel
theorem dL_act_338 : decode cL_act 338 = .ok (.ifCond .eq 7, 3) := by decide +kernel
theorem dL_act_341 : decode cL_act 341 = .ok (.iconst 1, 1) := by decide +kernel
theorem dL_act_342 : decode cL_act 342 = .ok (.goto 4, 3) := by decide +kernel
theorem dL_act_345 : decode cL_act 345 = .ok (.iconst 0, 1) := by decide +kernel
theorem dL_act_346 : decode cL_act 346 = .ok (.ireturn, 1) := by decide +kernel
theorem dL_act_347 : decode cL_act 347 = .ok (.iconst 1, 1) := by decide +kernel
theorem dL_act_348 : decode cL_act 348 = .ok (.iload_n 2, 1) := by decide +kernel
theorem dL_act_349 : decode cL_act 349 = .ok (.bipush 7, 2) := by decide +kernel
theorem dL_act_351 : decode cL_act 351 = .ok (.ishr, 1) := by decide +kernel
theorem dL_act_352 : decode cL_act 352 = .ok (.iload_n 2, 1) := by decide +kernel
theorem dL_act_353 : decode cL_act 353 = .ok (.iconst 5, 1) := by decide +kernel
theorem dL_act_354 : decode cL_act 354 = .ok (.ishr, 1) := by decide +kernel
theorem dL_act_355 : decode cL_act 355 = .ok (.iconst 4, 1) := by decide +kernel
theorem dL_act_356 : decode cL_act 356 = .ok (.invokestatic 15, 3) := by decide +kernel
theorem dL_act_359 : decode cL_act 359 = .ok (.ifCond .ne 9, 3) := by decide +kernel
theorem dL_act_362 : decode cL_act 362 = .ok (.sipush 9999, 3) := by decide +kernel
theorem dL_act_365 : decode cL_act 365 = .ok (.goto 6, 3) := by decide +kernel
theorem dL_act_368 : decode cL_act 368 = .ok (.sipush 900, 3) := by decide +kernel
theorem dL_act_371 : decode cL_act 371 = .ok (.invokestatic 15, 3) := by decide +kernel
theorem dL_act_374 : decode cL_act 374 = .ok (.iadd, 1) := by decide +kernel
theorem dL_act_375 : decode cL_act 375 = .ok (.istore 9, 2) := by decide +kernel
theorem dL_act_377 : decode cL_act 377 = .ok (.iload 8, 2) := by decide +kernel
theorem dL_act_379 : decode cL_act 379 = .ok (.ifCond .eq 11, 3) := by decide +kernel
theorem dL_act_382 : decode cL_act 382 = .ok (.aload_n 1, 1) := by decide +kernel
theorem dL_act_383 : decode cL_act 383 = .ok (.iload 5, 2) := by decide +kernel
theorem dL_act_385 : decode cL_act 385 = .ok (.iload 9, 2) := by decide +kernel
theorem dL_act_387 : decode cL_act 387 = .ok (.invokevirtual 43, 3) := by decide +kernel
theorem dL_act_390 : decode cL_act 390 = .ok (.aload_n 0, 1) := by decide +kernel
theorem dL_act_391 : decode cL_act 391 = .ok (.iload 5, 2) := by decide +kernel
theorem dL_act_393 : decode cL_act 393 = .ok (.iload 9, 2) := by decide +kernel
theorem dL_act_395 : decode cL_act 395 = .ok (.invokevirtual 47, 3) := by decide +kernel
theorem dL_act_398 : decode cL_act 398 = .ok (.aload_n 1, 1) := by decide +kernel
theorem dL_act_399 : decode cL_act 399 = .ok (.getfield 21, 3) := by decide +kernel
theorem dL_act_402 : decode cL_act 402 = .ok (.iload 5, 2) := by decide +kernel
theorem dL_act_404 : decode cL_act 404 = .ok (.aaload, 1) := by decide +kernel
theorem dL_act_405 : decode cL_act 405 = .ok (.iconst 0, 1) := by decide +kernel
theorem dL_act_406 : decode cL_act 406 = .ok (.iaload, 1) := by decide +kernel
theorem dL_act_407 : decode cL_act 407 = .ok (.if_icmp .ne 12, 3) := by decide +kernel
theorem dL_act_410 : decode cL_act 410 = .ok (.iload 8, 2) := by decide +kernel
theorem dL_act_412 : decode cL_act 412 = .ok (.ifCond .eq 7, 3) := by decide +kernel
theorem dL_act_415 : decode cL_act 415 = .ok (.iconst 1, 1) := by decide +kernel
theorem dL_act_416 : decode cL_act 416 = .ok (.goto 4, 3) := by decide +kernel
theorem dL_act_419 : decode cL_act 419 = .ok (.iconst 0, 1) := by decide +kernel
theorem dL_act_420 : decode cL_act 420 = .ok (.ireturn, 1) := by decide +kernel
theorem dL_act_421 : decode cL_act 421 = .ok (.iload 8, 2) := by decide +kernel
theorem dL_act_423 : decode cL_act 423 = .ok (.aload_n 1, 1) := by decide +kernel
theorem dL_act_424 : decode cL_act 424 = .ok (.iload_n 3, 1) := by decide +kernel
theorem dL_act_425 : decode cL_act 425 = .ok (.iload 4, 2) := by decide +kernel
theorem dL_act_427 : decode cL_act 427 = .ok (.iconst (-1), 1) := by decide +kernel
theorem dL_act_428 : decode cL_act 428 = .ok (.invokevirtual 50, 3) := by decide +kernel
theorem dL_act_431 : decode cL_act 431 = .ok (.iload 7, 2) := by decide +kernel
theorem dL_act_433 : decode cL_act 433 = .ok (.if_icmp .lt 7, 3) := by decide +kernel
theorem dL_act_436 : decode cL_act 436 = .ok (.iconst 1, 1) := by decide +kernel
theorem dL_act_437 : decode cL_act 437 = .ok (.goto 4, 3) := by decide +kernel
theorem dL_act_440 : decode cL_act 440 = .ok (.iconst 0, 1) := by decide +kernel
theorem dL_act_441 : decode cL_act 441 = .ok (.iand, 1) := by decide +kernel
theorem dL_act_442 : decode cL_act 442 = .ok (.istore 8, 2) := by decide +kernel
theorem dL_act_444 : decode cL_act 444 = .ok (.iload 8, 2) := by decide +kernel
theorem dL_act_446 : decode cL_act 446 = .ok (.ifCond .eq 15, 3) := by decide +kernel
theorem dL_act_449 : decode cL_act 449 = .ok (.aload_n 1, 1) := by decide +kernel
theorem dL_act_450 : decode cL_act 450 = .ok (.iload_n 3, 1) := by decide +kernel
theorem dL_act_451 : decode cL_act 451 = .ok (.iload 4, 2) := by decide +kernel
theorem dL_act_453 : decode cL_act 453 = .ok (.iconst (-1), 1) := by decide +kernel
theorem dL_act_454 : decode cL_act 454 = .ok (.iload 5, 2) := by decide +kernel
theorem dL_act_456 : decode cL_act 456 = .ok (.iload 7, 2) := by decide +kernel
theorem dL_act_458 : decode cL_act 458 = .ok (.invokevirtual 54, 3) := by decide +kernel
theorem dL_act_461 : decode cL_act 461 = .ok (.aload_n 0, 1) := by decide +kernel
theorem dL_act_462 : decode cL_act 462 = .ok (.iload_n 3, 1) := by decide +kernel
theorem dL_act_463 : decode cL_act 463 = .ok (.iload 4, 2) := by decide +kernel
theorem dL_act_465 : decode cL_act 465 = .ok (.iload 5, 2) := by decide +kernel
theorem dL_act_467 : decode cL_act 467 = .ok (.iload 7, 2) := by decide +kernel
theorem dL_act_469 : decode cL_act 469 = .ok (.invokevirtual 58, 3) := by decide +kernel
theorem dL_act_472 : decode cL_act 472 = .ok (.aload_n 1, 1) := by decide +kernel
theorem dL_act_473 : decode cL_act 473 = .ok (.iload_n 3, 1) := by decide +kernel
theorem dL_act_474 : decode cL_act 474 = .ok (.iload 4, 2) := by decide +kernel
theorem dL_act_476 : decode cL_act 476 = .ok (.iconst (-1), 1) := by decide +kernel
theorem dL_act_477 : decode cL_act 477 = .ok (.invokevirtual 50, 3) := by decide +kernel
theorem dL_act_480 : decode cL_act 480 = .ok (.if_icmp .ne 12, 3) := by decide +kernel
theorem dL_act_483 : decode cL_act 483 = .ok (.iload 8, 2) := by decide +kernel
theorem dL_act_485 : decode cL_act 485 = .ok (.ifCond .eq 7, 3) := by decide +kernel
theorem dL_act_488 : decode cL_act 488 = .ok (.iconst 1, 1) := by decide +kernel
theorem dL_act_489 : decode cL_act 489 = .ok (.goto 4, 3) := by decide +kernel
theorem dL_act_492 : decode cL_act 492 = .ok (.iconst 0, 1) := by decide +kernel
theorem dL_act_493 : decode cL_act 493 = .ok (.ireturn, 1) := by decide +kernel
theorem dL_act_494 : decode cL_act 494 = .ok (.iload 5, 2) := by decide +kernel
theorem dL_act_496 : decode cL_act 496 = .ok (.iload 6, 2) := by decide +kernel
theorem dL_act_498 : decode cL_act 498 = .ok (.if_icmp .ne 5, 3) := by decide +kernel
theorem dL_act_501 : decode cL_act 501 = .ok (.iconst 1, 1) := by decide +kernel
theorem dL_act_502 : decode cL_act 502 = .ok (.ireturn, 1) := by decide +kernel
theorem dL_act_503 : decode cL_act 503 = .ok (.iload 8, 2) := by decide +kernel
theorem dL_act_505 : decode cL_act 505 = .ok (.aload_n 1, 1) := by decide +kernel
theorem dL_act_506 : decode cL_act 506 = .ok (.iload_n 3, 1) := by decide +kernel
theorem dL_act_507 : decode cL_act 507 = .ok (.iload 4, 2) := by decide +kernel
theorem dL_act_509 : decode cL_act 509 = .ok (.iload 6, 2) := by decide +kernel
theorem dL_act_511 : decode cL_act 511 = .ok (.invokevirtual 50, 3) := by decide +kernel
theorem dL_act_514 : decode cL_act 514 = .ok (.iload 7, 2) := by decide +kernel
theorem dL_act_516 : decode cL_act 516 = .ok (.if_icmp .lt 7, 3) := by decide +kernel
theorem dL_act_519 : decode cL_act 519 = .ok (.iconst 1, 1) := by decide +kernel
theorem dL_act_520 : decode cL_act 520 = .ok (.goto 4, 3) := by decide +kernel
theorem dL_act_523 : decode cL_act 523 = .ok (.iconst 0, 1) := by decide +kernel
theorem dL_act_524 : decode cL_act 524 = .ok (.iand, 1) := by decide +kernel
theorem dL_act_525 : decode cL_act 525 = .ok (.istore 8, 2) := by decide +kernel
theorem dL_act_527 : decode cL_act 527 = .ok (.iload 8, 2) := by decide +kernel
theorem dL_act_529 : decode cL_act 529 = .ok (.ifCond .eq 16, 3) := by decide +kernel
theorem dL_act_532 : decode cL_act 532 = .ok (.aload_n 1, 1) := by decide +kernel
theorem dL_act_533 : decode cL_act 533 = .ok (.iload_n 3, 1) := by decide +kernel
theorem dL_act_534 : decode cL_act 534 = .ok (.iload 4, 2) := by decide +kernel
theorem dL_act_536 : decode cL_act 536 = .ok (.iload 6, 2) := by decide +kernel
theorem dL_act_538 : decode cL_act 538 = .ok (.iload 5, 2) := by decide +kernel
theorem dL_act_540 : decode cL_act 540 = .ok (.iload 7, 2) := by decide +kernel
theorem dL_act_542 : decode cL_act 542 = .ok (.invokevirtual 54, 3) := by decide +kernel
theorem dL_act_545 : decode cL_act 545 = .ok (.aload_n 0, 1) := by decide +kernel
theorem dL_act_546 : decode cL_act 546 = .ok (.iload 6, 2) := by decide +kernel
theorem dL_act_548 : decode cL_act 548 = .ok (.iload 5, 2) := by decide +kernel
theorem dL_act_550 : decode cL_act 550 = .ok (.iload_n 3, 1) := by decide +kernel
theorem dL_act_551 : decode cL_act 551 = .ok (.iload 4, 2) := by decide +kernel
theorem dL_act_553 : decode cL_act 553 = .ok (.iload 7, 2) := by decide +kernel
theorem dL_act_555 : decode cL_act 555 = .ok (.invokevirtual 62, 3) := by decide +kernel
theorem dL_act_558 : decode cL_act 558 = .ok (.aload_n 1, 1) := by decide +kernel
theorem dL_act_559 : decode cL_act 559 = .ok (.iload_n 3, 1) := by decide +kernel
theorem dL_act_560 : decode cL_act 560 = .ok (.iload 4, 2) := by decide +kernel
theorem dL_act_562 : decode cL_act 562 = .ok (.iload 5, 2) := by decide +kernel
theorem dL_act_564 : decode cL_act 564 = .ok (.invokevirtual 50, 3) := by decide +kernel
theorem dL_act_567 : decode cL_act 567 = .ok (.if_icmp .ne 12, 3) := by decide +kernel
theorem dL_act_570 : decode cL_act 570 = .ok (.iload 8, 2) := by decide +kernel
theorem dL_act_572 : decode cL_act 572 = .ok (.ifCond .eq 7, 3) := by decide +kernel
theorem dL_act_575 : decode cL_act 575 = .ok (.iconst 1, 1) := by decide +kernel
theorem dL_act_576 : decode cL_act 576 = .ok (.goto 4, 3) := by decide +kernel
theorem dL_act_579 : decode cL_act 579 = .ok (.iconst 0, 1) := by decide +kernel
theorem dL_act_580 : decode cL_act 580 = .ok (.ireturn, 1) := by decide +kernel
theorem dL_act_581 : decode cL_act 581 = .ok (.aload_n 1, 1) := by decide +kernel
theorem dL_act_582 : decode cL_act 582 = .ok (.iload 5, 2) := by decide +kernel
theorem dL_act_584 : decode cL_act 584 = .ok (.iload 6, 2) := by decide +kernel
theorem dL_act_586 : decode cL_act 586 = .ok (.iload_n 3, 1) := by decide +kernel
theorem dL_act_587 : decode cL_act 587 = .ok (.iload 4, 2) := by decide +kernel
theorem dL_act_589 : decode cL_act 589 = .ok (.invokevirtual 66, 3) := by decide +kernel
theorem dL_act_592 : decode cL_act 592 = .ok (.istore 8, 2) := by decide +kernel
theorem dL_act_594 : decode cL_act 594 = .ok (.aload_n 1, 1) := by decide +kernel
theorem dL_act_595 : decode cL_act 595 = .ok (.iload_n 3, 1) := by decide +kernel
theorem dL_act_596 : decode cL_act 596 = .ok (.iload 4, 2) := by decide +kernel
theorem dL_act_598 : decode cL_act 598 = .ok (.iload 6, 2) := by decide +kernel
theorem dL_act_600 : decode cL_act 600 = .ok (.invokevirtual 50, 3) := by decide +kernel
theorem dL_act_603 : decode cL_act 603 = .ok (.aload_n 1, 1) := by decide +kernel
theorem dL_act_604 : decode cL_act 604 = .ok (.iload_n 3, 1) := by decide +kernel
theorem dL_act_605 : decode cL_act 605 = .ok (.iload 4, 2) := by decide +kernel
theorem dL_act_607 : decode cL_act 607 = .ok (.invokevirtual 70, 3) := by decide +kernel
theorem dL_act_610 : decode cL_act 610 = .ok (.imul, 1) := by decide +kernel
theorem dL_act_611 : decode cL_act 611 = .ok (.istore 9, 2) := by decide +kernel
theorem dL_act_613 : decode cL_act 613 = .ok (.iload 8, 2) := by decide +kernel
theorem dL_act_615 : decode cL_act 615 = .ok (.ifCond .eq 38, 3) := by decide +kernel
theorem dL_act_618 : decode cL_act 618 = .ok (.aload_n 1, 1) := by decide +kernel
theorem dL_act_619 : decode cL_act 619 = .ok (.getfield 21, 3) := by decide +kernel
theorem dL_act_622 : decode cL_act 622 = .ok (.iload 5, 2) := by decide +kernel
theorem dL_act_624 : decode cL_act 624 = .ok (.aaload, 1) := by decide +kernel
theorem dL_act_625 : decode cL_act 625 = .ok (.iconst 0, 1) := by decide +kernel
theorem dL_act_626 : decode cL_act 626 = .ok (.dup2, 1) := by decide +kernel
theorem dL_act_627 : decode cL_act 627 = .ok (.iaload, 1) := by decide +kernel
theorem dL_act_628 : decode cL_act 628 = .ok (.iload 9, 2) := by decide +kernel
theorem dL_act_630 : decode cL_act 630 = .ok (.isub, 1) := by decide +kernel
theorem dL_act_631 : decode cL_act 631 = .ok (.iastore, 1) := by decide +kernel
theorem dL_act_632 : decode cL_act 632 = .ok (.aload_n 1, 1) := by decide +kernel
theorem dL_act_633 : decode cL_act 633 = .ok (.iload 6, 2) := by decide +kernel
theorem dL_act_635 : decode cL_act 635 = .ok (.iload 9, 2) := by decide +kernel
theorem dL_act_637 : decode cL_act 637 = .ok (.invokevirtual 43, 3) := by decide +kernel
theorem dL_act_640 : decode cL_act 640 = .ok (.aload_n 1, 1) := by decide +kernel
theorem dL_act_641 : decode cL_act 641 = .ok (.iload_n 3, 1) := by decide +kernel
theorem dL_act_642 : decode cL_act 642 = .ok (.iload 4, 2) := by decide +kernel
theorem dL_act_644 : decode cL_act 644 = .ok (.iload 6, 2) := by decide +kernel
theorem dL_act_646 : decode cL_act 646 = .ok (.iload 5, 2) := by decide +kernel
theorem dL_act_648 : decode cL_act 648 = .ok (.bipush 64, 2) := by decide +kernel
theorem dL_act_650 : decode cL_act 650 = .ok (.invokevirtual 54, 3) := by decide +kernel
theorem dL_act_653 : decode cL_act 653 = .ok (.aload_n 0, 1) := by decide +kernel
theorem dL_act_654 : decode cL_act 654 = .ok (.iload 5, 2) := by decide +kernel
theorem dL_act_656 : decode cL_act 656 = .ok (.iload 6, 2) := by decide +kernel
theorem dL_act_658 : decode cL_act 658 = .ok (.iload_n 3, 1) := by decide +kernel
theorem dL_act_659 : decode cL_act 659 = .ok (.iload 4, 2) := by decide +kernel
theorem dL_act_661 : decode cL_act 661 = .ok (.invokevirtual 73, 3) := by decide +kernel
theorem dL_act_664 : decode cL_act 664 = .ok (.iload 9, 2) := by decide +kernel
theorem dL_act_666 : decode cL_act 666 = .ok (.if_icmp .ne 12, 3) := by decide +kernel
theorem dL_act_669 : decode cL_act 669 = .ok (.iload 8, 2) := by decide +kernel
theorem dL_act_671 : decode cL_act 671 = .ok (.ifCond .eq 7, 3) := by decide +kernel
theorem dL_act_674 : decode cL_act 674 = .ok (.iconst 1, 1) := by decide +kernel
theorem dL_act_675 : decode cL_act 675 = .ok (.goto 4, 3) := by decide +kernel
theorem dL_act_678 : decode cL_act 678 = .ok (.iconst 0, 1) := by decide +kernel
theorem dL_act_679 : decode cL_act 679 = .ok (.ireturn, 1) := by decide +kernel
theorem dL_act_680 : decode cL_act 680 = .ok (.iload_n 2, 1) := by decide +kernel
theorem dL_act_681 : decode cL_act 681 = .ok (.bipush 9, 2) := by decide +kernel
theorem dL_act_683 : decode cL_act 683 = .ok (.ishr, 1) := by decide +kernel
theorem dL_act_684 : decode cL_act 684 = .ok (.iconst 2, 1) := by decide +kernel
theorem dL_act_685 : decode cL_act 685 = .ok (.invokestatic 15, 3) := by decide +kernel
theorem dL_act_688 : decode cL_act 688 = .ok (.ifCond .ne 19, 3) := by decide +kernel
theorem dL_act_691 : decode cL_act 691 = .ok (.aload_n 1, 1) := by decide +kernel
theorem dL_act_692 : decode cL_act 692 = .ok (.iload_n 3, 1) := by decide +kernel
theorem dL_act_693 : decode cL_act 693 = .ok (.invokevirtual 76, 3) := by decide +kernel
theorem dL_act_696 : decode cL_act 696 = .ok (.ifCond .lt 11, 3) := by decide +kernel
theorem dL_act_699 : decode cL_act 699 = .ok (.aload_n 1, 1) := by decide +kernel
theorem dL_act_700 : decode cL_act 700 = .ok (.iload_n 3, 1) := by decide +kernel
theorem dL_act_701 : decode cL_act 701 = .ok (.invokevirtual 76, 3) := by decide +kernel
theorem dL_act_704 : decode cL_act 704 = .ok (.goto 5, 3) := by decide +kernel
theorem dL_act_707 : decode cL_act 707 = .ok (.iload 5, 2) := by decide +kernel
theorem dL_act_709 : decode cL_act 709 = .ok (.istore 9, 2) := by decide +kernel
theorem dL_act_711 : decode cL_act 711 = .ok (.aload_n 1, 1) := by decide +kernel
theorem dL_act_712 : decode cL_act 712 = .ok (.iload_n 3, 1) := by decide +kernel
theorem dL_act_713 : decode cL_act 713 = .ok (.invokevirtual 76, 3) := by decide +kernel
theorem dL_act_716 : decode cL_act 716 = .ok (.iload 9, 2) := by decide +kernel
theorem dL_act_718 : decode cL_act 718 = .ok (.if_icmp .ne 7, 3) := by decide +kernel
theorem dL_act_721 : decode cL_act 721 = .ok (.iconst 1, 1) := by decide +kernel
theorem dL_act_722 : decode cL_act 722 = .ok (.goto 4, 3) := by decide +kernel
theorem dL_act_725 : decode cL_act 725 = .ok (.iconst 0, 1) := by decide +kernel
theorem dL_act_726 : decode cL_act 726 = .ok (.istore 8, 2) := by decide +kernel
theorem dL_act_728 : decode cL_act 728 = .ok (.aload_n 1, 1) := by decide +kernel
theorem dL_act_729 : decode cL_act 729 = .ok (.getfield 9, 3) := by decide +kernel
theorem dL_act_732 : decode cL_act 732 = .ok (.iload_n 3, 1) := by decide +kernel
theorem dL_act_733 : decode cL_act 733 = .ok (.iaload, 1) := by decide +kernel
theorem dL_act_734 : decode cL_act 734 = .ok (.istore 10, 2) := by decide +kernel
theorem dL_act_736 : decode cL_act 736 = .ok (.iload 8, 2) := by decide +kernel
theorem dL_act_738 : decode cL_act 738 = .ok (.ifCond .eq 14, 3) := by decide +kernel
theorem dL_act_741 : decode cL_act 741 = .ok (.aload_n 1, 1) := by decide +kernel
theorem dL_act_742 : decode cL_act 742 = .ok (.getfield 9, 3) := by decide +kernel
theorem dL_act_745 : decode cL_act 745 = .ok (.iload_n 3, 1) := by decide +kernel
theorem dL_act_746 : decode cL_act 746 = .ok (.iload 7, 2) := by decide +kernel
theorem dL_act_748 : decode cL_act 748 = .ok (.bipush 21, 2) := by decide +kernel
theorem dL_act_750 : decode cL_act 750 = .ok (.irem, 1) := by decide +kernel
theorem dL_act_751 : decode cL_act 751 = .ok (.iastore, 1) := by decide +kernel
theorem dL_act_752 : decode cL_act 752 = .ok (.aload_n 0, 1) := by decide +kernel
theorem dL_act_753 : decode cL_act 753 = .ok (.iload_n 3, 1) := by decide +kernel
theorem dL_act_754 : decode cL_act 754 = .ok (.iload 9, 2) := by decide +kernel
theorem dL_act_756 : decode cL_act 756 = .ok (.iload 7, 2) := by decide +kernel
theorem dL_act_758 : decode cL_act 758 = .ok (.bipush 21, 2) := by decide +kernel
theorem dL_act_760 : decode cL_act 760 = .ok (.irem, 1) := by decide +kernel
theorem dL_act_761 : decode cL_act 761 = .ok (.invokevirtual 79, 3) := by decide +kernel
theorem dL_act_764 : decode cL_act 764 = .ok (.iload 10, 2) := by decide +kernel
theorem dL_act_766 : decode cL_act 766 = .ok (.if_icmp .ne 12, 3) := by decide +kernel
theorem dL_act_769 : decode cL_act 769 = .ok (.iload 8, 2) := by decide +kernel
theorem dL_act_771 : decode cL_act 771 = .ok (.ifCond .eq 7, 3) := by decide +kernel
theorem dL_act_774 : decode cL_act 774 = .ok (.iconst 1, 1) := by decide +kernel
theorem dL_act_775 : decode cL_act 775 = .ok (.goto 4, 3) := by decide +kernel
theorem dL_act_778 : decode cL_act 778 = .ok (.iconst 0, 1) := by decide +kernel
theorem dL_act_779 : decode cL_act 779 = .ok (.ireturn, 1) := by decide +kernel
theorem dL_act_780 : decode cL_act 780 = .ok (.iload_n 2, 1) := by decide +kernel
theorem dL_act_781 : decode cL_act 781 = .ok (.bipush 6, 2) := by decide +kernel
theorem dL_act_783 : decode cL_act 783 = .ok (.ishr, 1) := by decide +kernel
theorem dL_act_784 : decode cL_act 784 = .ok (.iconst 3, 1) := by decide +kernel
theorem dL_act_785 : decode cL_act 785 = .ok (.invokestatic 15, 3) := by decide +kernel
theorem dL_act_788 : decode cL_act 788 = .ok (.ifCond .le 5, 3) := by decide +kernel
theorem dL_act_791 : decode cL_act 791 = .ok (.iconst 1, 1) := by decide +kernel
theorem dL_act_792 : decode cL_act 792 = .ok (.ireturn, 1) := by decide +kernel
theorem dL_act_793 : decode cL_act 793 = .ok (.aload_n 1, 1) := by decide +kernel
theorem dL_act_794 : decode cL_act 794 = .ok (.iload 5, 2) := by decide +kernel
theorem dL_act_796 : decode cL_act 796 = .ok (.invokevirtual 82, 3) := by decide +kernel
theorem dL_act_799 : decode cL_act 799 = .ok (.arraylength, 1) := by decide +kernel
theorem dL_act_800 : decode cL_act 800 = .ok (.istore 9, 2) := by decide +kernel
theorem dL_act_802 : decode cL_act 802 = .ok (.iload 8, 2) := by decide +kernel
theorem dL_act_804 : decode cL_act 804 = .ok (.ifCond .eq 9, 3) := by decide +kernel
theorem dL_act_807 : decode cL_act 807 = .ok (.aload_n 1, 1) := by decide +kernel
theorem dL_act_808 : decode cL_act 808 = .ok (.iload 5, 2) := by decide +kernel
theorem dL_act_810 : decode cL_act 810 = .ok (.invokevirtual 86, 3) := by decide +kernel
theorem dL_act_813 : decode cL_act 813 = .ok (.aload_n 0, 1) := by decide +kernel
theorem dL_act_814 : decode cL_act 814 = .ok (.iload 5, 2) := by decide +kernel
theorem dL_act_816 : decode cL_act 816 = .ok (.invokevirtual 89, 3) := by decide +kernel
theorem dL_act_819 : decode cL_act 819 = .ok (.iload 9, 2) := by decide +kernel
theorem dL_act_821 : decode cL_act 821 = .ok (.if_icmp .ne 12, 3) := by decide +kernel
theorem dL_act_824 : decode cL_act 824 = .ok (.iload 8, 2) := by decide +kernel
theorem dL_act_826 : decode cL_act 826 = .ok (.ifCond .eq 7, 3) := by decide +kernel
theorem dL_act_829 : decode cL_act 829 = .ok (.iconst 1, 1) := by decide +kernel
theorem dL_act_830 : decode cL_act 830 = .ok (.goto 4, 3) := by decide +kernel
theorem dL_act_833 : decode cL_act 833 = .ok (.iconst 0, 1) := by decide +kernel
theorem dL_act_834 : decode cL_act 834 = .ok (.ireturn, 1) := by decide +kernel
theorem dL_act_835 : decode cL_act 835 = .ok (.iconst 1, 1) := by decide +kernel
theorem dL_act_836 : decode cL_act 836 = .ok (.istore 8, 2) := by decide +kernel
theorem dL_act_838 : decode cL_act 838 = .ok (.iload_n 2, 1) := by decide +kernel
theorem dL_act_839 : decode cL_act 839 = .ok (.bipush 7, 2) := by decide +kernel
theorem dL_act_841 : decode cL_act 841 = .ok (.ishr, 1) := by decide +kernel
theorem dL_act_842 : decode cL_act 842 = .ok (.bipush 24, 2) := by decide +kernel
theorem dL_act_844 : decode cL_act 844 = .ok (.invokestatic 15, 3) := by decide +kernel
theorem dL_act_847 : decode cL_act 847 = .ok (.istore 9, 2) := by decide +kernel
theorem dL_act_849 : decode cL_act 849 = .ok (.iconst 1, 1) := by decide +kernel
theorem dL_act_850 : decode cL_act 850 = .ok (.iload_n 2, 1) := by decide +kernel
theorem dL_act_851 : decode cL_act 851 = .ok (.iconst 4, 1) := by decide +kernel
theorem dL_act_852 : decode cL_act 852 = .ok (.ishr, 1) := by decide +kernel
theorem dL_act_853 : decode cL_act 853 = .ok (.sipush 200, 3) := by decide +kernel
theorem dL_act_856 : decode cL_act 856 = .ok (.invokestatic 15, 3) := by decide +kernel
theorem dL_act_859 : decode cL_act 859 = .ok (.iadd, 1) := by decide +kernel
theorem dL_act_860 : decode cL_act 860 = .ok (.istore 10, 2) := by decide +kernel
theorem dL_act_862 : decode cL_act 862 = .ok (.aload_n 0, 1) := by decide +kernel
theorem dL_act_863 : decode cL_act 863 = .ok (.iload_n 3, 1) := by decide +kernel
theorem dL_act_864 : decode cL_act 864 = .ok (.iload 9, 2) := by decide +kernel
theorem dL_act_866 : decode cL_act 866 = .ok (.iload 10, 2) := by decide +kernel
theorem dL_act_868 : decode cL_act 868 = .ok (.invokevirtual 91, 3) := by decide +kernel
theorem dL_act_871 : decode cL_act 871 = .ok (.aload_n 1, 1) := by decide +kernel
theorem dL_act_872 : decode cL_act 872 = .ok (.iload_n 3, 1) := by decide +kernel
theorem dL_act_873 : decode cL_act 873 = .ok (.iload 9, 2) := by decide +kernel
theorem dL_act_875 : decode cL_act 875 = .ok (.iload 10, 2) := by decide +kernel
theorem dL_act_877 : decode cL_act 877 = .ok (.invokevirtual 94, 3) := by decide +kernel
theorem dL_act_880 : decode cL_act 880 = .ok (.if_icmp .ne 7, 3) := by decide +kernel
theorem dL_act_883 : decode cL_act 883 = .ok (.iconst 1, 1) := by decide +kernel
theorem dL_act_884 : decode cL_act 884 = .ok (.goto 4, 3) := by decide +kernel
theorem dL_act_887 : decode cL_act 887 = .ok (.iconst 0, 1) := by decide +kernel
theorem dL_act_888 : decode cL_act 888 = .ok (.ireturn, 1) := by decide +kernel
theorem dL_act_889 : decode cL_act 889 = .ok (.astore 9, 2) := by decide +kernel
theorem dL_act_891 : decode cL_act 891 = .ok (.iload 8, 2) := by decide +kernel
theorem dL_act_893 : decode cL_act 893 = .ok (.ifCond .ne 7, 3) := by decide +kernel
theorem dL_act_896 : decode cL_act 896 = .ok (.iconst 1, 1) := by decide +kernel
theorem dL_act_897 : decode cL_act 897 = .ok (.goto 4, 3) := by decide +kernel
theorem dL_act_900 : decode cL_act 900 = .ok (.iconst 0, 1) := by decide +kernel
theorem dL_act_901 : decode cL_act 901 = .ok (.ireturn, 1) := by decide +kernel
set_option maxRecDepth 20000 in
theorem ggL_build_X1_init : GoodIn wsL_build wsX1_init := goodIn_r _ [7, 8, 9, 10, 11, 12, 13, 14, 30, 15, 16, 137, 138, 139, 140, 141] (by decide +kernel) (by decide +kernel)
set_option maxRecDepth 20000 in
theorem gL_build_X1_init_n97 : GoodIn wsL_build (wsX1_init) := ggL_build_X1_init
set_option maxRecDepth 20000 in
theorem ggL_build_L_cell : GoodIn wsL_build wsL_cell := goodIn_r _ [20, 21] (by decide +kernel) (by decide +kernel)
set_option maxRecDepth 20000 in
theorem gL_build_L_cell : GoodIn wsL_build (va_wsS RL 98 yL_cell wsL_cell) := goodIn_app (goodIn_of _ (by decide +kernel)) ggL_build_L_cell
set_option maxRecDepth 20000 in
theorem ggL_build_L_below : GoodIn wsL_build wsL_below := goodIn_r _ [24, 25] (by decide +kernel) (by decide +kernel)
set_option maxRecDepth 20000 in
theorem gL_build_L_below : GoodIn wsL_build (va_wsS RL 15 yL_below wsL_below) := goodIn_app (goodIn_of _ (by decide +kernel)) ggL_build_L_below
set_option maxRecDepth 20000 in
theorem ggL_build_X1_addFerry : GoodIn wsL_build wsX1_addFerry := goodIn_r _ [29, 12, 13, 14, 30, 11, 31, 32, 3, 33, 137, 138, 139, 140, 141] (by decide +kernel) (by decide +kernel)
set_option maxRecDepth 20000 in
theorem gL_build_X1_addFerry : GoodIn wsL_build (wsV RL 25 RX1 yX1_addFerry wsX1_addFerry) := goodIn_app (goodIn_of _ (by decide +kernel)) ggL_build_X1_addFerry
set_option maxRecDepth 20000 in
theorem ggL_build_X0_addFerry : GoodIn wsL_build wsX0_addFerry := goodIn_ca (goodIn_ca (goodIn_r _ [38, 39, 40, 41, 42, 43, 44, 37, 45, 46, 47, 142, 143, 144, 145, 146, 147, 148, 149, 150, 151] (by decide +kernel) (by decide +kernel)) (goodIn_sub (fun _ h => List.mem_cons_of_mem _ (List.mem_append_left _ (List.mem_append_left _ (List.mem_append_right _ h)))) (by decide +kernel))) (goodIn_sub (fun _ h => List.mem_cons_of_mem _ (List.mem_append_left _ (List.mem_append_right _ h))) (by decide +kernel))
set_option maxRecDepth 20000 in
theorem gL_build_X0_addFerry : GoodIn wsL_build (wsV RL 29 RX0 yX0_addFerry wsX0_addFerry) := goodIn_app (goodIn_of _ (by decide +kernel)) ggL_build_X0_addFerry
set_option maxRecDepth 20000 in
theorem ggL_build_X1_addPerson : GoodIn wsL_build wsX1_addPerson := goodIn_r _ [51, 16, 15, 11, 137, 138, 139, 140, 141] (by decide +kernel) (by decide +kernel)
set_option maxRecDepth 20000 in
theorem gL_build_X1_addPerson : GoodIn wsL_build (wsV RL 34 RX1 yX1_addPerson wsX1_addPerson) := goodIn_app (goodIn_of _ (by decide +kernel)) ggL_build_X1_addPerson
set_option maxRecDepth 20000 in
theorem ggL_build_X0_addPerson : GoodIn wsL_build wsX0_addPerson := goodIn_ca (goodIn_r _ [55, 56, 57, 58, 37, 59, 39, 40, 60, 61, 62, 63, 64, 65, 66, 142, 143, 144, 145, 146, 147, 148, 149, 150, 151] (by decide +kernel) (by decide +kernel)) (goodIn_sub (fun _ h => List.mem_cons_of_mem _ (List.mem_append_left _ (List.mem_append_left _ (List.mem_append_right _ h)))) (by decide +kernel))
set_option maxRecDepth 20000 in
theorem gL_build_X0_addPerson : GoodIn wsL_build (wsV RL 37 RX0 yX0_addPerson wsX0_addPerson) := goodIn_app (goodIn_of _ (by decide +kernel)) ggL_build_X0_addPerson
set_option maxRecDepth 20000 in
theorem ggL_build_X0_addChild : GoodIn wsL_build wsX0_addChild := goodIn_ca (goodIn_ca (goodIn_r _ [70, 71, 72, 73, 37, 74, 75, 76, 60, 77, 78, 79, 80, 39, 40, 65, 56, 57, 58, 59, 61, 62, 63, 64, 66, 142, 143, 144, 145, 146, 147, 148, 149, 150, 151] (by decide +kernel) (by decide +kernel)) (goodIn_sub (fun _ h => List.mem_cons_of_mem _ (List.mem_append_right _ h)) (by decide +kernel))) (goodIn_sub (fun _ h => List.mem_cons_of_mem _ (List.mem_append_left _ (List.mem_append_left _ (List.mem_append_right _ h)))) (by decide +kernel))
set_option maxRecDepth 20000 in
theorem gL_build_X0_addChild : GoodIn wsL_build (wsV RL 40 RX0 yX0_addChild wsX0_addChild) := goodIn_app (goodIn_of _ (by decide +kernel)) ggL_build_X0_addChild
set_option maxRecDepth 20000 in
theorem ggL_build_X1_has : GoodIn wsL_build wsX1_has := goodIn_r _ [84, 14, 137, 138, 139, 140, 141] (by decide +kernel) (by decide +kernel)
set_option maxRecDepth 20000 in
theorem gL_build_X1_has : GoodIn wsL_build (wsV RL 50 RX1 yX1_has wsX1_has) := goodIn_app (goodIn_of _ (by decide +kernel)) ggL_build_X1_has
set_option maxRecDepth 20000 in
theorem ggL_build_X1_hand : GoodIn wsL_build wsX1_hand := goodIn_r _ [88, 14, 137, 138, 139, 140, 141] (by decide +kernel) (by decide +kernel)
set_option maxRecDepth 20000 in
theorem gL_build_X1_hand : GoodIn wsL_build (wsV RL 54 RX1 yX1_hand wsX1_hand) := goodIn_app (goodIn_of _ (by decide +kernel)) ggL_build_X1_hand
set_option maxRecDepth 20000 in
theorem ggL_build_X0_grant : GoodIn wsL_build wsX0_grant := goodIn_ca (goodIn_ca (goodIn_ca (goodIn_r _ [92, 39, 40, 93, 94, 95, 37, 96, 75, 76, 41, 97, 98, 99, 71, 72, 73, 74, 60, 100, 101, 102, 46, 47, 77, 78, 79, 80, 65, 103, 104, 105, 106, 107, 108, 109, 110, 111, 112, 113, 114, 115, 116, 117, 118, 142, 143, 144, 145, 146, 147, 148, 149, 150, 151] (by decide +kernel) (by decide +kernel)) (goodIn_sub (fun _ h => List.mem_cons_of_mem _ (List.mem_append_left _ (List.mem_append_left _ (List.mem_append_right _ h)))) (by decide +kernel))) (goodIn_sub (fun _ h => List.mem_cons_of_mem _ (List.mem_append_right _ h)) (by decide +kernel))) (goodIn_sub (fun _ h => List.mem_cons_of_mem _ (List.mem_append_left _ (List.mem_append_right _ h))) (by decide +kernel))
set_option maxRecDepth 20000 in
theorem gL_build_X0_grant : GoodIn wsL_build (wsV RL 58 RX0 yX0_grant wsX0_grant) := goodIn_app (goodIn_of _ (by decide +kernel)) ggL_build_X0_grant
set_option maxRecDepth 20000 in
theorem ggL_build_X1_get : GoodIn wsL_build wsX1_get := goodIn_r _ [122, 16, 123, 124, 125, 126, 137, 138, 139, 140, 141] (by decide +kernel) (by decide +kernel)
set_option maxRecDepth 20000 in
theorem gL_build_X1_get : GoodIn wsL_build (wsV RL 43 RX1 yX1_get wsX1_get) := goodIn_app (goodIn_of _ (by decide +kernel)) ggL_build_X1_get
set_option maxRecDepth 20000 in
theorem ggL_build_X0_pay : GoodIn wsL_build wsX0_pay := goodIn_ca (goodIn_ca (goodIn_ca (goodIn_r _ [130, 46, 47, 131, 71, 72, 73, 37, 74, 75, 76, 60, 77, 78, 79, 80, 39, 40, 65, 132, 133, 134, 135, 136, 124, 125, 126, 142, 143, 144, 145, 146, 147, 148, 149, 150, 151] (by decide +kernel) (by decide +kernel)) (goodIn_sub (fun _ h => List.mem_cons_of_mem _ (List.mem_append_left _ (List.mem_append_right _ h))) (by decide +kernel))) (goodIn_sub (fun _ h => List.mem_cons_of_mem _ (List.mem_append_right _ h)) (by decide +kernel))) (goodIn_sub (fun _ h => List.mem_cons_of_mem _ (List.mem_append_left _ (List.mem_append_left _ (List.mem_append_right _ h)))) (by decide +kernel))
set_option maxRecDepth 20000 in
theorem gL_build_X0_pay : GoodIn wsL_build (wsV RL 47 RX0 yX0_pay wsX0_pay) := goodIn_app (goodIn_of _ (by decide +kernel)) ggL_build_X0_pay
theorem dL_build_0 : decode cL_build 0 = .ok (.new 10, 3) := by decide +kernel
theorem dL_build_3 : decode cL_build 3 = .ok (.dup, 1) := by decide +kernel
theorem dL_build_4 : decode cL_build 4 = .ok (.invokespecial 97, 3) := by decide +kernel
theorem dL_build_7 : decode cL_build 7 = .ok (.astore_n 2, 1) := by decide +kernel
theorem dL_build_8 : decode cL_build 8 = .ok (.iconst 0, 1) := by decide +kernel
theorem dL_build_9 : decode cL_build 9 = .ok (.istore_n 3, 1) := by decide +kernel
theorem dL_build_10 : decode cL_build 10 = .ok (.iload_n 3, 1) := by decide +kernel
theorem dL_build_11 : decode cL_build 11 = .ok (.iconst 1, 1) := by decide +kernel
theorem dL_build_12 : decode cL_build 12 = .ok (.aload_n 1, 1) := by decide +kernel
theorem dL_build_13 : decode cL_build 13 = .ok (.iconst 0, 1) := by decide +kernel
theorem dL_build_14 : decode cL_build 14 = .ok (.invokestatic 98, 3) := by decide +kernel
theorem dL_build_17 : decode cL_build 17 = .ok (.iconst 4, 1) := by decide +kernel
theorem dL_build_18 : decode cL_build 18 = .ok (.invokestatic 15, 3) := by decide +kernel
theorem dL_build_21 : decode cL_build 21 = .ok (.iadd, 1) := by decide +kernel
theorem dL_build_22 : decode cL_build 22 = .ok (.if_icmp .ge 43, 3) := by decide +kernel
theorem dL_build_25 : decode cL_build 25 = .ok (.aload_n 1, 1) := by decide +kernel
theorem dL_build_26 : decode cL_build 26 = .ok (.iconst 1, 1) := by decide +kernel
theorem dL_build_27 : decode cL_build 27 = .ok (.invokestatic 98, 3) := by decide +kernel
theorem dL_build_30 : decode cL_build 30 = .ok (.iconst 3, 1) := by decide +kernel
theorem dL_build_31 : decode cL_build 31 = .ok (.iload_n 3, 1) := by decide +kernel
theorem dL_build_32 : decode cL_build 32 = .ok (.imul, 1) := by decide +kernel
theorem dL_build_33 : decode cL_build 33 = .ok (.ishr, 1) := by decide +kernel
theorem dL_build_34 : decode cL_build 34 = .ok (.bipush 21, 2) := by decide +kernel
theorem dL_build_36 : decode cL_build 36 = .ok (.invokestatic 15, 3) := by decide +kernel
theorem dL_build_39 : decode cL_build 39 = .ok (.istore 4, 2) := by decide +kernel
theorem dL_build_41 : decode cL_build 41 = .ok (.aload_n 2, 1) := by decide +kernel
theorem dL_build_42 : decode cL_build 42 = .ok (.iload 4, 2) := by decide +kernel
theorem dL_build_44 : decode cL_build 44 = .ok (.invokevirtual 25, 3) := by decide +kernel
theorem dL_build_47 : decode cL_build 47 = .ok (.aload_n 0, 1) := by decide +kernel
theorem dL_build_48 : decode cL_build 48 = .ok (.iload 4, 2) := by decide +kernel
theorem dL_build_50 : decode cL_build 50 = .ok (.invokevirtual 29, 3) := by decide +kernel
theorem dL_build_53 : decode cL_build 53 = .ok (.iload_n 3, 1) := by decide +kernel
theorem dL_build_54 : decode cL_build 54 = .ok (.if_icmp .eq 5, 3) := by decide +kernel
theorem dL_build_57 : decode cL_build 57 = .ok (.aconst_null, 1) := by decide +kernel
theorem dL_build_58 : decode cL_build 58 = .ok (.areturn, 1) := by decide +kernel
theorem dL_build_59 : decode cL_build 59 = .ok (.iinc 3 1, 3) := by decide +kernel
theorem dL_build_62 : decode cL_build 62 = .ok (.goto (-52), 3) := by decide +kernel
theorem dL_build_65 : decode cL_build 65 = .ok (.iconst 2, 1) := by decide +kernel
theorem dL_build_66 : decode cL_build 66 = .ok (.aload_n 1, 1) := by decide +kernel
theorem dL_build_67 : decode cL_build 67 = .ok (.iconst 0, 1) := by decide +kernel
theorem dL_build_68 : decode cL_build 68 = .ok (.invokestatic 98, 3) := by decide +kernel
theorem dL_build_71 : decode cL_build 71 = .ok (.iconst 4, 1) := by decide +kernel
theorem dL_build_72 : decode cL_build 72 = .ok (.ishr, 1) := by decide +kernel
theorem dL_build_73 : decode cL_build 73 = .ok (.bipush 9, 2) := by decide +kernel
theorem dL_build_75 : decode cL_build 75 = .ok (.invokestatic 15, 3) := by decide +kernel
theorem dL_build_78 : decode cL_build 78 = .ok (.iadd, 1) := by decide +kernel
theorem dL_build_79 : decode cL_build 79 = .ok (.istore_n 3, 1) := by decide +kernel
theorem dL_build_80 : decode cL_build 80 = .ok (.iconst 0, 1) := by decide +kernel
theorem dL_build_81 : decode cL_build 81 = .ok (.istore 4, 2) := by decide +kernel
theorem dL_build_83 : decode cL_build 83 = .ok (.iload 4, 2) := by decide +kernel
theorem dL_build_85 : decode cL_build 85 = .ok (.iload_n 3, 1) := by decide +kernel
theorem dL_build_86 : decode cL_build 86 = .ok (.if_icmp .ge 81, 3) := by decide +kernel
theorem dL_build_89 : decode cL_build 89 = .ok (.iload 4, 2) := by decide +kernel
theorem dL_build_91 : decode cL_build 91 = .ok (.ifCond .eq 18, 3) := by decide +kernel
theorem dL_build_94 : decode cL_build 94 = .ok (.aload_n 1, 1) := by decide +kernel
theorem dL_build_95 : decode cL_build 95 = .ok (.iconst 2, 1) := by decide +kernel
theorem dL_build_96 : decode cL_build 96 = .ok (.invokestatic 98, 3) := by decide +kernel
theorem dL_build_99 : decode cL_build 99 = .ok (.iload 4, 2) := by decide +kernel
theorem dL_build_101 : decode cL_build 101 = .ok (.ishr, 1) := by decide +kernel
theorem dL_build_102 : decode cL_build 102 = .ok (.iconst 3, 1) := by decide +kernel
theorem dL_build_103 : decode cL_build 103 = .ok (.invokestatic 15, 3) := by decide +kernel
theorem dL_build_106 : decode cL_build 106 = .ok (.ifCond .ne 7, 3) := by decide +kernel
theorem dL_build_109 : decode cL_build 109 = .ok (.iconst (-1), 1) := by decide +kernel
theorem dL_build_110 : decode cL_build 110 = .ok (.goto 18, 3) := by decide +kernel
theorem dL_build_113 : decode cL_build 113 = .ok (.aload_n 1, 1) := by decide +kernel
theorem dL_build_114 : decode cL_build 114 = .ok (.iconst 3, 1) := by decide +kernel
theorem dL_build_115 : decode cL_build 115 = .ok (.invokestatic 98, 3) := by decide +kernel
theorem dL_build_118 : decode cL_build 118 = .ok (.iconst 2, 1) := by decide +kernel
theorem dL_build_119 : decode cL_build 119 = .ok (.iload 4, 2) := by decide +kernel
theorem dL_build_121 : decode cL_build 121 = .ok (.imul, 1) := by decide +kernel
theorem dL_build_122 : decode cL_build 122 = .ok (.ishr, 1) := by decide +kernel
theorem dL_build_123 : decode cL_build 123 = .ok (.iload 4, 2) := by decide +kernel
theorem dL_build_125 : decode cL_build 125 = .ok (.invokestatic 15, 3) := by decide +kernel
theorem dL_build_128 : decode cL_build 128 = .ok (.istore 5, 2) := by decide +kernel
theorem dL_build_130 : decode cL_build 130 = .ok (.aload_n 2, 1) := by decide +kernel
theorem dL_build_131 : decode cL_build 131 = .ok (.iload 5, 2) := by decide +kernel
theorem dL_build_133 : decode cL_build 133 = .ok (.invokevirtual 34, 3) := by decide +kernel
theorem dL_build_136 : decode cL_build 136 = .ok (.iload 5, 2) := by decide +kernel
theorem dL_build_138 : decode cL_build 138 = .ok (.ifCond .ge 10, 3) := by decide +kernel
theorem dL_build_141 : decode cL_build 141 = .ok (.aload_n 0, 1) := by decide +kernel
theorem dL_build_142 : decode cL_build 142 = .ok (.invokevirtual 37, 3) := by decide +kernel
theorem dL_build_145 : decode cL_build 145 = .ok (.goto 9, 3) := by decide +kernel
theorem dL_build_148 : decode cL_build 148 = .ok (.aload_n 0, 1) := by decide +kernel
theorem dL_build_149 : decode cL_build 149 = .ok (.iload 5, 2) := by decide +kernel
theorem dL_build_151 : decode cL_build 151 = .ok (.invokevirtual 40, 3) := by decide +kernel
theorem dL_build_154 : decode cL_build 154 = .ok (.iload 4, 2) := by decide +kernel
theorem dL_build_156 : decode cL_build 156 = .ok (.if_icmp .eq 5, 3) := by decide +kernel
theorem dL_build_159 : decode cL_build 159 = .ok (.aconst_null, 1) := by decide +kernel
theorem dL_build_160 : decode cL_build 160 = .ok (.areturn, 1) := by decide +kernel
theorem dL_build_161 : decode cL_build 161 = .ok (.iinc 4 1, 3) := by decide +kernel
theorem dL_build_164 : decode cL_build 164 = .ok (.goto (-81), 3) := by decide +kernel
theorem dL_build_167 : decode cL_build 167 = .ok (.iconst 0, 1) := by decide +kernel
theorem dL_build_168 : decode cL_build 168 = .ok (.istore 4, 2) := by decide +kernel
theorem dL_build_170 : decode cL_build 170 = .ok (.iload 4, 2) := by decide +kernel
theorem dL_build_172 : decode cL_build 172 = .ok (.bipush 12, 2) := by decide +kernel
theorem dL_build_174 : decode cL_build 174 = .ok (.if_icmp .ge 187, 3) := by decide +kernel
theorem dL_build_177 : decode cL_build 177 = .ok (.aload_n 1, 1) := by decide +kernel
theorem dL_build_178 : decode cL_build 178 = .ok (.iconst 4, 1) := by decide +kernel
theorem dL_build_179 : decode cL_build 179 = .ok (.iload 4, 2) := by decide +kernel
theorem dL_build_181 : decode cL_build 181 = .ok (.iadd, 1) := by decide +kernel
theorem dL_build_182 : decode cL_build 182 = .ok (.invokestatic 98, 3) := by decide +kernel
theorem dL_build_185 : decode cL_build 185 = .ok (.iconst 1, 1) := by decide +kernel
theorem dL_build_186 : decode cL_build 186 = .ok (.ishr, 1) := by decide +kernel
theorem dL_build_187 : decode cL_build 187 = .ok (.bipush 29, 2) := by decide +kernel
theorem dL_build_189 : decode cL_build 189 = .ok (.iload 4, 2) := by decide +kernel
theorem dL_build_191 : decode cL_build 191 = .ok (.imul, 1) := by decide +kernel
theorem dL_build_192 : decode cL_build 192 = .ok (.iadd, 1) := by decide +kernel
theorem dL_build_193 : decode cL_build 193 = .ok (.istore 5, 2) := by decide +kernel
theorem dL_build_195 : decode cL_build 195 = .ok (.iload 5, 2) := by decide +kernel
theorem dL_build_197 : decode cL_build 197 = .ok (.aload_n 2, 1) := by decide +kernel
theorem dL_build_198 : decode cL_build 198 = .ok (.getfield 9, 3) := by decide +kernel
theorem dL_build_201 : decode cL_build 201 = .ok (.arraylength, 1) := by decide +kernel
theorem dL_build_202 : decode cL_build 202 = .ok (.invokestatic 15, 3) := by decide +kernel
theorem dL_build_205 : decode cL_build 205 = .ok (.istore 6, 2) := by decide +kernel
theorem dL_build_207 : decode cL_build 207 = .ok (.iload 5, 2) := by decide +kernel
theorem dL_build_209 : decode cL_build 209 = .ok (.iconst 2, 1) := by decide +kernel
theorem dL_build_210 : decode cL_build 210 = .ok (.ishr, 1) := by decide +kernel
theorem dL_build_211 : decode cL_build 211 = .ok (.iconst 4, 1) := by decide +kernel
theorem dL_build_212 : decode cL_build 212 = .ok (.invokestatic 15, 3) := by decide +kernel
theorem dL_build_215 : decode cL_build 215 = .ok (.istore 7, 2) := by decide +kernel
theorem dL_build_217 : decode cL_build 217 = .ok (.iload 5, 2) := by decide +kernel
theorem dL_build_219 : decode cL_build 219 = .ok (.iconst 4, 1) := by decide +kernel
theorem dL_build_220 : decode cL_build 220 = .ok (.ishr, 1) := by decide +kernel
theorem dL_build_221 : decode cL_build 221 = .ok (.iload_n 3, 1) := by decide +kernel
theorem dL_build_222 : decode cL_build 222 = .ok (.invokestatic 15, 3) := by decide +kernel
theorem dL_build_225 : decode cL_build 225 = .ok (.istore 8, 2) := by decide +kernel
theorem dL_build_227 : decode cL_build 227 = .ok (.iconst 1, 1) := by decide +kernel
theorem dL_build_228 : decode cL_build 228 = .ok (.iload 5, 2) := by decide +kernel
theorem dL_build_230 : decode cL_build 230 = .ok (.bipush 6, 2) := by decide +kernel
theorem dL_build_232 : decode cL_build 232 = .ok (.ishr, 1) := by decide +kernel
theorem dL_build_233 : decode cL_build 233 = .ok (.bipush 33, 2) := by decide +kernel
theorem dL_build_235 : decode cL_build 235 = .ok (.invokestatic 15, 3) := by decide +kernel
theorem dL_build_238 : decode cL_build 238 = .ok (.iadd, 1) := by decide +kernel
theorem dL_build_239 : decode cL_build 239 = .ok (.istore 9, 2) := by decide +kernel
theorem dL_build_241 : decode cL_build 241 = .ok (.aload_n 2, 1) := by decide +kernel
theorem dL_build_242 : decode cL_build 242 = .ok (.iload 6, 2) := by decide +kernel
theorem dL_build_244 : decode cL_build 244 = .ok (.iload 7, 2) := by decide +kernel
theorem dL_build_246 : decode cL_build 246 = .ok (.iconst (-1), 1) := by decide +kernel
theorem dL_build_247 : decode cL_build 247 = .ok (.invokevirtual 50, 3) := by decide +kernel
theorem dL_build_250 : decode cL_build 250 = .ok (.iload 9, 2) := by decide +kernel
theorem dL_build_252 : decode cL_build 252 = .ok (.if_icmp .ge 6, 3) := by decide +kernel
theorem dL_build_255 : decode cL_build 255 = .ok (.goto 100, 3) := by decide +kernel
theorem dL_build_258 : decode cL_build 258 = .ok (.aload_n 2, 1) := by decide +kernel
theorem dL_build_259 : decode cL_build 259 = .ok (.iload 6, 2) := by decide +kernel
theorem dL_build_261 : decode cL_build 261 = .ok (.iload 7, 2) := by decide +kernel
theorem dL_build_263 : decode cL_build 263 = .ok (.iconst (-1), 1) := by decide +kernel
theorem dL_build_264 : decode cL_build 264 = .ok (.iload 8, 2) := by decide +kernel
theorem dL_build_266 : decode cL_build 266 = .ok (.iload 9, 2) := by decide +kernel
theorem dL_build_268 : decode cL_build 268 = .ok (.invokevirtual 54, 3) := by decide +kernel
theorem dL_build_271 : decode cL_build 271 = .ok (.aload_n 0, 1) := by decide +kernel
theorem dL_build_272 : decode cL_build 272 = .ok (.iload 6, 2) := by decide +kernel
theorem dL_build_274 : decode cL_build 274 = .ok (.iload 7, 2) := by decide +kernel
theorem dL_build_276 : decode cL_build 276 = .ok (.iload 8, 2) := by decide +kernel
theorem dL_build_278 : decode cL_build 278 = .ok (.iload 9, 2) := by decide +kernel
theorem dL_build_280 : decode cL_build 280 = .ok (.invokevirtual 58, 3) := by decide +kernel
theorem dL_build_283 : decode cL_build 283 = .ok (.aload_n 2, 1) := by decide +kernel
theorem dL_build_284 : decode cL_build 284 = .ok (.iload 6, 2) := by decide +kernel
theorem dL_build_286 : decode cL_build 286 = .ok (.iload 7, 2) := by decide +kernel
theorem dL_build_288 : decode cL_build 288 = .ok (.iconst (-1), 1) := by decide +kernel
theorem dL_build_289 : decode cL_build 289 = .ok (.invokevirtual 50, 3) := by decide +kernel
theorem dL_build_292 : decode cL_build 292 = .ok (.if_icmp .eq 5, 3) := by decide +kernel
theorem dL_build_295 : decode cL_build 295 = .ok (.aconst_null, 1) := by decide +kernel
theorem dL_build_296 : decode cL_build 296 = .ok (.areturn, 1) := by decide +kernel
theorem dL_build_297 : decode cL_build 297 = .ok (.iload 5, 2) := by decide +kernel
theorem dL_build_299 : decode cL_build 299 = .ok (.iconst 3, 1) := by decide +kernel
theorem dL_build_300 : decode cL_build 300 = .ok (.ishr, 1) := by decide +kernel
theorem dL_build_301 : decode cL_build 301 = .ok (.iconst 2, 1) := by decide +kernel
theorem dL_build_302 : decode cL_build 302 = .ok (.invokestatic 15, 3) := by decide +kernel
theorem dL_build_305 : decode cL_build 305 = .ok (.ifCond .ne 6, 3) := by decide +kernel
theorem dL_build_308 : decode cL_build 308 = .ok (.goto 47, 3) := by decide +kernel
theorem dL_build_311 : decode cL_build 311 = .ok (.iconst 1, 1) := by decide +kernel
theorem dL_build_312 : decode cL_build 312 = .ok (.iload 5, 2) := by decide +kernel
theorem dL_build_314 : decode cL_build 314 = .ok (.iconst 5, 1) := by decide +kernel
theorem dL_build_315 : decode cL_build 315 = .ok (.ishr, 1) := by decide +kernel
theorem dL_build_316 : decode cL_build 316 = .ok (.sipush 2500, 3) := by decide +kernel
theorem dL_build_319 : decode cL_build 319 = .ok (.invokestatic 15, 3) := by decide +kernel
theorem dL_build_322 : decode cL_build 322 = .ok (.iadd, 1) := by decide +kernel
theorem dL_build_323 : decode cL_build 323 = .ok (.istore 10, 2) := by decide +kernel
theorem dL_build_325 : decode cL_build 325 = .ok (.aload_n 2, 1) := by decide +kernel
theorem dL_build_326 : decode cL_build 326 = .ok (.iload 8, 2) := by decide +kernel
theorem dL_build_328 : decode cL_build 328 = .ok (.iload 10, 2) := by decide +kernel
theorem dL_build_330 : decode cL_build 330 = .ok (.invokevirtual 43, 3) := by decide +kernel
theorem dL_build_333 : decode cL_build 333 = .ok (.aload_n 0, 1) := by decide +kernel
theorem dL_build_334 : decode cL_build 334 = .ok (.iload 8, 2) := by decide +kernel
theorem dL_build_336 : decode cL_build 336 = .ok (.iload 10, 2) := by decide +kernel
theorem dL_build_338 : decode cL_build 338 = .ok (.invokevirtual 47, 3) := by decide +kernel
theorem dL_build_341 : decode cL_build 341 = .ok (.aload_n 2, 1) := by decide +kernel
theorem dL_build_342 : decode cL_build 342 = .ok (.getfield 21, 3) := by decide +kernel
theorem dL_build_345 : decode cL_build 345 = .ok (.iload 8, 2) := by decide +kernel
theorem dL_build_347 : decode cL_build 347 = .ok (.aaload, 1) := by decide +kernel
theorem dL_build_348 : decode cL_build 348 = .ok (.iconst 0, 1) := by decide +kernel
theorem dL_build_349 : decode cL_build 349 = .ok (.iaload, 1) := by decide +kernel
theorem dL_build_350 : decode cL_build 350 = .ok (.if_icmp .eq 5, 3) := by decide +kernel
theorem dL_build_353 : decode cL_build 353 = .ok (.aconst_null, 1) := by decide +kernel
theorem dL_build_354 : decode cL_build 354 = .ok (.areturn, 1) := by decide +kernel
theorem dL_build_355 : decode cL_build 355 = .ok (.iinc 4 1, 3) := by decide +kernel
theorem dL_build_358 : decode cL_build 358 = .ok (.goto (-188), 3) := by decide +kernel
theorem dL_build_361 : decode cL_build 361 = .ok (.aload_n 2, 1) := by decide +kernel
theorem dL_build_362 : decode cL_build 362 = .ok (.areturn, 1) := by decide +kernel
