set_option maxRecDepth 20000 in
theorem ggL_law_X0_init : GoodIn wsL_law wsX0_init := goodIn_r _ [9, 10, 11, 12, 13, 14, 15, 16, 17, 18, 19, 20, 21, 22, 23, 24, 720, 721, 722, 723, 724, 725, 726, 727, 728, 729] (by decide +kernel) (by decide +kernel)
set_option maxRecDepth 20000 in
theorem gL_law_X0_init : GoodIn wsL_law (wsX0_init) := ggL_law_X0_init
set_option maxRecDepth 20000 in
theorem ggL_law_X1_init : GoodIn wsL_law wsX1_init := goodIn_r _ [27, 28, 11, 12, 14, 29, 30, 31, 32, 33, 34, 19, 35, 36, 730, 731, 732, 733, 734, 735, 736, 737, 738, 739, 740, 741, 742] (by decide +kernel) (by decide +kernel)
set_option maxRecDepth 20000 in
theorem gL_law_X1_init : GoodIn wsL_law (wsX1_init) := ggL_law_X1_init
set_option maxRecDepth 20000 in
theorem ggL_law_L_addFerry : GoodIn wsL_law wsL_addFerry := goodIn_ca (goodIn_ca (goodIn_r _ [40, 41, 42, 43, 44, 45, 2, 46, 47, 48, 13, 15, 49, 50, 51, 52, 53, 720, 721, 722, 723, 724, 725, 726, 727, 728, 729] (by decide +kernel) (by decide +kernel)) (goodIn_sub (fun _ h => List.mem_append_left _ (List.mem_append_left _ (List.mem_append_right _ h))) (by decide +kernel))) (goodIn_sub (fun _ h => List.mem_append_left _ (List.mem_append_right _ h)) (by decide +kernel))
set_option maxRecDepth 20000 in
theorem gL_law_L_addFerry : GoodIn wsL_law (va_wsS RL 129 yL_addFerry wsL_addFerry) := goodIn_app (goodIn_of _ (by decide +kernel)) ggL_law_L_addFerry
set_option maxRecDepth 20000 in
theorem ggL_law_X1_addFerry : GoodIn wsL_law wsX1_addFerry := goodIn_r _ [57, 58, 59, 29, 60, 61, 5, 62, 63, 64, 65, 66, 730, 731, 732, 733, 734, 735, 736, 737, 738, 739, 740, 741, 742] (by decide +kernel) (by decide +kernel)
set_option maxRecDepth 20000 in
theorem gL_law_X1_addFerry : GoodIn wsL_law (wsV RL 134 RX1 yX1_addFerry wsX1_addFerry) := goodIn_app (goodIn_of _ (by decide +kernel)) ggL_law_X1_addFerry
set_option maxRecDepth 20000 in
theorem ggL_law_X1_thrown : GoodIn wsL_law wsX1_thrown := goodIn_r _ [70, 58, 730, 731, 732, 733, 734, 735, 736, 737, 738, 739, 740, 741, 742] (by decide +kernel) (by decide +kernel)
set_option maxRecDepth 20000 in
theorem gL_law_X1_thrown : GoodIn wsL_law (wsV RL 135 RX1 yX1_thrown wsX1_thrown) := goodIn_app (goodIn_of _ (by decide +kernel)) ggL_law_X1_thrown
set_option maxRecDepth 20000 in
theorem ggL_law_L_addPerson : GoodIn wsL_law wsL_addPerson := goodIn_ca (goodIn_r _ [73, 42, 74, 75, 76, 2, 77, 78, 79, 80, 81, 47, 48, 18, 82, 83, 84, 85, 20, 23, 720, 721, 722, 723, 724, 725, 726, 727, 728, 729] (by decide +kernel) (by decide +kernel)) (goodIn_sub (fun _ h => List.mem_append_left _ (List.mem_append_left _ (List.mem_append_right _ h))) (by decide +kernel))
set_option maxRecDepth 20000 in
theorem gL_law_L_addPerson : GoodIn wsL_law (va_wsS RL 138 yL_addPerson wsL_addPerson) := goodIn_app (goodIn_of _ (by decide +kernel)) ggL_law_L_addPerson
set_option maxRecDepth 20000 in
theorem ggL_law_X1_addPerson : GoodIn wsL_law wsX1_addPerson := goodIn_r _ [89, 58, 90, 91, 92, 93, 5, 94, 34, 63, 64, 65, 66, 730, 731, 732, 733, 734, 735, 736, 737, 738, 739, 740, 741, 742] (by decide +kernel) (by decide +kernel)
set_option maxRecDepth 20000 in
theorem gL_law_X1_addPerson : GoodIn wsL_law (wsV RL 141 RX1 yX1_addPerson wsX1_addPerson) := goodIn_app (goodIn_of _ (by decide +kernel)) ggL_law_X1_addPerson
set_option maxRecDepth 20000 in
theorem ggL_law_L_addChild : GoodIn wsL_law wsL_addChild := goodIn_ca (goodIn_ca (goodIn_r _ [97, 98, 42, 99, 100, 101, 2, 102, 103, 104, 105, 106, 107, 108, 18, 109, 110, 111, 112, 47, 48, 20, 78, 79, 80, 81, 82, 83, 84, 85, 23, 720, 721, 722, 723, 724, 725, 726, 727, 728, 729] (by decide +kernel) (by decide +kernel)) (goodIn_sub (fun _ h => List.mem_append_right _ h) (by decide +kernel))) (goodIn_sub (fun _ h => List.mem_append_left _ (List.mem_append_left _ (List.mem_append_right _ h))) (by decide +kernel))
set_option maxRecDepth 20000 in
theorem gL_law_L_addChild : GoodIn wsL_law (va_wsS RL 142 yL_addChild wsL_addChild) := goodIn_app (goodIn_of _ (by decide +kernel)) ggL_law_L_addChild
set_option maxRecDepth 20000 in
theorem ggL_law_X1_addChild : GoodIn wsL_law wsX1_addChild := goodIn_r _ [116, 58, 35, 90, 117, 118, 119, 5, 120, 60, 61, 62, 63, 64, 65, 66, 91, 92, 93, 94, 34, 730, 731, 732, 733, 734, 735, 736, 737, 738, 739, 740, 741, 742] (by decide +kernel) (by decide +kernel)
set_option maxRecDepth 20000 in
theorem gL_law_X1_addChild : GoodIn wsL_law (wsV RL 144 RX1 yX1_addChild wsX1_addChild) := goodIn_app (goodIn_of _ (by decide +kernel)) ggL_law_X1_addChild
set_option maxRecDepth 20000 in
theorem ggL_law_L_pay : GoodIn wsL_law wsL_pay := goodIn_ca (goodIn_ca (goodIn_ca (goodIn_r _ [123, 98, 41, 42, 124, 125, 126, 2, 127, 52, 53, 21, 103, 104, 105, 106, 107, 108, 18, 109, 110, 111, 112, 47, 48, 20, 128, 129, 130, 131, 132, 133, 134, 135, 720, 721, 722, 723, 724, 725, 726, 727, 728, 729] (by decide +kernel) (by decide +kernel)) (goodIn_sub (fun _ h => List.mem_append_left _ (List.mem_append_right _ h)) (by decide +kernel))) (goodIn_sub (fun _ h => List.mem_append_right _ h) (by decide +kernel))) (goodIn_sub (fun _ h => List.mem_append_left _ (List.mem_append_left _ (List.mem_append_right _ h))) (by decide +kernel))
set_option maxRecDepth 20000 in
theorem gL_law_L_pay : GoodIn wsL_law (va_wsS RL 145 yL_pay wsL_pay) := goodIn_app (goodIn_of _ (by decide +kernel)) ggL_law_L_pay
set_option maxRecDepth 20000 in
theorem ggL_law_X1_pay : GoodIn wsL_law wsX1_pay := goodIn_r _ [139, 58, 35, 32, 117, 118, 119, 5, 120, 90, 60, 61, 62, 63, 64, 65, 66, 140, 141, 142, 143, 144, 133, 134, 135, 730, 731, 732, 733, 734, 735, 736, 737, 738, 739, 740, 741, 742] (by decide +kernel) (by decide +kernel)
set_option maxRecDepth 20000 in
theorem gL_law_X1_pay : GoodIn wsL_law (wsV RL 148 RX1 yX1_pay wsX1_pay) := goodIn_app (goodIn_of _ (by decide +kernel)) ggL_law_X1_pay
set_option maxRecDepth 20000 in
theorem ggL_law_L_grant : GoodIn wsL_law wsL_grant := goodIn_ca (goodIn_ca (goodIn_ca (goodIn_r _ [147, 98, 41, 42, 148, 149, 150, 2, 151, 47, 48, 152, 153, 154, 155, 107, 108, 13, 156, 157, 158, 103, 104, 105, 106, 18, 159, 160, 161, 52, 53, 109, 110, 111, 112, 20, 162, 163, 164, 165, 166, 167, 168, 169, 17, 170, 171, 172, 173, 174, 175, 176, 720, 721, 722, 723, 724, 725, 726, 727, 728, 729] (by decide +kernel) (by decide +kernel)) (goodIn_sub (fun _ h => List.mem_append_left _ (List.mem_append_left _ (List.mem_append_right _ h))) (by decide +kernel))) (goodIn_sub (fun _ h => List.mem_append_right _ h) (by decide +kernel))) (goodIn_sub (fun _ h => List.mem_append_left _ (List.mem_append_right _ h)) (by decide +kernel))
set_option maxRecDepth 20000 in
theorem gL_law_L_grant : GoodIn wsL_law (va_wsS RL 149 yL_grant wsL_grant) := goodIn_app (goodIn_of _ (by decide +kernel)) ggL_law_L_grant
set_option maxRecDepth 20000 in
theorem ggL_law_X1_grant : GoodIn wsL_law wsX1_grant := goodIn_r _ [180, 58, 35, 31, 181, 182, 183, 5, 184, 185, 186, 187, 188, 59, 60, 61, 62, 117, 118, 119, 120, 90, 63, 64, 65, 66, 189, 190, 191, 192, 193, 194, 195, 730, 731, 732, 733, 734, 735, 736, 737, 738, 739, 740, 741, 742] (by decide +kernel) (by decide +kernel)
set_option maxRecDepth 20000 in
theorem gL_law_X1_grant : GoodIn wsL_law (wsV RL 152 RX1 yX1_grant wsX1_grant) := goodIn_app (goodIn_of _ (by decide +kernel)) ggL_law_X1_grant
set_option maxRecDepth 20000 in
theorem ggL_law_L_give : GoodIn wsL_law wsL_give := goodIn_ca (goodIn_ca (goodIn_ca (goodIn_r _ [198, 98, 41, 42, 199, 200, 201, 2, 202, 52, 53, 47, 48, 103, 104, 105, 106, 107, 108, 18, 152, 153, 154, 155, 13, 156, 157, 158, 159, 160, 161, 109, 110, 111, 112, 20, 166, 167, 168, 169, 17, 170, 171, 172, 173, 174, 175, 176, 720, 721, 722, 723, 724, 725, 726, 727, 728, 729] (by decide +kernel) (by decide +kernel)) (goodIn_sub (fun _ h => List.mem_append_left _ (List.mem_append_right _ h)) (by decide +kernel))) (goodIn_sub (fun _ h => List.mem_append_left _ (List.mem_append_left _ (List.mem_append_right _ h))) (by decide +kernel))) (goodIn_sub (fun _ h => List.mem_append_right _ h) (by decide +kernel))
set_option maxRecDepth 20000 in
theorem gL_law_L_give : GoodIn wsL_law (va_wsS RL 153 yL_give wsL_give) := goodIn_app (goodIn_of _ (by decide +kernel)) ggL_law_L_give
set_option maxRecDepth 20000 in
theorem ggL_law_X1_give : GoodIn wsL_law wsX1_give := goodIn_r _ [206, 58, 35, 31, 117, 118, 119, 5, 120, 90, 60, 61, 62, 181, 182, 183, 184, 185, 186, 187, 188, 59, 63, 64, 65, 66, 193, 194, 195, 730, 731, 732, 733, 734, 735, 736, 737, 738, 739, 740, 741, 742] (by decide +kernel) (by decide +kernel)
set_option maxRecDepth 20000 in
theorem gL_law_X1_give : GoodIn wsL_law (wsV RL 156 RX1 yX1_give wsX1_give) := goodIn_app (goodIn_of _ (by decide +kernel)) ggL_law_X1_give
set_option maxRecDepth 20000 in
theorem ggL_law_L_buy : GoodIn wsL_law wsL_buy := goodIn_ca (goodIn_ca (goodIn_r _ [209, 98, 42, 210, 211, 212, 2, 213, 47, 48, 21, 214, 215, 216, 217, 103, 104, 105, 106, 107, 108, 18, 152, 153, 154, 155, 13, 156, 157, 158, 218, 219, 220, 221, 20, 222, 223, 224, 225, 166, 167, 168, 169, 17, 170, 171, 172, 226, 227, 228, 229, 15, 230, 231, 232, 233, 234, 128, 129, 130, 131, 132, 133, 134, 135, 173, 174, 175, 176, 720, 721, 722, 723, 724, 725, 726, 727, 728, 729] (by decide +kernel) (by decide +kernel)) (goodIn_sub (fun _ h => List.mem_append_left _ (List.mem_append_left _ (List.mem_append_right _ h))) (by decide +kernel))) (goodIn_sub (fun _ h => List.mem_append_right _ h) (by decide +kernel))
set_option maxRecDepth 20000 in
theorem gL_law_L_buy : GoodIn wsL_law (va_wsS RL 157 yL_buy wsL_buy) := goodIn_app (goodIn_of _ (by decide +kernel)) ggL_law_L_buy
set_option maxRecDepth 20000 in
theorem ggL_law_X1_buy : GoodIn wsL_law wsX1_buy := goodIn_r _ [238, 58, 32, 31, 117, 118, 119, 5, 120, 90, 60, 61, 62, 181, 182, 183, 184, 185, 186, 187, 188, 59, 63, 64, 65, 66, 239, 240, 241, 242, 35, 243, 244, 245, 246, 193, 194, 195, 247, 248, 249, 250, 29, 251, 252, 253, 254, 255, 140, 141, 142, 143, 144, 133, 134, 135, 730, 731, 732, 733, 734, 735, 736, 737, 738, 739, 740, 741, 742] (by decide +kernel) (by decide +kernel)
set_option maxRecDepth 20000 in
theorem gL_law_X1_buy : GoodIn wsL_law (wsV RL 159 RX1 yX1_buy wsX1_buy) := goodIn_app (goodIn_of _ (by decide +kernel)) ggL_law_X1_buy
set_option maxRecDepth 20000 in
theorem ggL_law_L_setToll : GoodIn wsL_law wsL_setToll := goodIn_ca (goodIn_ca (goodIn_ca (goodIn_r _ [258, 98, 41, 42, 259, 260, 261, 2, 262, 47, 48, 15, 152, 153, 154, 155, 107, 108, 13, 103, 104, 105, 106, 18, 49, 50, 51, 52, 53, 263, 264, 265, 266, 267, 268, 269, 270, 166, 167, 168, 169, 17, 170, 171, 172, 720, 721, 722, 723, 724, 725, 726, 727, 728, 729] (by decide +kernel) (by decide +kernel)) (goodIn_sub (fun _ h => List.mem_append_left _ (List.mem_append_left _ (List.mem_append_right _ h))) (by decide +kernel))) (goodIn_sub (fun _ h => List.mem_append_right _ h) (by decide +kernel))) (goodIn_sub (fun _ h => List.mem_append_left _ (List.mem_append_right _ h)) (by decide +kernel))
set_option maxRecDepth 20000 in
theorem gL_law_L_setToll : GoodIn wsL_law (va_wsS RL 160 yL_setToll wsL_setToll) := goodIn_app (goodIn_of _ (by decide +kernel)) ggL_law_L_setToll
set_option maxRecDepth 20000 in
theorem ggL_law_X1_setToll : GoodIn wsL_law wsX1_setToll := goodIn_r _ [274, 58, 29, 185, 186, 187, 5, 188, 59, 60, 61, 62, 117, 118, 119, 120, 90, 63, 64, 65, 66, 275, 276, 277, 278, 279, 280, 281, 282, 31, 193, 194, 195, 730, 731, 732, 733, 734, 735, 736, 737, 738, 739, 740, 741, 742] (by decide +kernel) (by decide +kernel)
set_option maxRecDepth 20000 in
theorem gL_law_X1_setToll : GoodIn wsL_law (wsV RL 163 RX1 yX1_setToll wsX1_setToll) := goodIn_app (goodIn_of _ (by decide +kernel)) ggL_law_X1_setToll
set_option maxRecDepth 20000 in
theorem ggL_law_L_carry : GoodIn wsL_law wsL_carry := goodIn_ca (goodIn_ca (goodIn_r _ [285, 98, 41, 286, 287, 288, 2, 289, 15, 18, 22, 24, 16, 152, 153, 154, 155, 107, 108, 13, 290, 291, 292, 293, 294, 295, 52, 53, 296, 297, 298, 299, 166, 167, 168, 169, 17, 170, 171, 172, 128, 129, 130, 131, 21, 132, 133, 134, 135, 720, 721, 722, 723, 724, 725, 726, 727, 728, 729] (by decide +kernel) (by decide +kernel)) (goodIn_sub (fun _ h => List.mem_append_right _ h) (by decide +kernel))) (goodIn_sub (fun _ h => List.mem_append_left _ (List.mem_append_right _ h)) (by decide +kernel))
set_option maxRecDepth 20000 in
theorem gL_law_L_carry : GoodIn wsL_law (va_wsS RL 164 yL_carry wsL_carry) := goodIn_app (goodIn_of _ (by decide +kernel)) ggL_law_L_carry
set_option maxRecDepth 20000 in
theorem ggL_law_X1_carry : GoodIn wsL_law wsX1_carry := goodIn_r _ [303, 58, 29, 90, 33, 30, 304, 185, 186, 187, 5, 188, 59, 60, 61, 62, 63, 64, 65, 66, 305, 306, 307, 308, 31, 193, 194, 195, 140, 141, 142, 143, 32, 144, 133, 134, 135, 730, 731, 732, 733, 734, 735, 736, 737, 738, 739, 740, 741, 742] (by decide +kernel) (by decide +kernel)
set_option maxRecDepth 20000 in
theorem gL_law_X1_carry : GoodIn wsL_law (wsV RL 166 RX1 yX1_carry wsX1_carry) := goodIn_app (goodIn_of _ (by decide +kernel)) ggL_law_X1_carry
set_option maxRecDepth 20000 in
theorem ggL_law_L_die : GoodIn wsL_law wsL_die := goodIn_ca (goodIn_ca (goodIn_r _ [311, 98, 42, 312, 313, 314, 2, 315, 18, 24, 21, 103, 104, 105, 106, 107, 108, 109, 110, 111, 112, 47, 48, 20, 316, 317, 318, 319, 320, 321, 322, 323, 324, 325, 326, 327, 23, 328, 329, 330, 331, 332, 333, 334, 335, 13, 166, 167, 168, 169, 17, 170, 171, 172, 336, 337, 338, 173, 174, 175, 176, 128, 129, 130, 131, 132, 133, 134, 135, 339, 340, 341, 342, 720, 721, 722, 723, 724, 725, 726, 727, 728, 729] (by decide +kernel) (by decide +kernel)) (goodIn_sub (fun _ h => List.mem_append_right _ h) (by decide +kernel))) (goodIn_sub (fun _ h => List.mem_append_left _ (List.mem_append_left _ (List.mem_append_right _ h))) (by decide +kernel))
set_option maxRecDepth 20000 in
theorem gL_law_L_die : GoodIn wsL_law (va_wsS RL 167 yL_die wsL_die) := goodIn_app (goodIn_of _ (by decide +kernel)) ggL_law_L_die
set_option maxRecDepth 20000 in
theorem ggL_law_X1_die : GoodIn wsL_law wsX1_die := goodIn_r _ [346, 58, 35, 59, 31, 347, 36, 32, 304, 117, 118, 119, 5, 120, 90, 60, 61, 62, 63, 64, 65, 66, 348, 349, 350, 351, 34, 352, 353, 354, 355, 356, 357, 358, 359, 140, 141, 142, 143, 144, 133, 134, 135, 730, 731, 732, 733, 734, 735, 736, 737, 738, 739, 740, 741, 742] (by decide +kernel) (by decide +kernel)
set_option maxRecDepth 20000 in
theorem gL_law_X1_die : GoodIn wsL_law (wsV RL 169 RX1 yX1_die wsX1_die) := goodIn_app (goodIn_of _ (by decide +kernel)) ggL_law_X1_die
set_option maxRecDepth 20000 in
theorem ggL_law_X0_ferries : GoodIn wsL_law wsX0_ferries := goodIn_r _ [363, 13, 720, 721, 722, 723, 724, 725, 726, 727, 728, 729] (by decide +kernel) (by decide +kernel)
set_option maxRecDepth 20000 in
theorem gL_law_X0_ferries : GoodIn wsL_law (wsV RL 170 RX0 yX0_ferries wsX0_ferries) := goodIn_app (goodIn_of _ (by decide +kernel)) ggL_law_X0_ferries
set_option maxRecDepth 20000 in
theorem ggL_law_X1_ferries : GoodIn wsL_law wsX1_ferries := goodIn_r _ [367, 58, 59, 730, 731, 732, 733, 734, 735, 736, 737, 738, 739, 740, 741, 742] (by decide +kernel) (by decide +kernel)
set_option maxRecDepth 20000 in
theorem gL_law_X1_ferries : GoodIn wsL_law (wsV RL 173 RX1 yX1_ferries wsX1_ferries) := goodIn_app (goodIn_of _ (by decide +kernel)) ggL_law_X1_ferries
set_option maxRecDepth 20000 in
theorem ggL_law_L_toll : GoodIn wsL_law wsL_toll := goodIn_ca (goodIn_r _ [370, 98, 371, 372, 373, 2, 374, 15, 152, 153, 154, 155, 107, 108, 13, 720, 721, 722, 723, 724, 725, 726, 727, 728, 729] (by decide +kernel) (by decide +kernel)) (goodIn_sub (fun _ h => List.mem_append_right _ h) (by decide +kernel))
set_option maxRecDepth 20000 in
theorem gL_law_L_toll : GoodIn wsL_law (va_wsS RL 174 yL_toll wsL_toll) := goodIn_app (goodIn_of _ (by decide +kernel)) ggL_law_L_toll
set_option maxRecDepth 20000 in
theorem ggL_law_X1_toll : GoodIn wsL_law wsX1_toll := goodIn_r _ [378, 58, 29, 185, 186, 187, 5, 188, 59, 60, 61, 62, 63, 64, 65, 66, 730, 731, 732, 733, 734, 735, 736, 737, 738, 739, 740, 741, 742] (by decide +kernel) (by decide +kernel)
set_option maxRecDepth 20000 in
theorem gL_law_X1_toll : GoodIn wsL_law (wsV RL 176 RX1 yX1_toll wsX1_toll) := goodIn_app (goodIn_of _ (by decide +kernel)) ggL_law_X1_toll
set_option maxRecDepth 20000 in
theorem ggL_law_L_carried : GoodIn wsL_law wsL_carried := goodIn_ca (goodIn_r _ [381, 98, 382, 383, 384, 2, 385, 16, 152, 153, 154, 155, 107, 108, 13, 720, 721, 722, 723, 724, 725, 726, 727, 728, 729] (by decide +kernel) (by decide +kernel)) (goodIn_sub (fun _ h => List.mem_append_right _ h) (by decide +kernel))
set_option maxRecDepth 20000 in
theorem gL_law_L_carried : GoodIn wsL_law (va_wsS RL 177 yL_carried wsL_carried) := goodIn_app (goodIn_of _ (by decide +kernel)) ggL_law_L_carried
set_option maxRecDepth 20000 in
theorem ggL_law_X1_carried : GoodIn wsL_law wsX1_carried := goodIn_r _ [389, 58, 30, 185, 186, 187, 5, 188, 59, 60, 61, 62, 63, 64, 65, 66, 730, 731, 732, 733, 734, 735, 736, 737, 738, 739, 740, 741, 742] (by decide +kernel) (by decide +kernel)
set_option maxRecDepth 20000 in
theorem gL_law_X1_carried : GoodIn wsL_law (wsV RL 179 RX1 yX1_carried wsX1_carried) := goodIn_app (goodIn_of _ (by decide +kernel)) ggL_law_X1_carried
set_option maxRecDepth 20000 in
theorem ggL_law_L_shares : GoodIn wsL_law wsL_shares := goodIn_ca (goodIn_r _ [392, 98, 393, 394, 395, 2, 396, 152, 153, 154, 155, 107, 108, 13, 156, 157, 158, 103, 104, 105, 106, 18, 166, 167, 168, 169, 17, 170, 171, 172, 720, 721, 722, 723, 724, 725, 726, 727, 728, 729] (by decide +kernel) (by decide +kernel)) (goodIn_sub (fun _ h => List.mem_append_right _ h) (by decide +kernel))
set_option maxRecDepth 20000 in
theorem gL_law_L_shares : GoodIn wsL_law (va_wsS RL 180 yL_shares wsL_shares) := goodIn_app (goodIn_of _ (by decide +kernel)) ggL_law_L_shares
set_option maxRecDepth 20000 in
theorem ggL_law_X1_shares : GoodIn wsL_law wsX1_shares := goodIn_r _ [400, 58, 31, 181, 182, 183, 5, 184, 185, 186, 187, 188, 59, 60, 61, 62, 117, 118, 119, 120, 90, 193, 194, 195, 63, 64, 65, 66, 730, 731, 732, 733, 734, 735, 736, 737, 738, 739, 740, 741, 742] (by decide +kernel) (by decide +kernel)
set_option maxRecDepth 20000 in
theorem gL_law_X1_shares : GoodIn wsL_law (wsV RL 182 RX1 yX1_shares wsX1_shares) := goodIn_app (goodIn_of _ (by decide +kernel)) ggL_law_X1_shares
set_option maxRecDepth 20000 in
theorem ggL_law_L_crownShares : GoodIn wsL_law wsL_crownShares := goodIn_ca (goodIn_r _ [403, 98, 404, 405, 406, 2, 407, 152, 153, 154, 155, 107, 108, 13, 156, 157, 158, 162, 163, 164, 165, 18, 166, 167, 168, 169, 17, 170, 171, 172, 720, 721, 722, 723, 724, 725, 726, 727, 728, 729] (by decide +kernel) (by decide +kernel)) (goodIn_sub (fun _ h => List.mem_append_right _ h) (by decide +kernel))
set_option maxRecDepth 20000 in
theorem gL_law_L_crownShares : GoodIn wsL_law (va_wsS RL 183 yL_crownShares wsL_crownShares) := goodIn_app (goodIn_of _ (by decide +kernel)) ggL_law_L_crownShares
set_option maxRecDepth 20000 in
theorem ggL_law_X1_crownShares : GoodIn wsL_law wsX1_crownShares := goodIn_r _ [411, 58, 181, 182, 183, 5, 184, 185, 186, 187, 188, 59, 60, 61, 62, 189, 190, 191, 192, 90, 31, 193, 194, 195, 63, 64, 65, 66, 730, 731, 732, 733, 734, 735, 736, 737, 738, 739, 740, 741, 742] (by decide +kernel) (by decide +kernel)
set_option maxRecDepth 20000 in
theorem gL_law_X1_crownShares : GoodIn wsL_law (wsV RL 185 RX1 yX1_crownShares wsX1_crownShares) := goodIn_app (goodIn_of _ (by decide +kernel)) ggL_law_X1_crownShares
set_option maxRecDepth 20000 in
theorem ggL_law_L_owners : GoodIn wsL_law wsL_owners := goodIn_ca (goodIn_r _ [414, 98, 415, 416, 417, 2, 418, 18, 152, 153, 154, 155, 107, 108, 13, 156, 157, 158, 166, 167, 168, 169, 17, 170, 171, 172, 720, 721, 722, 723, 724, 725, 726, 727, 728, 729] (by decide +kernel) (by decide +kernel)) (goodIn_sub (fun _ h => List.mem_append_right _ h) (by decide +kernel))
set_option maxRecDepth 20000 in
theorem gL_law_L_owners : GoodIn wsL_law (va_wsS RL 186 yL_owners wsL_owners) := goodIn_app (goodIn_of _ (by decide +kernel)) ggL_law_L_owners
set_option maxRecDepth 20000 in
theorem ggL_law_X1_owners : GoodIn wsL_law wsX1_owners := goodIn_r _ [422, 58, 90, 31, 181, 182, 183, 5, 184, 185, 186, 187, 188, 59, 60, 61, 62, 63, 64, 65, 66, 193, 194, 195, 730, 731, 732, 733, 734, 735, 736, 737, 738, 739, 740, 741, 742] (by decide +kernel) (by decide +kernel)
set_option maxRecDepth 20000 in
theorem gL_law_X1_owners : GoodIn wsL_law (wsV RL 188 RX1 yX1_owners wsX1_owners) := goodIn_app (goodIn_of _ (by decide +kernel)) ggL_law_X1_owners
set_option maxRecDepth 20000 in
theorem ggL_law_L_holder : GoodIn wsL_law wsL_holder := goodIn_ca (goodIn_ca (goodIn_r _ [425, 98, 42, 426, 427, 428, 2, 429, 47, 48, 18, 152, 153, 154, 155, 107, 108, 13, 156, 157, 158, 166, 167, 168, 169, 17, 170, 171, 172, 720, 721, 722, 723, 724, 725, 726, 727, 728, 729] (by decide +kernel) (by decide +kernel)) (goodIn_sub (fun _ h => List.mem_append_left _ (List.mem_append_left _ (List.mem_append_right _ h))) (by decide +kernel))) (goodIn_sub (fun _ h => List.mem_append_right _ h) (by decide +kernel))
set_option maxRecDepth 20000 in
theorem gL_law_L_holder : GoodIn wsL_law (va_wsS RL 189 yL_holder wsL_holder) := goodIn_app (goodIn_of _ (by decide +kernel)) ggL_law_L_holder
set_option maxRecDepth 20000 in
theorem ggL_law_X1_holder : GoodIn wsL_law wsX1_holder := goodIn_r _ [433, 58, 90, 31, 181, 182, 183, 5, 184, 185, 186, 187, 188, 59, 60, 61, 62, 63, 64, 65, 66, 193, 194, 195, 730, 731, 732, 733, 734, 735, 736, 737, 738, 739, 740, 741, 742] (by decide +kernel) (by decide +kernel)
set_option maxRecDepth 20000 in
theorem gL_law_X1_holder : GoodIn wsL_law (wsV RL 191 RX1 yX1_holder wsX1_holder) := goodIn_app (goodIn_of _ (by decide +kernel)) ggL_law_X1_holder
set_option maxRecDepth 20000 in
theorem ggL_law_L_master : GoodIn wsL_law wsL_master := goodIn_ca (goodIn_ca (goodIn_r _ [436, 98, 42, 437, 438, 439, 2, 440, 47, 48, 152, 153, 154, 155, 107, 108, 13, 263, 264, 265, 266, 18, 267, 268, 269, 270, 166, 167, 168, 169, 17, 170, 171, 172, 720, 721, 722, 723, 724, 725, 726, 727, 728, 729] (by decide +kernel) (by decide +kernel)) (goodIn_sub (fun _ h => List.mem_append_left _ (List.mem_append_left _ (List.mem_append_right _ h))) (by decide +kernel))) (goodIn_sub (fun _ h => List.mem_append_right _ h) (by decide +kernel))
set_option maxRecDepth 20000 in
theorem gL_law_L_master : GoodIn wsL_law (va_wsS RL 192 yL_master wsL_master) := goodIn_app (goodIn_of _ (by decide +kernel)) ggL_law_L_master
set_option maxRecDepth 20000 in
theorem ggL_law_X1_master : GoodIn wsL_law wsX1_master := goodIn_r _ [444, 58, 185, 186, 187, 5, 188, 59, 60, 61, 62, 63, 64, 65, 66, 275, 276, 277, 278, 90, 279, 280, 281, 282, 31, 193, 194, 195, 730, 731, 732, 733, 734, 735, 736, 737, 738, 739, 740, 741, 742] (by decide +kernel) (by decide +kernel)
set_option maxRecDepth 20000 in
theorem gL_law_X1_master : GoodIn wsL_law (wsV RL 194 RX1 yX1_master wsX1_master) := goodIn_app (goodIn_of _ (by decide +kernel)) ggL_law_X1_master
set_option maxRecDepth 20000 in
theorem ggL_law_L_hasMaster : GoodIn wsL_law wsL_hasMaster := goodIn_ca (goodIn_r _ [447, 98, 448, 449, 450, 2, 451, 152, 153, 154, 155, 107, 108, 13, 263, 264, 265, 266, 18, 267, 268, 269, 270, 166, 167, 168, 169, 17, 170, 171, 172, 720, 721, 722, 723, 724, 725, 726, 727, 728, 729] (by decide +kernel) (by decide +kernel)) (goodIn_sub (fun _ h => List.mem_append_right _ h) (by decide +kernel))
set_option maxRecDepth 20000 in
theorem gL_law_L_hasMaster : GoodIn wsL_law (va_wsS RL 195 yL_hasMaster wsL_hasMaster) := goodIn_app (goodIn_of _ (by decide +kernel)) ggL_law_L_hasMaster
set_option maxRecDepth 20000 in
theorem ggL_law_X1_hasMaster : GoodIn wsL_law wsX1_hasMaster := goodIn_r _ [455, 58, 185, 186, 187, 5, 188, 59, 60, 61, 62, 275, 276, 277, 278, 90, 279, 280, 281, 282, 31, 193, 194, 195, 456, 457, 458, 459, 730, 731, 732, 733, 734, 735, 736, 737, 738, 739, 740, 741, 742] (by decide +kernel) (by decide +kernel)
set_option maxRecDepth 20000 in
theorem gL_law_X1_hasMaster : GoodIn wsL_law (wsV RL 197 RX1 yX1_hasMaster wsX1_hasMaster) := goodIn_app (goodIn_of _ (by decide +kernel)) ggL_law_X1_hasMaster
set_option maxRecDepth 20000 in
theorem ggL_law_L_shareValue : GoodIn wsL_law wsL_shareValue := goodIn_ca (goodIn_r _ [462, 98, 463, 464, 465, 2, 466, 152, 153, 154, 155, 107, 108, 13, 156, 157, 158, 226, 227, 228, 229, 15, 230, 720, 721, 722, 723, 724, 725, 726, 727, 728, 729] (by decide +kernel) (by decide +kernel)) (goodIn_sub (fun _ h => List.mem_append_right _ h) (by decide +kernel))
set_option maxRecDepth 20000 in
theorem gL_law_L_shareValue : GoodIn wsL_law (va_wsS RL 198 yL_shareValue wsL_shareValue) := goodIn_app (goodIn_of _ (by decide +kernel)) ggL_law_L_shareValue
set_option maxRecDepth 20000 in
theorem ggL_law_X1_shareValue : GoodIn wsL_law wsX1_shareValue := goodIn_r _ [470, 58, 181, 182, 183, 5, 184, 185, 186, 187, 188, 59, 60, 61, 62, 247, 248, 249, 250, 29, 251, 63, 64, 65, 66, 730, 731, 732, 733, 734, 735, 736, 737, 738, 739, 740, 741, 742] (by decide +kernel) (by decide +kernel)
set_option maxRecDepth 20000 in
theorem gL_law_X1_shareValue : GoodIn wsL_law (wsV RL 200 RX1 yX1_shareValue wsX1_shareValue) := goodIn_app (goodIn_of _ (by decide +kernel)) ggL_law_X1_shareValue
set_option maxRecDepth 20000 in
theorem ggL_law_L_watchAt : GoodIn wsL_law wsL_watchAt := goodIn_ca (goodIn_r _ [473, 98, 474, 475, 476, 2, 477, 290, 291, 292, 107, 108] (by decide +kernel) (by decide +kernel)) (goodIn_sub (fun _ h => List.mem_append_right _ h) (by decide +kernel))
set_option maxRecDepth 20000 in
theorem gL_law_L_watchAt : GoodIn wsL_law (va_wsS RL 201 yL_watchAt wsL_watchAt) := goodIn_app (goodIn_of _ (by decide +kernel)) ggL_law_L_watchAt
set_option maxRecDepth 20000 in
theorem ggL_law_X1_watchAt : GoodIn wsL_law wsX1_watchAt := goodIn_r _ [481, 58, 60, 61, 5, 62, 63, 64, 65, 66, 730, 731, 732, 733, 734, 735, 736, 737, 738, 739, 740, 741, 742] (by decide +kernel) (by decide +kernel)
set_option maxRecDepth 20000 in
theorem gL_law_X1_watchAt : GoodIn wsL_law (wsV RL 203 RX1 yX1_watchAt wsX1_watchAt) := goodIn_app (goodIn_of _ (by decide +kernel)) ggL_law_X1_watchAt
set_option maxRecDepth 20000 in
theorem ggL_law_X0_people : GoodIn wsL_law wsX0_people := goodIn_r _ [485, 18, 720, 721, 722, 723, 724, 725, 726, 727, 728, 729] (by decide +kernel) (by decide +kernel)
set_option maxRecDepth 20000 in
theorem gL_law_X0_people : GoodIn wsL_law (wsV RL 204 RX0 yX0_people wsX0_people) := goodIn_app (goodIn_of _ (by decide +kernel)) ggL_law_X0_people
set_option maxRecDepth 20000 in
theorem ggL_law_X1_people : GoodIn wsL_law wsX1_people := goodIn_r _ [489, 58, 90, 730, 731, 732, 733, 734, 735, 736, 737, 738, 739, 740, 741, 742] (by decide +kernel) (by decide +kernel)
set_option maxRecDepth 20000 in
theorem gL_law_X1_people : GoodIn wsL_law (wsV RL 207 RX1 yX1_people wsX1_people) := goodIn_app (goodIn_of _ (by decide +kernel)) ggL_law_X1_people
set_option maxRecDepth 20000 in
theorem ggL_law_X0_living : GoodIn wsL_law wsX0_living := goodIn_r _ [493, 18, 20, 720, 721, 722, 723, 724, 725, 726, 727, 728, 729] (by decide +kernel) (by decide +kernel)
set_option maxRecDepth 20000 in
theorem gL_law_X0_living : GoodIn wsL_law (wsV RL 208 RX0 yX0_living wsX0_living) := goodIn_app (goodIn_of _ (by decide +kernel)) ggL_law_X0_living
set_option maxRecDepth 20000 in
theorem ggL_law_X1_living : GoodIn wsL_law wsX1_living := goodIn_r _ [497, 58, 498, 499, 500, 5, 501, 90, 35, 730, 731, 732, 733, 734, 735, 736, 737, 738, 739, 740, 741, 742] (by decide +kernel) (by decide +kernel)
set_option maxRecDepth 20000 in
theorem gL_law_X1_living : GoodIn wsL_law (wsV RL 211 RX1 yX1_living wsX1_living) := goodIn_app (goodIn_of _ (by decide +kernel)) ggL_law_X1_living
set_option maxRecDepth 20000 in
theorem ggL_law_L_isAlive : GoodIn wsL_law wsL_isAlive := goodIn_ca (goodIn_r _ [504, 98, 505, 506, 507, 2, 508, 20, 103, 104, 105, 106, 107, 108, 18, 720, 721, 722, 723, 724, 725, 726, 727, 728, 729] (by decide +kernel) (by decide +kernel)) (goodIn_sub (fun _ h => List.mem_append_right _ h) (by decide +kernel))
set_option maxRecDepth 20000 in
theorem gL_law_L_isAlive : GoodIn wsL_law (va_wsS RL 212 yL_isAlive wsL_isAlive) := goodIn_app (goodIn_of _ (by decide +kernel)) ggL_law_L_isAlive
set_option maxRecDepth 20000 in
theorem ggL_law_X1_isAlive : GoodIn wsL_law wsX1_isAlive := goodIn_r _ [512, 58, 35, 117, 118, 119, 5, 120, 90, 60, 61, 62, 456, 457, 458, 459, 730, 731, 732, 733, 734, 735, 736, 737, 738, 739, 740, 741, 742] (by decide +kernel) (by decide +kernel)
set_option maxRecDepth 20000 in
theorem gL_law_X1_isAlive : GoodIn wsL_law (wsV RL 214 RX1 yX1_isAlive wsX1_isAlive) := goodIn_app (goodIn_of _ (by decide +kernel)) ggL_law_X1_isAlive
set_option maxRecDepth 20000 in
theorem ggL_law_L_coins : GoodIn wsL_law wsL_coins := goodIn_ca (goodIn_r _ [515, 98, 516, 517, 518, 2, 519, 21, 103, 104, 105, 106, 107, 108, 18, 720, 721, 722, 723, 724, 725, 726, 727, 728, 729] (by decide +kernel) (by decide +kernel)) (goodIn_sub (fun _ h => List.mem_append_right _ h) (by decide +kernel))
set_option maxRecDepth 20000 in
theorem gL_law_L_coins : GoodIn wsL_law (va_wsS RL 215 yL_coins wsL_coins) := goodIn_app (goodIn_of _ (by decide +kernel)) ggL_law_L_coins
set_option maxRecDepth 20000 in
theorem ggL_law_X1_coins : GoodIn wsL_law wsX1_coins := goodIn_r _ [523, 58, 32, 117, 118, 119, 5, 120, 90, 60, 61, 62, 63, 64, 65, 66, 730, 731, 732, 733, 734, 735, 736, 737, 738, 739, 740, 741, 742] (by decide +kernel) (by decide +kernel)
set_option maxRecDepth 20000 in
theorem gL_law_X1_coins : GoodIn wsL_law (wsV RL 217 RX1 yX1_coins wsX1_coins) := goodIn_app (goodIn_of _ (by decide +kernel)) ggL_law_X1_coins
set_option maxRecDepth 20000 in
theorem ggL_law_L_earned : GoodIn wsL_law wsL_earned := goodIn_ca (goodIn_r _ [526, 98, 527, 528, 529, 2, 530, 22, 103, 104, 105, 106, 107, 108, 18, 720, 721, 722, 723, 724, 725, 726, 727, 728, 729] (by decide +kernel) (by decide +kernel)) (goodIn_sub (fun _ h => List.mem_append_right _ h) (by decide +kernel))
set_option maxRecDepth 20000 in
theorem gL_law_L_earned : GoodIn wsL_law (va_wsS RL 218 yL_earned wsL_earned) := goodIn_app (goodIn_of _ (by decide +kernel)) ggL_law_L_earned
set_option maxRecDepth 20000 in
theorem ggL_law_X1_earned : GoodIn wsL_law wsX1_earned := goodIn_r _ [534, 58, 33, 117, 118, 119, 5, 120, 90, 60, 61, 62, 63, 64, 65, 66, 730, 731, 732, 733, 734, 735, 736, 737, 738, 739, 740, 741, 742] (by decide +kernel) (by decide +kernel)
set_option maxRecDepth 20000 in
theorem gL_law_X1_earned : GoodIn wsL_law (wsV RL 220 RX1 yX1_earned wsX1_earned) := goodIn_app (goodIn_of _ (by decide +kernel)) ggL_law_X1_earned
set_option maxRecDepth 20000 in
theorem ggL_law_L_allShares : GoodIn wsL_law wsL_allShares := goodIn_ca (goodIn_r _ [537, 98, 538, 539, 540, 2, 541, 103, 104, 105, 106, 107, 108, 18, 542, 543, 544, 545, 13, 267, 268, 269, 270, 166, 167, 168, 169, 17, 170, 171, 172, 720, 721, 722, 723, 724, 725, 726, 727, 728, 729] (by decide +kernel) (by decide +kernel)) (goodIn_sub (fun _ h => List.mem_append_right _ h) (by decide +kernel))
set_option maxRecDepth 20000 in
theorem gL_law_L_allShares : GoodIn wsL_law (va_wsS RL 221 yL_allShares wsL_allShares) := goodIn_app (goodIn_of _ (by decide +kernel)) ggL_law_L_allShares
set_option maxRecDepth 20000 in
theorem ggL_law_X1_allShares : GoodIn wsL_law wsX1_allShares := goodIn_r _ [549, 58, 117, 118, 119, 5, 120, 90, 60, 61, 62, 550, 551, 552, 553, 59, 279, 280, 281, 282, 31, 193, 194, 195, 63, 64, 65, 66, 730, 731, 732, 733, 734, 735, 736, 737, 738, 739, 740, 741, 742] (by decide +kernel) (by decide +kernel)
set_option maxRecDepth 20000 in
theorem gL_law_X1_allShares : GoodIn wsL_law (wsV RL 223 RX1 yX1_allShares wsX1_allShares) := goodIn_app (goodIn_of _ (by decide +kernel)) ggL_law_X1_allShares
set_option maxRecDepth 20000 in
theorem ggL_law_L_hasParent : GoodIn wsL_law wsL_hasParent := goodIn_ca (goodIn_r _ [556, 98, 557, 558, 559, 2, 560, 23, 103, 104, 105, 106, 107, 108, 18, 720, 721, 722, 723, 724, 725, 726, 727, 728, 729] (by decide +kernel) (by decide +kernel)) (goodIn_sub (fun _ h => List.mem_append_right _ h) (by decide +kernel))
set_option maxRecDepth 20000 in
theorem gL_law_L_hasParent : GoodIn wsL_law (va_wsS RL 224 yL_hasParent wsL_hasParent) := goodIn_app (goodIn_of _ (by decide +kernel)) ggL_law_L_hasParent
set_option maxRecDepth 20000 in
theorem ggL_law_X1_hasParent : GoodIn wsL_law wsX1_hasParent := goodIn_r _ [564, 58, 34, 117, 118, 119, 5, 120, 90, 60, 61, 62, 456, 457, 458, 459, 730, 731, 732, 733, 734, 735, 736, 737, 738, 739, 740, 741, 742] (by decide +kernel) (by decide +kernel)
set_option maxRecDepth 20000 in
theorem gL_law_X1_hasParent : GoodIn wsL_law (wsV RL 226 RX1 yX1_hasParent wsX1_hasParent) := goodIn_app (goodIn_of _ (by decide +kernel)) ggL_law_X1_hasParent
set_option maxRecDepth 20000 in
theorem ggL_law_L_parent : GoodIn wsL_law wsL_parent := goodIn_ca (goodIn_ca (goodIn_r _ [567, 98, 42, 568, 569, 570, 2, 571, 47, 48, 23, 103, 104, 105, 106, 107, 108, 18, 720, 721, 722, 723, 724, 725, 726, 727, 728, 729] (by decide +kernel) (by decide +kernel)) (goodIn_sub (fun _ h => List.mem_append_left _ (List.mem_append_left _ (List.mem_append_right _ h))) (by decide +kernel))) (goodIn_sub (fun _ h => List.mem_append_right _ h) (by decide +kernel))
set_option maxRecDepth 20000 in
theorem gL_law_L_parent : GoodIn wsL_law (va_wsS RL 227 yL_parent wsL_parent) := goodIn_app (goodIn_of _ (by decide +kernel)) ggL_law_L_parent
set_option maxRecDepth 20000 in
theorem ggL_law_X1_parent : GoodIn wsL_law wsX1_parent := goodIn_r _ [575, 58, 34, 117, 118, 119, 5, 120, 90, 60, 61, 62, 63, 64, 65, 66, 730, 731, 732, 733, 734, 735, 736, 737, 738, 739, 740, 741, 742] (by decide +kernel) (by decide +kernel)
set_option maxRecDepth 20000 in
theorem gL_law_X1_parent : GoodIn wsL_law (wsV RL 229 RX1 yX1_parent wsX1_parent) := goodIn_app (goodIn_of _ (by decide +kernel)) ggL_law_X1_parent
set_option maxRecDepth 20000 in
theorem ggL_law_L_children : GoodIn wsL_law wsL_children := goodIn_ca (goodIn_r _ [578, 98, 579, 580, 581, 2, 582, 103, 104, 105, 106, 107, 108, 18, 583, 584, 585, 586, 23, 720, 721, 722, 723, 724, 725, 726, 727, 728, 729] (by decide +kernel) (by decide +kernel)) (goodIn_sub (fun _ h => List.mem_append_right _ h) (by decide +kernel))
set_option maxRecDepth 20000 in
theorem gL_law_L_children : GoodIn wsL_law (va_wsS RL 230 yL_children wsL_children) := goodIn_app (goodIn_of _ (by decide +kernel)) ggL_law_L_children
set_option maxRecDepth 20000 in
theorem ggL_law_X1_children : GoodIn wsL_law wsX1_children := goodIn_r _ [590, 58, 117, 118, 119, 5, 120, 90, 60, 61, 62, 591, 592, 593, 594, 34, 63, 64, 65, 66, 730, 731, 732, 733, 734, 735, 736, 737, 738, 739, 740, 741, 742] (by decide +kernel) (by decide +kernel)
set_option maxRecDepth 20000 in
theorem gL_law_X1_children : GoodIn wsL_law (wsV RL 232 RX1 yX1_children wsX1_children) := goodIn_app (goodIn_of _ (by decide +kernel)) ggL_law_X1_children
set_option maxRecDepth 20000 in
theorem ggL_law_L_heirs : GoodIn wsL_law wsL_heirs := goodIn_ca (goodIn_r _ [597, 98, 598, 599, 600, 2, 601, 103, 104, 105, 106, 107, 108, 18, 316, 317, 318, 319, 320, 321, 322, 323, 324, 325, 326, 327, 20, 23, 328, 329, 330, 331, 720, 721, 722, 723, 724, 725, 726, 727, 728, 729] (by decide +kernel) (by decide +kernel)) (goodIn_sub (fun _ h => List.mem_append_right _ h) (by decide +kernel))
set_option maxRecDepth 20000 in
theorem gL_law_L_heirs : GoodIn wsL_law (va_wsS RL 233 yL_heirs wsL_heirs) := goodIn_app (goodIn_of _ (by decide +kernel)) ggL_law_L_heirs
set_option maxRecDepth 20000 in
theorem ggL_law_X1_heirs : GoodIn wsL_law wsX1_heirs := goodIn_r _ [605, 58, 117, 118, 119, 5, 120, 90, 60, 61, 62, 606, 607, 608, 609, 347, 348, 349, 350, 351, 34, 35, 352, 353, 354, 355, 36, 63, 64, 65, 66, 730, 731, 732, 733, 734, 735, 736, 737, 738, 739, 740, 741, 742] (by decide +kernel) (by decide +kernel)
set_option maxRecDepth 20000 in
theorem gL_law_X1_heirs : GoodIn wsL_law (wsV RL 235 RX1 yX1_heirs wsX1_heirs) := goodIn_app (goodIn_of _ (by decide +kernel)) ggL_law_X1_heirs
set_option maxRecDepth 20000 in
theorem ggL_law_L_heir : GoodIn wsL_law wsL_heir := goodIn_ca (goodIn_r _ [612, 98, 613, 614, 615, 2, 616, 107, 108, 103, 104, 105, 106, 18, 617, 618, 619, 620, 324, 325, 326, 327, 20, 23, 328, 329, 330, 331, 720, 721, 722, 723, 724, 725, 726, 727, 728, 729] (by decide +kernel) (by decide +kernel)) (goodIn_sub (fun _ h => List.mem_append_right _ h) (by decide +kernel))
set_option maxRecDepth 20000 in
theorem gL_law_L_heir : GoodIn wsL_law (va_wsS RL 236 yL_heir wsL_heir) := goodIn_app (goodIn_of _ (by decide +kernel)) ggL_law_L_heir
set_option maxRecDepth 20000 in
theorem ggL_law_X1_heir : GoodIn wsL_law wsX1_heir := goodIn_r _ [624, 58, 36, 117, 118, 119, 5, 120, 90, 60, 61, 62, 606, 607, 608, 609, 347, 348, 349, 350, 351, 34, 35, 352, 353, 354, 355, 63, 64, 65, 66, 730, 731, 732, 733, 734, 735, 736, 737, 738, 739, 740, 741, 742] (by decide +kernel) (by decide +kernel)
set_option maxRecDepth 20000 in
theorem gL_law_X1_heir : GoodIn wsL_law (wsV RL 238 RX1 yX1_heir wsX1_heir) := goodIn_app (goodIn_of _ (by decide +kernel)) ggL_law_X1_heir
set_option maxRecDepth 20000 in
theorem ggL_law_X0_crownCoins : GoodIn wsL_law wsX0_crownCoins := goodIn_r _ [628, 24, 720, 721, 722, 723, 724, 725, 726, 727, 728, 729] (by decide +kernel) (by decide +kernel)
set_option maxRecDepth 20000 in
theorem gL_law_X0_crownCoins : GoodIn wsL_law (wsV RL 239 RX0 yX0_crownCoins wsX0_crownCoins) := goodIn_app (goodIn_of _ (by decide +kernel)) ggL_law_X0_crownCoins
set_option maxRecDepth 20000 in
theorem ggL_law_X1_crownCoins : GoodIn wsL_law wsX1_crownCoins := goodIn_r _ [632, 58, 304, 730, 731, 732, 733, 734, 735, 736, 737, 738, 739, 740, 741, 742] (by decide +kernel) (by decide +kernel)
set_option maxRecDepth 20000 in
theorem gL_law_X1_crownCoins : GoodIn wsL_law (wsV RL 242 RX1 yX1_crownCoins wsX1_crownCoins) := goodIn_app (goodIn_of _ (by decide +kernel)) ggL_law_X1_crownCoins
set_option maxRecDepth 20000 in
theorem ggL_law_L_price : GoodIn wsL_law wsL_price := goodIn_ca (goodIn_r _ [635, 98, 636, 637, 638, 2, 639, 103, 104, 105, 106, 107, 108, 18, 152, 153, 154, 155, 13, 156, 157, 158, 222, 223, 224, 225, 166, 167, 168, 169, 17, 170, 171, 172, 226, 227, 228, 229, 15, 230, 720, 721, 722, 723, 724, 725, 726, 727, 728, 729] (by decide +kernel) (by decide +kernel)) (goodIn_sub (fun _ h => List.mem_append_right _ h) (by decide +kernel))
set_option maxRecDepth 20000 in
theorem gL_law_L_price : GoodIn wsL_law (va_wsS RL 243 yL_price wsL_price) := goodIn_app (goodIn_of _ (by decide +kernel)) ggL_law_L_price
set_option maxRecDepth 20000 in
theorem ggL_law_X1_price : GoodIn wsL_law wsX1_price := goodIn_r _ [643, 58, 117, 118, 119, 5, 120, 90, 60, 61, 62, 181, 182, 183, 184, 185, 186, 187, 188, 59, 243, 244, 245, 246, 31, 193, 194, 195, 247, 248, 249, 250, 29, 251, 63, 64, 65, 66, 730, 731, 732, 733, 734, 735, 736, 737, 738, 739, 740, 741, 742] (by decide +kernel) (by decide +kernel)
set_option maxRecDepth 20000 in
theorem gL_law_X1_price : GoodIn wsL_law (wsV RL 245 RX1 yX1_price wsX1_price) := goodIn_app (goodIn_of _ (by decide +kernel)) ggL_law_X1_price
set_option maxRecDepth 20000 in
theorem ggL_law_L_canBuy : GoodIn wsL_law wsL_canBuy := goodIn_ca (goodIn_r _ [646, 98, 647, 648, 649, 2, 650, 214, 215, 216, 217, 103, 104, 105, 106, 107, 108, 18, 152, 153, 154, 155, 13, 156, 157, 158, 218, 219, 220, 221, 20, 21, 222, 223, 224, 225, 166, 167, 168, 169, 17, 170, 171, 172, 226, 227, 228, 229, 15, 230, 231, 232, 233, 234, 720, 721, 722, 723, 724, 725, 726, 727, 728, 729] (by decide +kernel) (by decide +kernel)) (goodIn_sub (fun _ h => List.mem_append_right _ h) (by decide +kernel))
set_option maxRecDepth 20000 in
theorem gL_law_L_canBuy : GoodIn wsL_law (va_wsS RL 246 yL_canBuy wsL_canBuy) := goodIn_app (goodIn_of _ (by decide +kernel)) ggL_law_L_canBuy
set_option maxRecDepth 20000 in
theorem ggL_law_X1_canBuy : GoodIn wsL_law wsX1_canBuy := goodIn_r _ [654, 58, 117, 118, 119, 5, 120, 90, 60, 61, 62, 181, 182, 183, 184, 185, 186, 187, 188, 59, 239, 240, 241, 242, 35, 32, 31, 243, 244, 245, 246, 193, 194, 195, 247, 248, 249, 250, 29, 251, 252, 253, 254, 255, 456, 457, 458, 459, 730, 731, 732, 733, 734, 735, 736, 737, 738, 739, 740, 741, 742] (by decide +kernel) (by decide +kernel)
set_option maxRecDepth 20000 in
theorem gL_law_X1_canBuy : GoodIn wsL_law (wsV RL 248 RX1 yX1_canBuy wsX1_canBuy) := goodIn_app (goodIn_of _ (by decide +kernel)) ggL_law_X1_canBuy
set_option maxRecDepth 20000 in
theorem ggL_law_L_inheritance : GoodIn wsL_law wsL_inheritance := goodIn_ca (goodIn_r _ [657, 98, 658, 659, 660, 2, 661, 103, 104, 105, 106, 107, 108, 18, 152, 153, 154, 155, 13, 156, 157, 158, 324, 325, 326, 327, 20, 23, 328, 329, 330, 331, 166, 167, 168, 169, 17, 170, 171, 172, 316, 317, 318, 319, 320, 321, 322, 323, 336, 337, 338, 720, 721, 722, 723, 724, 725, 726, 727, 728, 729] (by decide +kernel) (by decide +kernel)) (goodIn_sub (fun _ h => List.mem_append_right _ h) (by decide +kernel))
set_option maxRecDepth 20000 in
theorem gL_law_L_inheritance : GoodIn wsL_law (va_wsS RL 249 yL_inheritance wsL_inheritance) := goodIn_app (goodIn_of _ (by decide +kernel)) ggL_law_L_inheritance
set_option maxRecDepth 20000 in
theorem ggL_law_X1_inheritance : GoodIn wsL_law wsX1_inheritance := goodIn_r _ [665, 58, 347, 36, 31, 117, 118, 119, 5, 120, 90, 60, 61, 62, 181, 182, 183, 184, 185, 186, 187, 188, 59, 63, 64, 65, 66, 348, 349, 350, 351, 34, 35, 352, 353, 354, 355, 193, 194, 195, 356, 357, 358, 359, 730, 731, 732, 733, 734, 735, 736, 737, 738, 739, 740, 741, 742] (by decide +kernel) (by decide +kernel)
set_option maxRecDepth 20000 in
theorem gL_law_X1_inheritance : GoodIn wsL_law (wsV RL 251 RX1 yX1_inheritance wsX1_inheritance) := goodIn_app (goodIn_of _ (by decide +kernel)) ggL_law_X1_inheritance
set_option maxRecDepth 20000 in
theorem ggL_law_L_fare : GoodIn wsL_law wsL_fare := goodIn_ca (goodIn_ca (goodIn_r _ [668, 98, 41, 669, 670, 671, 2, 672, 103, 104, 105, 106, 107, 108, 18, 152, 153, 154, 155, 13, 290, 291, 292, 293, 294, 295, 52, 53, 296, 297, 298, 299, 15, 166, 167, 168, 169, 17, 170, 171, 172, 720, 721, 722, 723, 724, 725, 726, 727, 728, 729] (by decide +kernel) (by decide +kernel)) (goodIn_sub (fun _ h => List.mem_append_right _ h) (by decide +kernel))) (goodIn_sub (fun _ h => List.mem_append_left _ (List.mem_append_right _ h)) (by decide +kernel))
set_option maxRecDepth 20000 in
theorem gL_law_L_fare : GoodIn wsL_law (va_wsS RL 252 yL_fare wsL_fare) := goodIn_app (goodIn_of _ (by decide +kernel)) ggL_law_L_fare
set_option maxRecDepth 20000 in
theorem ggL_law_X1_fare : GoodIn wsL_law wsX1_fare := goodIn_r _ [676, 58, 117, 118, 119, 5, 120, 90, 60, 61, 62, 185, 186, 187, 188, 59, 63, 64, 65, 66, 305, 306, 307, 308, 29, 31, 193, 194, 195, 730, 731, 732, 733, 734, 735, 736, 737, 738, 739, 740, 741, 742] (by decide +kernel) (by decide +kernel)
set_option maxRecDepth 20000 in
theorem gL_law_X1_fare : GoodIn wsL_law (wsV RL 254 RX1 yX1_fare wsX1_fare) := goodIn_app (goodIn_of _ (by decide +kernel)) ggL_law_X1_fare
set_option maxRecDepth 20000 in
theorem ggL_law_L_richest : GoodIn wsL_law wsL_richest := goodIn_ca (goodIn_r _ [679, 42, 680, 681, 682, 2, 683, 47, 48, 18, 20, 21, 720, 721, 722, 723, 724, 725, 726, 727, 728, 729] (by decide +kernel) (by decide +kernel)) (goodIn_sub (fun _ h => List.mem_append_left _ (List.mem_append_left _ (List.mem_append_right _ h))) (by decide +kernel))
set_option maxRecDepth 20000 in
theorem gL_law_L_richest : GoodIn wsL_law (va_wsS RL 255 yL_richest wsL_richest) := goodIn_app (goodIn_of _ (by decide +kernel)) ggL_law_L_richest
set_option maxRecDepth 20000 in
theorem ggL_law_X1_richest : GoodIn wsL_law wsX1_richest := goodIn_r _ [687, 58, 90, 35, 32, 63, 64, 65, 5, 66, 730, 731, 732, 733, 734, 735, 736, 737, 738, 739, 740, 741, 742] (by decide +kernel) (by decide +kernel)
set_option maxRecDepth 20000 in
theorem gL_law_X1_richest : GoodIn wsL_law (wsV RL 257 RX1 yX1_richest wsX1_richest) := goodIn_app (goodIn_of _ (by decide +kernel)) ggL_law_X1_richest
set_option maxRecDepth 20000 in
theorem ggL_law_X0_meanCoins : GoodIn wsL_law wsX0_meanCoins := goodIn_r _ [691, 18, 20, 21, 720, 721, 722, 723, 724, 725, 726, 727, 728, 729] (by decide +kernel) (by decide +kernel)
set_option maxRecDepth 20000 in
theorem gL_law_X0_meanCoins : GoodIn wsL_law (wsV RL 258 RX0 yX0_meanCoins wsX0_meanCoins) := goodIn_app (goodIn_of _ (by decide +kernel)) ggL_law_X0_meanCoins
set_option maxRecDepth 20000 in
theorem ggL_law_X1_meanCoins : GoodIn wsL_law wsX1_meanCoins := goodIn_r _ [695, 58, 90, 32, 498, 499, 500, 5, 501, 35, 730, 731, 732, 733, 734, 735, 736, 737, 738, 739, 740, 741, 742] (by decide +kernel) (by decide +kernel)
set_option maxRecDepth 20000 in
theorem gL_law_X1_meanCoins : GoodIn wsL_law (wsV RL 262 RX1 yX1_meanCoins wsX1_meanCoins) := goodIn_app (goodIn_of _ (by decide +kernel)) ggL_law_X1_meanCoins
set_option maxRecDepth 20000 in
theorem ggL_law_X0_digest : GoodIn wsL_law wsX0_digest := goodIn_r _ [699, 700, 13, 18, 24, 701, 702, 2, 703, 704, 705, 491, 492, 493, 20, 706, 707, 708, 709, 15, 16, 166, 167, 168, 169, 17, 170, 171, 172, 710, 711, 712, 713, 21, 22, 542, 543, 544, 545, 267, 268, 269, 270, 583, 584, 585, 586, 23, 316, 317, 318, 319, 320, 321, 322, 323, 324, 325, 326, 327, 328, 329, 330, 331, 720, 721, 722, 723, 724, 725, 726, 727, 728, 729] (by decide +kernel) (by decide +kernel)
set_option maxRecDepth 20000 in
theorem gL_law_X0_digest : GoodIn wsL_law (wsV RL 263 RX0 yX0_digest wsX0_digest) := goodIn_app (goodIn_of _ (by decide +kernel)) ggL_law_X0_digest
set_option maxRecDepth 20000 in
theorem ggL_law_X1_digest : GoodIn wsL_law wsX1_digest := goodIn_r _ [717, 58, 718, 719, 59, 90, 304, 29, 30, 31, 35, 32, 33, 498, 499, 500, 5, 501, 193, 194, 195, 550, 551, 552, 553, 279, 280, 281, 282, 591, 592, 593, 594, 34, 606, 607, 608, 609, 347, 348, 349, 350, 351, 352, 353, 354, 355, 36, 730, 731, 732, 733, 734, 735, 736, 737, 738, 739, 740, 741, 742] (by decide +kernel) (by decide +kernel)
set_option maxRecDepth 20000 in
theorem gL_law_X1_digest : GoodIn wsL_law (wsV RL 267 RX1 yX1_digest wsX1_digest) := goodIn_app (goodIn_of _ (by decide +kernel)) ggL_law_X1_digest
