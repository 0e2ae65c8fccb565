set_option maxRecDepth 20000 in
theorem ggL_law_X0_init : GoodIn wsL_law wsX0_init := goodIn_r _ [13, 14, 15, 16, 17, 7, 18, 19, 20, 21, 22, 23, 24, 25, 26, 27, 452, 453, 454, 455, 456, 457, 458, 459, 460, 461] rfl (by decide +kernel)
set_option maxRecDepth 20000 in
theorem gL_law_X0_init : GoodIn wsL_law (wsX0_init) := ggL_law_X0_init
set_option maxRecDepth 20000 in
theorem ggL_law_L_build : GoodIn wsL_law wsL_build := goodIn_ca (goodIn_ca (goodIn_ca (goodIn_r _ [31, 32, 33, 34, 35, 36, 37, 38, 39, 15, 16, 7, 40, 41, 42, 43, 44, 45, 46, 30, 47, 48, 49, 50, 51, 52, 53, 54, 55, 56, 57, 58, 59, 60, 61, 62, 63, 2, 64, 65, 66, 17, 18, 67, 68, 69, 70, 71, 72, 73, 74, 75, 76, 77, 78, 79, 80, 81, 82, 83, 21, 84, 85, 86, 87, 23, 26, 88, 89, 90, 91, 92, 93, 94, 95, 96, 97, 98, 99, 100, 101, 102, 103, 104, 105, 106, 107, 108, 109, 110, 111, 112, 113, 114, 115, 116, 117, 118, 119, 120, 121, 122, 123, 124, 125, 126, 127, 128, 129, 130, 131, 20, 132, 133, 134, 135, 136, 137, 138, 139, 140, 141, 142, 143, 9, 5, 10, 144, 145, 146, 147, 24, 148, 149, 150, 151, 152, 462, 463, 464, 465, 466, 452, 453, 454, 455, 456, 457, 458, 459, 460, 461] rfl (by decide +kernel)) (goodIn_sub (fun _ h => List.mem_append_left _ (List.mem_append_left _ (List.mem_append_right _ h))) (by decide +kernel))) (goodIn_sub (fun _ h => List.mem_append_left _ (List.mem_append_right _ h)) (by decide +kernel))) (goodIn_sub (fun _ h => List.mem_append_right _ h) (by decide +kernel))
set_option maxRecDepth 20000 in
theorem gL_law_L_build : GoodIn wsL_law (va_wsS RL 103 yL_build wsL_build) := goodIn_app (goodIn_of _ (by decide +kernel)) ggL_law_L_build
set_option maxRecDepth 20000 in
theorem ggL_law_L_cell : GoodIn wsL_law wsL_cell := goodIn_r _ [47, 48] rfl (by decide +kernel)
set_option maxRecDepth 20000 in
theorem gL_law_L_cell : GoodIn wsL_law (va_wsS RL 98 yL_cell wsL_cell) := goodIn_app (goodIn_of _ (by decide +kernel)) ggL_law_L_cell
set_option maxRecDepth 20000 in
theorem ggL_law_L_act : GoodIn wsL_law wsL_act := goodIn_ca (goodIn_ca (goodIn_ca (goodIn_r _ [155, 156, 35, 36, 49, 50, 30, 51, 52, 53, 54, 55, 34, 56, 40, 41, 42, 57, 7, 58, 59, 60, 61, 62, 63, 2, 64, 65, 66, 17, 18, 67, 68, 69, 70, 71, 72, 73, 74, 75, 44, 43, 76, 77, 78, 79, 80, 81, 82, 83, 21, 84, 85, 86, 87, 23, 26, 88, 89, 90, 91, 92, 93, 94, 95, 96, 97, 98, 99, 100, 101, 139, 140, 141, 142, 143, 9, 5, 10, 144, 145, 146, 147, 24, 148, 149, 150, 151, 152, 102, 103, 104, 105, 106, 107, 108, 109, 110, 111, 112, 113, 114, 115, 116, 117, 118, 119, 120, 121, 122, 123, 124, 125, 126, 127, 128, 129, 130, 131, 20, 132, 133, 134, 135, 136, 137, 138, 157, 158, 159, 160, 161, 162, 163, 164, 165, 166, 167, 168, 169, 170, 171, 172, 173, 174, 175, 176, 177, 178, 179, 180, 181, 182, 183, 184, 185, 186, 187, 188, 189, 190, 191, 192, 193, 194, 195, 196, 197, 198, 199, 200, 201, 202, 203, 204, 205, 206, 207, 208, 209, 210, 211, 212, 213, 214, 215, 216, 217, 218, 219, 220, 221, 222, 223, 224, 225, 226, 227, 228, 229, 230, 231, 232, 233, 234, 235, 236, 237, 238, 27, 239, 240, 241, 242, 243, 244, 245, 246, 247, 248, 249, 250, 251, 252, 253, 254, 255, 256, 257, 258, 259, 260, 261, 262, 263, 264, 265, 266, 267, 268, 269, 25, 19, 270, 271, 272, 273, 274, 275, 276, 277, 278, 279, 280, 281, 282, 283, 462, 463, 464, 465, 466, 452, 453, 454, 455, 456, 457, 458, 459, 460, 461] rfl (by decide +kernel)) (goodIn_sub (fun _ h => List.mem_append_left _ (List.mem_append_left _ (List.mem_append_right _ h))) (by decide +kernel))) (goodIn_sub (fun _ h => List.mem_append_left _ (List.mem_append_right _ h)) (by decide +kernel))) (goodIn_sub (fun _ h => List.mem_append_right _ h) (by decide +kernel))
set_option maxRecDepth 20000 in
theorem gL_law_L_act : GoodIn wsL_law (va_wsS RL 107 yL_act wsL_act) := goodIn_app (goodIn_of _ (by decide +kernel)) ggL_law_L_act
set_option maxRecDepth 20000 in
theorem ggL_law_X0_digest : GoodIn wsL_law wsX0_digest := goodIn_r _ [287, 288, 17, 21, 27, 289, 290, 2, 291, 292, 293, 294, 295, 296, 23, 297, 298, 299, 300, 18, 19, 128, 129, 130, 131, 20, 132, 133, 134, 301, 302, 303, 304, 24, 25, 305, 306, 307, 308, 212, 213, 214, 215, 309, 310, 311, 312, 26, 239, 240, 241, 242, 243, 244, 245, 246, 247, 248, 249, 250, 251, 252, 253, 254, 452, 453, 454, 455, 456, 457, 458, 459, 460, 461] rfl (by decide +kernel)
set_option maxRecDepth 20000 in
theorem gL_law_X0_digest : GoodIn wsL_law (wsV RL 111 RX0 yX0_digest wsX0_digest) := goodIn_app (goodIn_of _ (by decide +kernel)) ggL_law_X0_digest
set_option maxRecDepth 20000 in
theorem ggL_law_X0_people : GoodIn wsL_law wsX0_people := goodIn_r _ [316, 21, 452, 453, 454, 455, 456, 457, 458, 459, 460, 461] rfl (by decide +kernel)
set_option maxRecDepth 20000 in
theorem gL_law_X0_people : GoodIn wsL_law (wsV RL 115 RX0 yX0_people wsX0_people) := goodIn_app (goodIn_of _ (by decide +kernel)) ggL_law_X0_people
set_option maxRecDepth 20000 in
theorem ggL_law_X0_isAlive : GoodIn wsL_law wsX0_isAlive := goodIn_ca (goodIn_r _ [320, 23, 92, 93, 94, 2, 95, 96, 97, 21, 452, 453, 454, 455, 456, 457, 458, 459, 460, 461] rfl (by decide +kernel)) (goodIn_sub (fun _ h => List.mem_append_right _ h) (by decide +kernel))
set_option maxRecDepth 20000 in
theorem gL_law_X0_isAlive : GoodIn wsL_law (wsV RL 117 RX0 yX0_isAlive wsX0_isAlive) := goodIn_app (goodIn_of _ (by decide +kernel)) ggL_law_X0_isAlive
set_option maxRecDepth 20000 in
theorem ggL_law_X0_coins : GoodIn wsL_law wsX0_coins := goodIn_ca (goodIn_r _ [324, 24, 92, 93, 94, 2, 95, 96, 97, 21, 452, 453, 454, 455, 456, 457, 458, 459, 460, 461] rfl (by decide +kernel)) (goodIn_sub (fun _ h => List.mem_append_right _ h) (by decide +kernel))
set_option maxRecDepth 20000 in
theorem gL_law_X0_coins : GoodIn wsL_law (wsV RL 121 RX0 yX0_coins wsX0_coins) := goodIn_app (goodIn_of _ (by decide +kernel)) ggL_law_X0_coins
set_option maxRecDepth 20000 in
theorem ggL_law_X0_earned : GoodIn wsL_law wsX0_earned := goodIn_ca (goodIn_r _ [328, 25, 92, 93, 94, 2, 95, 96, 97, 21, 452, 453, 454, 455, 456, 457, 458, 459, 460, 461] rfl (by decide +kernel)) (goodIn_sub (fun _ h => List.mem_append_right _ h) (by decide +kernel))
set_option maxRecDepth 20000 in
theorem gL_law_X0_earned : GoodIn wsL_law (wsV RL 124 RX0 yX0_earned wsX0_earned) := goodIn_app (goodIn_of _ (by decide +kernel)) ggL_law_X0_earned
set_option maxRecDepth 20000 in
theorem ggL_law_X0_allShares : GoodIn wsL_law wsX0_allShares := goodIn_ca (goodIn_r _ [332, 92, 93, 94, 2, 95, 96, 97, 21, 305, 306, 307, 308, 17, 212, 213, 214, 215, 128, 129, 130, 131, 20, 132, 133, 134, 452, 453, 454, 455, 456, 457, 458, 459, 460, 461] rfl (by decide +kernel)) (goodIn_sub (fun _ h => List.mem_append_right _ h) (by decide +kernel))
set_option maxRecDepth 20000 in
theorem gL_law_X0_allShares : GoodIn wsL_law (wsV RL 127 RX0 yX0_allShares wsX0_allShares) := goodIn_app (goodIn_of _ (by decide +kernel)) ggL_law_X0_allShares
set_option maxRecDepth 20000 in
theorem ggL_law_X0_hasParent : GoodIn wsL_law wsX0_hasParent := goodIn_ca (goodIn_r _ [336, 26, 92, 93, 94, 2, 95, 96, 97, 21, 452, 453, 454, 455, 456, 457, 458, 459, 460, 461] rfl (by decide +kernel)) (goodIn_sub (fun _ h => List.mem_append_right _ h) (by decide +kernel))
set_option maxRecDepth 20000 in
theorem gL_law_X0_hasParent : GoodIn wsL_law (wsV RL 130 RX0 yX0_hasParent wsX0_hasParent) := goodIn_app (goodIn_of _ (by decide +kernel)) ggL_law_X0_hasParent
set_option maxRecDepth 20000 in
theorem ggL_law_X0_parent : GoodIn wsL_law wsX0_parent := goodIn_ca (goodIn_ca (goodIn_r _ [340, 65, 66, 26, 92, 93, 94, 2, 95, 96, 97, 21, 452, 453, 454, 455, 456, 457, 458, 459, 460, 461] rfl (by decide +kernel)) (goodIn_sub (fun _ h => List.mem_append_left _ (List.mem_append_left _ (List.mem_append_right _ h))) (by decide +kernel))) (goodIn_sub (fun _ h => List.mem_append_right _ h) (by decide +kernel))
set_option maxRecDepth 20000 in
theorem gL_law_X0_parent : GoodIn wsL_law (wsV RL 133 RX0 yX0_parent wsX0_parent) := goodIn_app (goodIn_of _ (by decide +kernel)) ggL_law_X0_parent
set_option maxRecDepth 20000 in
theorem ggL_law_X0_heirs : GoodIn wsL_law wsX0_heirs := goodIn_ca (goodIn_r _ [344, 92, 93, 94, 2, 95, 96, 97, 21, 239, 240, 241, 242, 243, 244, 245, 246, 247, 248, 249, 250, 23, 26, 251, 252, 253, 254, 452, 453, 454, 455, 456, 457, 458, 459, 460, 461] rfl (by decide +kernel)) (goodIn_sub (fun _ h => List.mem_append_right _ h) (by decide +kernel))
set_option maxRecDepth 20000 in
theorem gL_law_X0_heirs : GoodIn wsL_law (wsV RL 141 RX0 yX0_heirs wsX0_heirs) := goodIn_app (goodIn_of _ (by decide +kernel)) ggL_law_X0_heirs
set_option maxRecDepth 20000 in
theorem ggL_law_X0_heir : GoodIn wsL_law wsX0_heir := goodIn_ca (goodIn_r _ [348, 96, 97, 92, 93, 94, 2, 95, 21, 349, 350, 351, 352, 247, 248, 249, 250, 23, 26, 251, 252, 253, 254, 452, 453, 454, 455, 456, 457, 458, 459, 460, 461] rfl (by decide +kernel)) (goodIn_sub (fun _ h => List.mem_append_right _ h) (by decide +kernel))
set_option maxRecDepth 20000 in
theorem gL_law_X0_heir : GoodIn wsL_law (wsV RL 143 RX0 yX0_heir wsX0_heir) := goodIn_app (goodIn_of _ (by decide +kernel)) ggL_law_X0_heir
set_option maxRecDepth 20000 in
theorem ggL_law_X0_living : GoodIn wsL_law wsX0_living := goodIn_r _ [296, 21, 23, 452, 453, 454, 455, 456, 457, 458, 459, 460, 461] rfl (by decide +kernel)
set_option maxRecDepth 20000 in
theorem gL_law_X0_living : GoodIn wsL_law (wsV RL 146 RX0 yX0_living wsX0_living) := goodIn_app (goodIn_of _ (by decide +kernel)) ggL_law_X0_living
set_option maxRecDepth 20000 in
theorem ggL_law_X0_richest : GoodIn wsL_law wsX0_richest := goodIn_ca (goodIn_r _ [357, 65, 66, 21, 23, 24, 452, 453, 454, 455, 456, 457, 458, 459, 460, 461] rfl (by decide +kernel)) (goodIn_sub (fun _ h => List.mem_append_left _ (List.mem_append_left _ (List.mem_append_right _ h))) (by decide +kernel))
set_option maxRecDepth 20000 in
theorem gL_law_X0_richest : GoodIn wsL_law (wsV RL 149 RX0 yX0_richest wsX0_richest) := goodIn_app (goodIn_of _ (by decide +kernel)) ggL_law_X0_richest
set_option maxRecDepth 20000 in
theorem ggL_law_X0_ferries : GoodIn wsL_law wsX0_ferries := goodIn_r _ [361, 17, 452, 453, 454, 455, 456, 457, 458, 459, 460, 461] rfl (by decide +kernel)
set_option maxRecDepth 20000 in
theorem gL_law_X0_ferries : GoodIn wsL_law (wsV RL 152 RX0 yX0_ferries wsX0_ferries) := goodIn_app (goodIn_of _ (by decide +kernel)) ggL_law_X0_ferries
set_option maxRecDepth 20000 in
theorem ggL_law_L_below : GoodIn wsL_law wsL_below := goodIn_r _ [51, 52] rfl (by decide +kernel)
set_option maxRecDepth 20000 in
theorem gL_law_L_below : GoodIn wsL_law (va_wsS RL 15 yL_below wsL_below) := goodIn_app (goodIn_of _ (by decide +kernel)) ggL_law_L_below
set_option maxRecDepth 20000 in
theorem ggL_law_X0_shares : GoodIn wsL_law wsX0_shares := goodIn_ca (goodIn_r _ [365, 114, 115, 116, 2, 117, 96, 97, 17, 118, 119, 120, 92, 93, 94, 95, 21, 128, 129, 130, 131, 20, 132, 133, 134, 452, 453, 454, 455, 456, 457, 458, 459, 460, 461] rfl (by decide +kernel)) (goodIn_sub (fun _ h => List.mem_append_right _ h) (by decide +kernel))
set_option maxRecDepth 20000 in
theorem gL_law_X0_shares : GoodIn wsL_law (wsV RL 155 RX0 yX0_shares wsX0_shares) := goodIn_app (goodIn_of _ (by decide +kernel)) ggL_law_X0_shares
set_option maxRecDepth 20000 in
theorem ggL_law_X0_hasMaster : GoodIn wsL_law wsX0_hasMaster := goodIn_ca (goodIn_r _ [369, 114, 115, 116, 2, 117, 96, 97, 17, 208, 209, 210, 211, 21, 212, 213, 214, 215, 128, 129, 130, 131, 20, 132, 133, 134, 452, 453, 454, 455, 456, 457, 458, 459, 460, 461] rfl (by decide +kernel)) (goodIn_sub (fun _ h => List.mem_append_right _ h) (by decide +kernel))
set_option maxRecDepth 20000 in
theorem gL_law_X0_hasMaster : GoodIn wsL_law (wsV RL 158 RX0 yX0_hasMaster wsX0_hasMaster) := goodIn_app (goodIn_of _ (by decide +kernel)) ggL_law_X0_hasMaster
set_option maxRecDepth 20000 in
theorem ggL_law_X0_master : GoodIn wsL_law wsX0_master := goodIn_ca (goodIn_ca (goodIn_r _ [373, 65, 66, 114, 115, 116, 2, 117, 96, 97, 17, 208, 209, 210, 211, 21, 212, 213, 214, 215, 128, 129, 130, 131, 20, 132, 133, 134, 452, 453, 454, 455, 456, 457, 458, 459, 460, 461] rfl (by decide +kernel)) (goodIn_sub (fun _ h => List.mem_append_left _ (List.mem_append_left _ (List.mem_append_right _ h))) (by decide +kernel))) (goodIn_sub (fun _ h => List.mem_append_right _ h) (by decide +kernel))
set_option maxRecDepth 20000 in
theorem gL_law_X0_master : GoodIn wsL_law (wsV RL 161 RX0 yX0_master wsX0_master) := goodIn_app (goodIn_of _ (by decide +kernel)) ggL_law_X0_master
set_option maxRecDepth 20000 in
theorem ggL_law_X0_crownShares : GoodIn wsL_law wsX0_crownShares := goodIn_ca (goodIn_r _ [377, 114, 115, 116, 2, 117, 96, 97, 17, 118, 119, 120, 124, 125, 126, 127, 21, 128, 129, 130, 131, 20, 132, 133, 134, 452, 453, 454, 455, 456, 457, 458, 459, 460, 461] rfl (by decide +kernel)) (goodIn_sub (fun _ h => List.mem_append_right _ h) (by decide +kernel))
set_option maxRecDepth 20000 in
theorem gL_law_X0_crownShares : GoodIn wsL_law (wsV RL 162 RX0 yX0_crownShares wsX0_crownShares) := goodIn_app (goodIn_of _ (by decide +kernel)) ggL_law_X0_crownShares
set_option maxRecDepth 20000 in
theorem ggL_law_X0_fare : GoodIn wsL_law wsX0_fare := goodIn_ca (goodIn_ca (goodIn_r _ [381, 92, 93, 94, 2, 95, 96, 97, 21, 114, 115, 116, 117, 17, 270, 271, 272, 273, 274, 275, 70, 71, 276, 277, 278, 279, 18, 128, 129, 130, 131, 20, 132, 133, 134, 452, 453, 454, 455, 456, 457, 458, 459, 460, 461] rfl (by decide +kernel)) (goodIn_sub (fun _ h => List.mem_append_right _ h) (by decide +kernel))) (goodIn_sub (fun _ h => List.mem_append_left _ (List.mem_append_right _ h)) (by decide +kernel))
set_option maxRecDepth 20000 in
theorem gL_law_X0_fare : GoodIn wsL_law (wsV RL 165 RX0 yX0_fare wsX0_fare) := goodIn_app (goodIn_of _ (by decide +kernel)) ggL_law_X0_fare
set_option maxRecDepth 20000 in
theorem ggL_law_X0_inheritance : GoodIn wsL_law wsX0_inheritance := goodIn_ca (goodIn_r _ [385, 92, 93, 94, 2, 95, 96, 97, 21, 114, 115, 116, 117, 17, 118, 119, 120, 247, 248, 249, 250, 23, 26, 251, 252, 253, 254, 128, 129, 130, 131, 20, 132, 133, 134, 239, 240, 241, 242, 243, 244, 245, 246, 259, 260, 261, 452, 453, 454, 455, 456, 457, 458, 459, 460, 461] rfl (by decide +kernel)) (goodIn_sub (fun _ h => List.mem_append_right _ h) (by decide +kernel))
set_option maxRecDepth 20000 in
theorem gL_law_X0_inheritance : GoodIn wsL_law (wsV RL 168 RX0 yX0_inheritance wsX0_inheritance) := goodIn_app (goodIn_of _ (by decide +kernel)) ggL_law_X0_inheritance
set_option maxRecDepth 20000 in
theorem ggL_law_X0_canBuy : GoodIn wsL_law wsX0_canBuy := goodIn_ca (goodIn_r _ [389, 175, 176, 177, 2, 178, 92, 93, 94, 95, 96, 97, 21, 114, 115, 116, 117, 17, 118, 119, 120, 179, 180, 181, 182, 23, 24, 183, 184, 185, 186, 128, 129, 130, 131, 20, 132, 133, 134, 187, 188, 189, 190, 18, 191, 192, 193, 194, 195, 452, 453, 454, 455, 456, 457, 458, 459, 460, 461] rfl (by decide +kernel)) (goodIn_sub (fun _ h => List.mem_append_right _ h) (by decide +kernel))
set_option maxRecDepth 20000 in
theorem gL_law_X0_canBuy : GoodIn wsL_law (wsV RL 171 RX0 yX0_canBuy wsX0_canBuy) := goodIn_app (goodIn_of _ (by decide +kernel)) ggL_law_X0_canBuy
set_option maxRecDepth 20000 in
theorem ggL_law_X0_price : GoodIn wsL_law wsX0_price := goodIn_ca (goodIn_r _ [393, 92, 93, 94, 2, 95, 96, 97, 21, 114, 115, 116, 117, 17, 118, 119, 120, 183, 184, 185, 186, 128, 129, 130, 131, 20, 132, 133, 134, 187, 188, 189, 190, 18, 191, 452, 453, 454, 455, 456, 457, 458, 459, 460, 461] rfl (by decide +kernel)) (goodIn_sub (fun _ h => List.mem_append_right _ h) (by decide +kernel))
set_option maxRecDepth 20000 in
theorem gL_law_X0_price : GoodIn wsL_law (wsV RL 172 RX0 yX0_price wsX0_price) := goodIn_app (goodIn_of _ (by decide +kernel)) ggL_law_X0_price
set_option maxRecDepth 20000 in
theorem ggL_law_X0_shareValue : GoodIn wsL_law wsX0_shareValue := goodIn_ca (goodIn_r _ [397, 114, 115, 116, 2, 117, 96, 97, 17, 118, 119, 120, 187, 188, 189, 190, 18, 191, 452, 453, 454, 455, 456, 457, 458, 459, 460, 461] rfl (by decide +kernel)) (goodIn_sub (fun _ h => List.mem_append_right _ h) (by decide +kernel))
set_option maxRecDepth 20000 in
theorem gL_law_X0_shareValue : GoodIn wsL_law (wsV RL 175 RX0 yX0_shareValue wsX0_shareValue) := goodIn_app (goodIn_of _ (by decide +kernel)) ggL_law_X0_shareValue
set_option maxRecDepth 20000 in
theorem ggL_law_X0_owners : GoodIn wsL_law wsX0_owners := goodIn_ca (goodIn_r _ [401, 21, 114, 115, 116, 2, 117, 96, 97, 17, 118, 119, 120, 128, 129, 130, 131, 20, 132, 133, 134, 452, 453, 454, 455, 456, 457, 458, 459, 460, 461] rfl (by decide +kernel)) (goodIn_sub (fun _ h => List.mem_append_right _ h) (by decide +kernel))
set_option maxRecDepth 20000 in
theorem gL_law_X0_owners : GoodIn wsL_law (wsV RL 178 RX0 yX0_owners wsX0_owners) := goodIn_app (goodIn_of _ (by decide +kernel)) ggL_law_X0_owners
set_option maxRecDepth 20000 in
theorem ggL_law_X0_toll : GoodIn wsL_law wsX0_toll := goodIn_ca (goodIn_r _ [405, 18, 114, 115, 116, 2, 117, 96, 97, 17, 452, 453, 454, 455, 456, 457, 458, 459, 460, 461] rfl (by decide +kernel)) (goodIn_sub (fun _ h => List.mem_append_right _ h) (by decide +kernel))
set_option maxRecDepth 20000 in
theorem gL_law_X0_toll : GoodIn wsL_law (wsV RL 181 RX0 yX0_toll wsX0_toll) := goodIn_app (goodIn_of _ (by decide +kernel)) ggL_law_X0_toll
set_option maxRecDepth 20000 in
theorem ggL_law_X0_crownCoins : GoodIn wsL_law wsX0_crownCoins := goodIn_r _ [409, 27, 452, 453, 454, 455, 456, 457, 458, 459, 460, 461] rfl (by decide +kernel)
set_option maxRecDepth 20000 in
theorem gL_law_X0_crownCoins : GoodIn wsL_law (wsV RL 184 RX0 yX0_crownCoins wsX0_crownCoins) := goodIn_app (goodIn_of _ (by decide +kernel)) ggL_law_X0_crownCoins
set_option maxRecDepth 20000 in
theorem ggL_law_X0_carry : GoodIn wsL_law wsX0_carry := goodIn_ca (goodIn_ca (goodIn_r _ [269, 18, 21, 25, 27, 19, 114, 115, 116, 2, 117, 96, 97, 17, 270, 271, 272, 273, 274, 275, 70, 71, 276, 277, 278, 279, 128, 129, 130, 131, 20, 132, 133, 134, 148, 149, 150, 151, 24, 152, 9, 5, 10, 452, 453, 454, 455, 456, 457, 458, 459, 460, 461] rfl (by decide +kernel)) (goodIn_sub (fun _ h => List.mem_append_right _ h) (by decide +kernel))) (goodIn_sub (fun _ h => List.mem_append_left _ (List.mem_append_right _ h)) (by decide +kernel))
set_option maxRecDepth 20000 in
theorem gL_law_X0_carry : GoodIn wsL_law (wsV RL 91 RX0 yX0_carry wsX0_carry) := goodIn_app (goodIn_of _ (by decide +kernel)) ggL_law_X0_carry
set_option maxRecDepth 20000 in
theorem ggL_law_X1_carry : GoodIn wsL_law wsX1_carry := goodIn_r _ [283, 40, 44, 41, 228, 165, 103, 104, 34, 105, 42, 234, 140, 141, 142, 143, 9, 5, 10, 462, 463, 464, 465, 466] rfl (by decide +kernel)
set_option maxRecDepth 20000 in
theorem gL_law_X1_carry : GoodIn wsL_law (wsV RL 94 RX1 yX1_carry wsX1_carry) := goodIn_app (goodIn_of _ (by decide +kernel)) ggL_law_X1_carry
set_option maxRecDepth 20000 in
theorem ggL_law_X1_isSame : GoodIn wsL_law wsX1_isSame := goodIn_ca (goodIn_ca (goodIn_r _ [413, 44, 7, 40, 228, 41, 414, 359, 360, 2, 361, 17, 415, 314, 315, 316, 21, 416, 407, 408, 409, 27, 417, 197, 198, 34, 199, 200, 201, 202, 203, 165, 103, 104, 105, 42, 418, 403, 404, 405, 18, 114, 115, 116, 117, 96, 97, 419, 420, 421, 422, 19, 423, 367, 368, 369, 208, 209, 210, 211, 212, 213, 214, 215, 128, 129, 130, 131, 20, 132, 133, 134, 424, 371, 372, 373, 65, 66, 425, 363, 364, 365, 118, 119, 120, 92, 93, 94, 95, 426, 391, 392, 393, 183, 184, 185, 186, 187, 188, 189, 190, 191, 166, 167, 168, 169, 427, 399, 400, 401, 428, 429, 430, 431, 432, 375, 376, 377, 124, 125, 126, 127, 433, 395, 396, 397, 229, 217, 218, 219, 220, 221, 222, 223, 58, 59, 60, 434, 318, 319, 320, 23, 435, 322, 323, 324, 24, 436, 326, 327, 328, 25, 437, 334, 335, 336, 26, 438, 338, 339, 340, 439, 440, 441, 442, 309, 310, 311, 312, 443, 330, 331, 332, 305, 306, 307, 308, 444, 342, 343, 344, 239, 240, 241, 242, 243, 244, 245, 246, 247, 248, 249, 250, 251, 252, 253, 254, 445, 346, 347, 348, 349, 350, 351, 352, 446, 294, 295, 296, 447, 355, 356, 357, 448, 449, 450, 451, 462, 463, 464, 465, 466, 452, 453, 454, 455, 456, 457, 458, 459, 460, 461] rfl (by decide +kernel)) (goodIn_sub (fun _ h => List.mem_append_right _ h) (by decide +kernel))) (goodIn_sub (fun _ h => List.mem_append_left _ (List.mem_append_left _ (List.mem_append_right _ h))) (by decide +kernel))
set_option maxRecDepth 20000 in
theorem gL_law_X1_isSame : GoodIn wsL_law (wsV RL 190 RX1 yX1_isSame wsX1_isSame) := goodIn_app (goodIn_of _ (by decide +kernel)) ggL_law_X1_isSame
