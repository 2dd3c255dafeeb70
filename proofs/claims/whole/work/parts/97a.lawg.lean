set_option maxRecDepth 20000 in
theorem ggL_law_X7_init : GoodIn wsL_law wsX7_init := goodIn_r _ [10, 11, 12, 13, 14, 15, 16, 17, 18, 19, 20, 21, 22, 23, 24, 25, 26, 27, 28, 29, 30, 31, 32, 33, 34, 35, 36, 37, 38, 39, 40, 41, 6, 42, 43, 44, 45, 46, 47, 48, 49, 50, 51, 52, 53, 54, 55, 56, 57, 58, 59, 60, 61, 62, 63, 64, 65, 66, 67, 68, 69, 70, 71, 72, 73, 74, 75, 76, 77, 78, 79, 80, 81, 82, 83, 84, 85, 86, 87, 88, 624, 625, 626, 627, 628, 596, 597, 598, 599, 600, 601, 602, 603, 629, 630, 631, 632, 633, 634, 635, 636, 637, 638, 639, 640, 641, 642, 643, 644, 645] (by decide +kernel) (by decide +kernel)
set_option maxRecDepth 20000 in
theorem gL_law_X7_init : GoodIn wsL_law (wsX7_init) := ggL_law_X7_init
set_option maxRecDepth 20000 in
theorem ggL_law_X8_init : GoodIn wsL_law wsX8_init := goodIn_r _ [91, 92, 12, 13, 93, 48, 94, 95, 96, 6, 97, 98, 99, 100, 101, 102, 103, 104, 105, 106, 107, 108, 604, 605, 606, 607, 608, 609, 610, 611, 612, 613, 614, 615, 616, 617, 618, 619, 620, 621, 622, 623] (by decide +kernel) (by decide +kernel)
set_option maxRecDepth 20000 in
theorem gL_law_X8_init : GoodIn wsL_law (wsX8_init) := ggL_law_X8_init
set_option maxRecDepth 20000 in
theorem ggL_law_L_reset : GoodIn wsL_law wsL_reset := goodIn_ca (goodIn_r _ [112, 113, 114, 115, 116, 2, 117, 118, 119, 17, 120, 121, 122, 16, 123, 47, 124, 596, 597, 598, 599, 600, 601, 602, 603, 624, 625, 626, 627, 628] (by decide +kernel) (by decide +kernel)) (goodIn_sub (fun _ h => List.mem_append_left _ (List.mem_append_left _ (List.mem_append_right _ h))) (by decide +kernel))
set_option maxRecDepth 20000 in
theorem gL_law_L_reset : GoodIn wsL_law (va_wsS RL 62 yL_reset wsL_reset) := goodIn_app (goodIn_of _ (by decide +kernel)) ggL_law_L_reset
set_option maxRecDepth 20000 in
theorem ggL_law_X8_reset : GoodIn wsL_law wsX8_reset := goodIn_r _ [128, 129, 93, 130, 131, 132, 5, 133, 134, 604, 605, 606, 607, 608, 609, 610, 611, 612, 613, 614, 615, 616, 617, 618, 619, 620, 621, 622, 623] (by decide +kernel) (by decide +kernel)
set_option maxRecDepth 20000 in
theorem gL_law_X8_reset : GoodIn wsL_law (wsV RL 67 RX8 yX8_reset wsX8_reset) := goodIn_app (goodIn_of _ (by decide +kernel)) ggL_law_X8_reset
set_option maxRecDepth 20000 in
theorem ggL_law_X8_thrown : GoodIn wsL_law wsX8_thrown := goodIn_r _ [138, 134, 604, 605, 606, 607, 608, 609, 610, 611, 612, 613, 614, 615, 616, 617, 618, 619, 620, 621, 622, 623] (by decide +kernel) (by decide +kernel)
set_option maxRecDepth 20000 in
theorem gL_law_X8_thrown : GoodIn wsL_law (wsV RL 68 RX8 yX8_thrown wsX8_thrown) := goodIn_app (goodIn_of _ (by decide +kernel)) ggL_law_X8_thrown
set_option maxRecDepth 20000 in
theorem ggL_law_L_edge : GoodIn wsL_law wsL_edge := goodIn_ca (goodIn_ca (goodIn_r _ [141, 113, 142, 143, 144, 145, 2, 146, 118, 119, 147, 148, 17, 149, 25, 150, 151, 152, 16, 153, 47, 154, 155, 156, 157, 158, 159, 160, 161, 162, 163, 164, 24, 165, 166, 167, 61, 62, 168, 169, 170, 171, 172, 173, 174, 175, 176, 177, 178, 179, 180, 181, 182, 183, 184, 185, 186, 187, 124, 49, 50, 51, 596, 597, 598, 599, 600, 601, 602, 603, 624, 625, 626, 627, 628, 632, 633, 634, 635] (by decide +kernel) (by decide +kernel)) (goodIn_sub (fun _ h => List.mem_append_left _ (List.mem_append_left _ (List.mem_append_right _ h))) (by decide +kernel))) (goodIn_sub (fun _ h => List.mem_append_left _ (List.mem_append_right _ h)) (by decide +kernel))
set_option maxRecDepth 20000 in
theorem gL_law_L_edge : GoodIn wsL_law (va_wsS RL 71 yL_edge wsL_edge) := goodIn_app (goodIn_of _ (by decide +kernel)) ggL_law_L_edge
set_option maxRecDepth 20000 in
theorem ggL_law_X8_edge : GoodIn wsL_law wsX8_edge := goodIn_r _ [191, 192, 129, 98, 94, 95, 96, 193, 194, 195, 5, 196, 93, 197, 198, 199, 200, 201, 202, 203, 204, 205, 206, 207, 208, 209, 99, 210, 211, 212, 213, 100, 101, 130, 131, 132, 133, 134, 604, 605, 606, 607, 608, 609, 610, 611, 612, 613, 614, 615, 616, 617, 618, 619, 620, 621, 622, 623] (by decide +kernel) (by decide +kernel)
set_option maxRecDepth 20000 in
theorem gL_law_X8_edge : GoodIn wsL_law (wsV RL 74 RX8 yX8_edge wsX8_edge) := goodIn_app (goodIn_of _ (by decide +kernel)) ggL_law_X8_edge
set_option maxRecDepth 20000 in
theorem ggL_law_L_drop : GoodIn wsL_law wsL_drop := goodIn_ca (goodIn_r _ [216, 142, 217, 218, 219, 2, 220, 147, 148, 17, 221, 222, 223, 16, 224, 124, 596, 597, 598, 599, 600, 601, 602, 603, 624, 625, 626, 627, 628] (by decide +kernel) (by decide +kernel)) (goodIn_sub (fun _ h => List.mem_append_left _ (List.mem_append_right _ h)) (by decide +kernel))
set_option maxRecDepth 20000 in
theorem gL_law_L_drop : GoodIn wsL_law (va_wsS RL 75 yL_drop wsL_drop) := goodIn_app (goodIn_of _ (by decide +kernel)) ggL_law_L_drop
set_option maxRecDepth 20000 in
theorem ggL_law_X8_drop : GoodIn wsL_law wsX8_drop := goodIn_r _ [228, 129, 130, 131, 132, 5, 133, 134, 604, 605, 606, 607, 608, 609, 610, 611, 612, 613, 614, 615, 616, 617, 618, 619, 620, 621, 622, 623] (by decide +kernel) (by decide +kernel)
set_option maxRecDepth 20000 in
theorem gL_law_X8_drop : GoodIn wsL_law (wsV RL 78 RX8 yX8_drop wsX8_drop) := goodIn_app (goodIn_of _ (by decide +kernel)) ggL_law_X8_drop
set_option maxRecDepth 20000 in
theorem ggL_law_L_forests : GoodIn wsL_law wsL_forests := goodIn_ca (goodIn_r _ [231, 113, 232, 233, 234, 2, 235, 37, 17, 25, 236, 237, 238, 239, 118, 119, 158, 159, 160, 161, 162, 163, 164, 24, 165, 166, 167, 61, 62, 168, 169, 170, 171, 172, 173, 174, 175, 176, 177, 178, 179, 180, 181, 182, 240, 241, 242, 36, 243, 82, 244, 245, 246, 247, 248, 249, 250, 251, 252, 253, 254, 255, 596, 597, 598, 599, 600, 601, 602, 603, 624, 625, 626, 627, 628, 632, 633, 634, 635, 644] (by decide +kernel) (by decide +kernel)) (goodIn_sub (fun _ h => List.mem_append_left _ (List.mem_append_left _ (List.mem_append_right _ h))) (by decide +kernel))
set_option maxRecDepth 20000 in
theorem gL_law_L_forests : GoodIn wsL_law (va_wsS RL 81 yL_forests wsL_forests) := goodIn_app (goodIn_of _ (by decide +kernel)) ggL_law_L_forests
set_option maxRecDepth 20000 in
theorem ggL_law_X8_forests : GoodIn wsL_law wsX8_forests := goodIn_r _ [259, 93, 106, 98, 105, 129, 94, 95, 260, 261, 262, 5, 263, 130, 131, 132, 133, 134, 264, 265, 266, 267, 205, 206, 207, 208, 209, 99, 210, 211, 212, 213, 100, 101, 268, 269, 270, 271, 272, 273, 274, 275, 108, 276, 277, 278, 279, 280, 281, 282, 283, 604, 605, 606, 607, 608, 609, 610, 611, 612, 613, 614, 615, 616, 617, 618, 619, 620, 621, 622, 623] (by decide +kernel) (by decide +kernel)
set_option maxRecDepth 20000 in
theorem gL_law_X8_forests : GoodIn wsL_law (wsV RL 84 RX8 yX8_forests wsX8_forests) := goodIn_app (goodIn_of _ (by decide +kernel)) ggL_law_X8_forests
