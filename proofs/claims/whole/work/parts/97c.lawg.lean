set_option maxRecDepth 20000 in
theorem ggL_law_X8_cycles : GoodIn wsL_law wsX8_cycles := goodIn_r _ [477, 134, 102, 390, 391, 392, 5, 393, 209, 100, 103, 197, 198, 199, 200, 129, 93, 201, 202, 203, 204, 205, 206, 207, 208, 98, 99, 210, 211, 212, 213, 94, 95, 101, 328, 329, 330, 331, 96, 355, 356, 357, 358, 351, 352, 353, 354, 604, 605, 606, 607, 608, 609, 610, 611, 612, 613, 614, 615, 616, 617, 618, 619, 620, 621, 622, 623] (by decide +kernel) (by decide +kernel)
set_option maxRecDepth 20000 in
theorem gL_law_X8_cycles : GoodIn wsL_law (wsV RL 103 RX8 yX8_cycles wsX8_cycles) := goodIn_app (goodIn_of _ (by decide +kernel)) ggL_law_X8_cycles
set_option maxRecDepth 20000 in
theorem ggL_law_X7_light : GoodIn wsL_law wsX7_light := goodIn_r _ [481, 42, 17, 482, 483, 484, 2, 485, 25, 162, 163, 164, 24, 165, 166, 167, 61, 62, 171, 172, 173, 174, 175, 176, 177, 178, 179, 180, 181, 182, 486, 311, 312, 313, 314, 487, 297, 298, 16, 299, 51, 300, 301, 302, 303, 304, 305, 306, 307, 308, 309, 310, 169, 170, 596, 597, 598, 599, 600, 601, 602, 603, 624, 625, 626, 627, 628, 632, 633, 634, 635] (by decide +kernel) (by decide +kernel)
set_option maxRecDepth 20000 in
theorem gL_law_X7_light : GoodIn wsL_law (wsV RL 104 RX7 yX7_light wsX7_light) := goodIn_app (goodIn_of _ (by decide +kernel)) ggL_law_X7_light
set_option maxRecDepth 20000 in
theorem ggL_law_X8_light : GoodIn wsL_law wsX8_light := goodIn_r _ [491, 134, 103, 390, 391, 392, 5, 393, 102, 209, 100, 197, 198, 199, 200, 129, 93, 201, 202, 203, 204, 205, 206, 207, 208, 98, 99, 210, 211, 212, 213, 94, 95, 101, 328, 329, 330, 331, 96, 604, 605, 606, 607, 608, 609, 610, 611, 612, 613, 614, 615, 616, 617, 618, 619, 620, 621, 622, 623] (by decide +kernel) (by decide +kernel)
set_option maxRecDepth 20000 in
theorem gL_law_X8_light : GoodIn wsL_law (wsV RL 107 RX8 yX8_light wsX8_light) := goodIn_app (goodIn_of _ (by decide +kernel)) ggL_law_X8_light
set_option maxRecDepth 20000 in
theorem ggL_law_L_add : GoodIn wsL_law wsL_add := goodIn_ca (goodIn_ca (goodIn_r _ [494, 113, 142, 495, 496, 497, 2, 498, 147, 148, 21, 499, 500, 501, 502, 118, 119, 503, 504, 505, 20, 506, 56, 507, 508, 509, 510, 511, 512, 169, 170, 513, 308, 302, 309, 310, 311, 312, 313, 314, 596, 597, 598, 599, 600, 601, 602, 603, 629, 630, 631] (by decide +kernel) (by decide +kernel)) (goodIn_sub (fun _ h => List.mem_append_left _ (List.mem_append_right _ h)) (by decide +kernel))) (goodIn_sub (fun _ h => List.mem_append_left _ (List.mem_append_left _ (List.mem_append_right _ h))) (by decide +kernel))
set_option maxRecDepth 20000 in
theorem gL_law_L_add : GoodIn wsL_law (va_wsS RL 108 yL_add wsL_add) := goodIn_app (goodIn_of _ (by decide +kernel)) ggL_law_L_add
set_option maxRecDepth 20000 in
theorem ggL_law_X8_add : GoodIn wsL_law wsX8_add := goodIn_r _ [517, 518, 97, 130, 131, 132, 5, 133, 134, 604, 605, 606, 607, 608, 609, 610, 611, 612, 613, 614, 615, 616, 617, 618, 619, 620, 621, 622, 623] (by decide +kernel) (by decide +kernel)
set_option maxRecDepth 20000 in
theorem gL_law_X8_add : GoodIn wsL_law (wsV RL 110 RX8 yX8_add wsX8_add) := goodIn_app (goodIn_of _ (by decide +kernel)) ggL_law_X8_add
set_option maxRecDepth 20000 in
theorem ggL_law_X7_clear : GoodIn wsL_law wsX7_clear := goodIn_r _ [522, 21, 523, 524, 525, 20, 526, 508, 507, 56, 527, 245, 246, 247, 596, 597, 598, 599, 600, 601, 602, 603, 629, 630, 631] (by decide +kernel) (by decide +kernel)
set_option maxRecDepth 20000 in
theorem gL_law_X7_clear : GoodIn wsL_law (wsV RL 111 RX7 yX7_clear wsX7_clear) := goodIn_app (goodIn_of _ (by decide +kernel)) ggL_law_X7_clear
set_option maxRecDepth 20000 in
theorem ggL_law_X8_clear : GoodIn wsL_law wsX8_clear := goodIn_r _ [531, 134, 518, 604, 605, 606, 607, 608, 609, 610, 611, 612, 613, 614, 615, 616, 617, 618, 619, 620, 621, 622, 623] (by decide +kernel) (by decide +kernel)
set_option maxRecDepth 20000 in
theorem gL_law_X8_clear : GoodIn wsL_law (wsV RL 114 RX8 yX8_clear wsX8_clear) := goodIn_app (goodIn_of _ (by decide +kernel)) ggL_law_X8_clear
set_option maxRecDepth 20000 in
theorem ggL_law_L_spans : GoodIn wsL_law wsL_spans := goodIn_ca (goodIn_r _ [534, 113, 535, 536, 537, 2, 538, 21, 499, 500, 501, 502, 118, 119, 539, 510, 511, 20, 512, 56, 169, 170, 596, 597, 598, 599, 600, 601, 602, 603, 629, 630, 631] (by decide +kernel) (by decide +kernel)) (goodIn_sub (fun _ h => List.mem_append_left _ (List.mem_append_left _ (List.mem_append_right _ h))) (by decide +kernel))
set_option maxRecDepth 20000 in
theorem gL_law_L_spans : GoodIn wsL_law (va_wsS RL 115 yL_spans wsL_spans) := goodIn_app (goodIn_of _ (by decide +kernel)) ggL_law_L_spans
set_option maxRecDepth 20000 in
theorem ggL_law_X8_spans : GoodIn wsL_law wsX8_spans := goodIn_r _ [543, 130, 131, 132, 5, 133, 134, 544, 545, 546, 547, 432, 518, 97, 437, 438, 439, 440, 104, 433, 434, 435, 436, 604, 605, 606, 607, 608, 609, 610, 611, 612, 613, 614, 615, 616, 617, 618, 619, 620, 621, 622, 623] (by decide +kernel) (by decide +kernel)
set_option maxRecDepth 20000 in
theorem gL_law_X8_spans : GoodIn wsL_law (wsV RL 117 RX8 yX8_spans wsX8_spans) := goodIn_app (goodIn_of _ (by decide +kernel)) ggL_law_X8_spans
set_option maxRecDepth 20000 in
theorem ggL_law_L_look : GoodIn wsL_law wsL_look := goodIn_ca (goodIn_r _ [550, 113, 551, 552, 553, 2, 554, 118, 119, 17, 21, 555, 556, 557, 558, 25, 154, 155, 156, 157, 158, 159, 160, 161, 162, 163, 164, 24, 165, 166, 167, 61, 62, 168, 169, 170, 171, 172, 173, 174, 175, 176, 177, 178, 179, 180, 181, 182, 559, 560, 561, 562, 42, 482, 483, 484, 485, 563, 301, 302, 303, 304, 305, 306, 564, 565, 566, 567, 568, 569, 570, 571, 572, 573, 574, 16, 575, 124, 49, 50, 596, 597, 598, 599, 600, 601, 602, 603, 624, 625, 626, 627, 628, 629, 630, 631, 632, 633, 634, 635] (by decide +kernel) (by decide +kernel)) (goodIn_sub (fun _ h => List.mem_append_left _ (List.mem_append_left _ (List.mem_append_right _ h))) (by decide +kernel))
set_option maxRecDepth 20000 in
theorem gL_law_L_look : GoodIn wsL_law (va_wsS RL 118 yL_look wsL_look) := goodIn_app (goodIn_of _ (by decide +kernel)) ggL_law_L_look
set_option maxRecDepth 20000 in
theorem ggL_law_X8_look : GoodIn wsL_law wsX8_look := goodIn_r _ [579, 93, 129, 518, 130, 131, 132, 5, 133, 134, 201, 202, 203, 204, 205, 206, 207, 208, 209, 98, 99, 210, 211, 212, 213, 94, 95, 100, 101, 197, 198, 199, 200, 580, 581, 582, 583, 584, 585, 586, 587, 588, 589, 590, 591, 432, 544, 545, 546, 547, 97, 437, 438, 439, 440, 104, 433, 434, 435, 436, 592, 593, 594, 595, 604, 605, 606, 607, 608, 609, 610, 611, 612, 613, 614, 615, 616, 617, 618, 619, 620, 621, 622, 623] (by decide +kernel) (by decide +kernel)
set_option maxRecDepth 20000 in
theorem gL_law_X8_look : GoodIn wsL_law (wsV RL 120 RX8 yX8_look wsX8_look) := goodIn_app (goodIn_of _ (by decide +kernel)) ggL_law_X8_look
