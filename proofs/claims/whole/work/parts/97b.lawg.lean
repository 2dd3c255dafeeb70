set_option maxRecDepth 20000 in
theorem ggL_law_L_lightest : GoodIn wsL_law wsL_lightest := goodIn_ca (goodIn_r _ [286, 113, 287, 288, 289, 2, 290, 291, 17, 236, 237, 238, 239, 118, 119, 158, 159, 160, 161, 25, 162, 163, 164, 24, 165, 166, 167, 61, 62, 168, 169, 170, 171, 172, 173, 174, 175, 176, 177, 178, 179, 180, 181, 182, 292, 293, 294, 16, 295, 296, 297, 298, 299, 51, 300, 301, 302, 303, 304, 305, 306, 307, 308, 309, 310, 311, 312, 313, 314, 315, 316, 317, 318, 319, 320, 321, 322, 183, 596, 597, 598, 599, 600, 601, 602, 603, 624, 625, 626, 627, 628, 632, 633, 634, 635] (by decide +kernel) (by decide +kernel)) (goodIn_sub (fun _ h => List.mem_append_left _ (List.mem_append_left _ (List.mem_append_right _ h))) (by decide +kernel))
set_option maxRecDepth 20000 in
theorem gL_law_L_lightest : GoodIn wsL_law (va_wsS RL 85 yL_lightest wsL_lightest) := goodIn_app (goodIn_of _ (by decide +kernel)) ggL_law_L_lightest
set_option maxRecDepth 20000 in
theorem ggL_law_X8_lightest : GoodIn wsL_law wsX8_lightest := goodIn_r _ [326, 327, 129, 98, 94, 95, 96, 260, 261, 262, 5, 263, 130, 131, 132, 133, 134, 264, 265, 266, 267, 205, 206, 207, 208, 209, 99, 210, 211, 212, 213, 100, 101, 93, 328, 329, 330, 331, 604, 605, 606, 607, 608, 609, 610, 611, 612, 613, 614, 615, 616, 617, 618, 619, 620, 621, 622, 623] (by decide +kernel) (by decide +kernel)
set_option maxRecDepth 20000 in
theorem gL_law_X8_lightest : GoodIn wsL_law (wsV RL 87 RX8 yX8_lightest wsX8_lightest) := goodIn_app (goodIn_of _ (by decide +kernel)) ggL_law_X8_lightest
set_option maxRecDepth 20000 in
theorem ggL_law_L_isCycle : GoodIn wsL_law wsL_isCycle := goodIn_ca (goodIn_r _ [334, 113, 335, 336, 337, 2, 338, 17, 236, 237, 238, 239, 118, 119, 339, 340, 341, 16, 342, 124, 49, 50, 169, 170, 158, 159, 160, 161, 25, 162, 163, 164, 24, 165, 166, 167, 61, 62, 168, 171, 172, 173, 174, 175, 176, 177, 178, 179, 180, 181, 182, 596, 597, 598, 599, 600, 601, 602, 603, 624, 625, 626, 627, 628, 632, 633, 634, 635] (by decide +kernel) (by decide +kernel)) (goodIn_sub (fun _ h => List.mem_append_left _ (List.mem_append_left _ (List.mem_append_right _ h))) (by decide +kernel))
set_option maxRecDepth 20000 in
theorem gL_law_L_isCycle : GoodIn wsL_law (va_wsS RL 88 yL_isCycle wsL_isCycle) := goodIn_app (goodIn_of _ (by decide +kernel)) ggL_law_L_isCycle
set_option maxRecDepth 20000 in
theorem ggL_law_X8_isCycle : GoodIn wsL_law wsX8_isCycle := goodIn_r _ [346, 260, 261, 262, 5, 263, 129, 130, 131, 132, 133, 134, 347, 348, 349, 350, 93, 351, 352, 353, 354, 94, 95, 355, 356, 357, 358, 205, 206, 207, 208, 209, 98, 99, 210, 211, 212, 213, 100, 101, 604, 605, 606, 607, 608, 609, 610, 611, 612, 613, 614, 615, 616, 617, 618, 619, 620, 621, 622, 623] (by decide +kernel) (by decide +kernel)
set_option maxRecDepth 20000 in
theorem gL_law_X8_isCycle : GoodIn wsL_law (wsV RL 90 RX8 yX8_isCycle wsX8_isCycle) := goodIn_app (goodIn_of _ (by decide +kernel)) ggL_law_X8_isCycle
set_option maxRecDepth 20000 in
theorem ggL_law_L_through : GoodIn wsL_law wsL_through := goodIn_ca (goodIn_r _ [361, 362, 363, 364, 365, 2, 366, 367, 368, 17, 29, 291, 369, 370, 371, 28, 372, 67, 373, 68, 374, 375, 376, 377, 378, 379, 380, 381, 382, 383, 384, 385, 596, 597, 598, 599, 600, 601, 602, 603, 624, 625, 626, 627, 628, 636, 637] (by decide +kernel) (by decide +kernel)) (goodIn_sub (fun _ h => List.mem_append_right _ h) (by decide +kernel))
set_option maxRecDepth 20000 in
theorem gL_law_L_through : GoodIn wsL_law (va_wsS RL 91 yL_through wsL_through) := goodIn_app (goodIn_of _ (by decide +kernel)) ggL_law_L_through
set_option maxRecDepth 20000 in
theorem ggL_law_X8_through : GoodIn wsL_law wsX8_through := goodIn_r _ [389, 129, 327, 102, 103, 130, 131, 132, 5, 133, 134, 390, 391, 392, 393, 209, 100, 197, 198, 199, 200, 93, 201, 202, 203, 204, 205, 206, 207, 208, 98, 99, 210, 211, 212, 213, 94, 95, 101, 328, 329, 330, 331, 96, 604, 605, 606, 607, 608, 609, 610, 611, 612, 613, 614, 615, 616, 617, 618, 619, 620, 621, 622, 623] (by decide +kernel) (by decide +kernel)
set_option maxRecDepth 20000 in
theorem gL_law_X8_through : GoodIn wsL_law (wsV RL 93 RX8 yX8_through wsX8_through) := goodIn_app (goodIn_of _ (by decide +kernel)) ggL_law_X8_through
set_option maxRecDepth 20000 in
theorem ggL_law_L_basis : GoodIn wsL_law wsL_basis := goodIn_ca (goodIn_r _ [396, 362, 397, 398, 399, 2, 400, 367, 368, 33, 17, 29, 154, 155, 156, 157, 158, 159, 160, 161, 25, 162, 163, 164, 24, 165, 166, 167, 61, 62, 168, 169, 170, 171, 172, 173, 174, 175, 176, 177, 178, 179, 180, 181, 182, 401, 402, 403, 32, 404, 405, 73, 75, 74, 76, 406, 407, 408, 409, 410, 411, 370, 371, 28, 372, 67, 373, 68, 374, 375, 376, 377, 378, 379, 380, 381, 412, 413, 414, 415, 416, 383, 384, 385, 417, 418, 419, 420, 421, 422, 423, 424, 425, 426, 427, 596, 597, 598, 599, 600, 601, 602, 603, 638, 639, 640, 641, 642, 643, 624, 625, 626, 627, 628, 632, 633, 634, 635, 636, 637] (by decide +kernel) (by decide +kernel)) (goodIn_sub (fun _ h => List.mem_append_right _ h) (by decide +kernel))
set_option maxRecDepth 20000 in
theorem gL_law_L_basis : GoodIn wsL_law (va_wsS RL 94 yL_basis wsL_basis) := goodIn_app (goodIn_of _ (by decide +kernel)) ggL_law_L_basis
set_option maxRecDepth 20000 in
theorem ggL_law_X8_basis : GoodIn wsL_law wsX8_basis := goodIn_r _ [431, 432, 103, 197, 198, 199, 5, 200, 129, 93, 201, 202, 203, 204, 205, 206, 207, 208, 209, 98, 99, 210, 211, 212, 213, 94, 95, 100, 101, 130, 131, 132, 133, 134, 390, 391, 392, 393, 102, 328, 329, 330, 331, 96, 433, 434, 435, 436, 104, 437, 438, 439, 440, 604, 605, 606, 607, 608, 609, 610, 611, 612, 613, 614, 615, 616, 617, 618, 619, 620, 621, 622, 623] (by decide +kernel) (by decide +kernel)
set_option maxRecDepth 20000 in
theorem gL_law_X8_basis : GoodIn wsL_law (wsV RL 96 RX8 yX8_basis wsX8_basis) := goodIn_app (goodIn_of _ (by decide +kernel)) ggL_law_X8_basis
set_option maxRecDepth 20000 in
theorem ggL_law_L_belongs : GoodIn wsL_law wsL_belongs := goodIn_ca (goodIn_r _ [443, 113, 444, 445, 446, 2, 447, 17, 33, 29, 236, 237, 238, 239, 118, 119, 339, 340, 341, 16, 342, 124, 49, 50, 169, 170, 401, 402, 403, 32, 404, 405, 73, 75, 74, 76, 406, 407, 408, 409, 410, 411, 370, 371, 28, 372, 67, 373, 68, 374, 375, 376, 377, 378, 379, 380, 381, 412, 413, 414, 415, 416, 383, 384, 385, 417, 418, 419, 420, 421, 422, 423, 424, 425, 426, 427, 292, 293, 294, 295, 296, 297, 298, 299, 51, 300, 301, 302, 303, 304, 305, 306, 307, 308, 309, 310, 311, 312, 313, 314, 448, 449, 450, 451, 596, 597, 598, 599, 600, 601, 602, 603, 624, 625, 626, 627, 628, 638, 639, 640, 641, 642, 643, 636, 637] (by decide +kernel) (by decide +kernel)) (goodIn_sub (fun _ h => List.mem_append_left _ (List.mem_append_left _ (List.mem_append_right _ h))) (by decide +kernel))
set_option maxRecDepth 20000 in
theorem gL_law_L_belongs : GoodIn wsL_law (va_wsS RL 97 yL_belongs wsL_belongs) := goodIn_app (goodIn_of _ (by decide +kernel)) ggL_law_L_belongs
set_option maxRecDepth 20000 in
theorem ggL_law_X8_belongs : GoodIn wsL_law wsX8_belongs := goodIn_r _ [455, 432, 103, 260, 261, 262, 5, 263, 129, 130, 131, 132, 133, 134, 347, 348, 349, 350, 93, 351, 352, 353, 354, 94, 95, 390, 391, 392, 393, 102, 209, 100, 197, 198, 199, 200, 201, 202, 203, 204, 205, 206, 207, 208, 98, 99, 210, 211, 212, 213, 101, 328, 329, 330, 331, 96, 456, 457, 458, 459, 437, 438, 439, 440, 104, 433, 434, 435, 436, 604, 605, 606, 607, 608, 609, 610, 611, 612, 613, 614, 615, 616, 617, 618, 619, 620, 621, 622, 623] (by decide +kernel) (by decide +kernel)
set_option maxRecDepth 20000 in
theorem gL_law_X8_belongs : GoodIn wsL_law (wsV RL 99 RX8 yX8_belongs wsX8_belongs) := goodIn_app (goodIn_of _ (by decide +kernel)) ggL_law_X8_belongs
set_option maxRecDepth 20000 in
theorem ggL_law_X7_cycles : GoodIn wsL_law wsX7_cycles := goodIn_r _ [463, 41, 17, 464, 465, 466, 40, 467, 88, 468, 469, 246, 470, 471, 472, 473, 596, 597, 598, 599, 600, 601, 602, 603, 645, 624, 625, 626, 627, 628] (by decide +kernel) (by decide +kernel)
set_option maxRecDepth 20000 in
theorem gL_law_X7_cycles : GoodIn wsL_law (wsV RL 100 RX7 yX7_cycles wsX7_cycles) := goodIn_app (goodIn_of _ (by decide +kernel)) ggL_law_X7_cycles
