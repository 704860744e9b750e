set_option maxRecDepth 20000 in
theorem ggL_law_L_counter : GoodIn wsL_law wsL_counter := goodIn_ca (goodIn_r _ [576, 82, 577, 578, 579, 2, 580, 88, 89, 16, 581, 270, 271, 15, 272, 32, 752, 753, 754, 755, 756, 765, 766, 767, 768, 769, 770, 771, 772, 773, 774, 775, 776, 777, 778, 779, 780] (by decide +kernel) (by decide +kernel)) (goodIn_sub (fun _ h => List.mem_append_left _ (List.mem_append_left _ (List.mem_append_left _ (List.mem_append_right _ h)))) (by decide +kernel))
set_option maxRecDepth 20000 in
theorem gL_law_L_counter : GoodIn wsL_law (va_wsS RL 140 yL_counter wsL_counter) := goodIn_app (goodIn_of _ (by decide +kernel)) ggL_law_L_counter
set_option maxRecDepth 20000 in
theorem ggL_law_X4_counter : GoodIn wsL_law wsX4_counter := goodIn_r _ [585, 74, 184, 185, 5, 186, 140, 141, 142, 143, 144, 757, 758, 759, 760, 761, 762, 763, 764] (by decide +kernel) (by decide +kernel)
set_option maxRecDepth 20000 in
theorem gL_law_X4_counter : GoodIn wsL_law (wsV RL 142 RX4 yX4_counter wsX4_counter) := goodIn_app (goodIn_of _ (by decide +kernel)) ggL_law_X4_counter
set_option maxRecDepth 20000 in
theorem ggL_law_X3_reconcile : GoodIn wsL_law wsX3_reconcile := goodIn_r _ [589, 16, 581, 270, 271, 15, 272, 32, 92, 93, 94, 35, 95, 53, 590, 591, 592, 2, 593, 752, 753, 754, 755, 756, 765, 766, 767, 768, 769, 770, 771, 772, 773, 774, 775, 776, 777, 778, 779, 780, 784, 785, 786, 787] (by decide +kernel) (by decide +kernel)
set_option maxRecDepth 20000 in
theorem gL_law_X3_reconcile : GoodIn wsL_law (wsV RL 143 RX3 yX3_reconcile wsX3_reconcile) := goodIn_app (goodIn_of _ (by decide +kernel)) ggL_law_X3_reconcile
set_option maxRecDepth 20000 in
theorem ggL_law_X4_reconcile : GoodIn wsL_law wsX4_reconcile := goodIn_r _ [597, 144, 74, 757, 758, 759, 760, 761, 762, 763, 764] (by decide +kernel) (by decide +kernel)
set_option maxRecDepth 20000 in
theorem gL_law_X4_reconcile : GoodIn wsL_law (wsV RL 147 RX4 yX4_reconcile wsX4_reconcile) := goodIn_app (goodIn_of _ (by decide +kernel)) ggL_law_X4_reconcile
set_option maxRecDepth 20000 in
theorem ggL_law_X3_goodShare : GoodIn wsL_law wsX3_goodShare := goodIn_r _ [601, 16, 590, 591, 592, 2, 593, 581, 270, 271, 15, 272, 32, 752, 753, 754, 755, 756, 765, 766, 767, 768, 769, 770, 771, 772, 773, 774, 775, 776, 777, 778, 779, 780] (by decide +kernel) (by decide +kernel)
set_option maxRecDepth 20000 in
theorem gL_law_X3_goodShare : GoodIn wsL_law (wsV RL 148 RX3 yX3_goodShare wsX3_goodShare) := goodIn_app (goodIn_of _ (by decide +kernel)) ggL_law_X3_goodShare
set_option maxRecDepth 20000 in
theorem ggL_law_X4_goodShare : GoodIn wsL_law wsX4_goodShare := goodIn_r _ [605, 144, 74, 757, 758, 759, 760, 761, 762, 763, 764] (by decide +kernel) (by decide +kernel)
set_option maxRecDepth 20000 in
theorem gL_law_X4_goodShare : GoodIn wsL_law (wsV RL 152 RX4 yX4_goodShare wsX4_goodShare) := goodIn_app (goodIn_of _ (by decide +kernel)) ggL_law_X4_goodShare
set_option maxRecDepth 20000 in
theorem ggL_law_L_spare : GoodIn wsL_law wsL_spare := goodIn_ca (goodIn_r _ [608, 82, 609, 610, 611, 2, 612, 88, 89, 161, 162, 163, 164, 165, 166, 167, 168, 613, 614, 615, 616, 16, 169, 170, 171, 15, 172, 30, 128, 129, 130, 131, 31, 752, 753, 754, 755, 756, 765, 766, 767, 768, 769, 770, 771, 772, 773, 774, 775, 776, 777, 778, 779, 780] (by decide +kernel) (by decide +kernel)) (goodIn_sub (fun _ h => List.mem_append_left _ (List.mem_append_left _ (List.mem_append_left _ (List.mem_append_right _ h)))) (by decide +kernel))
set_option maxRecDepth 20000 in
theorem gL_law_L_spare : GoodIn wsL_law (va_wsS RL 153 yL_spare wsL_spare) := goodIn_app (goodIn_of _ (by decide +kernel)) ggL_law_L_spare
set_option maxRecDepth 20000 in
theorem ggL_law_X4_spare : GoodIn wsL_law wsX4_spare := goodIn_r _ [620, 184, 185, 5, 186, 140, 141, 142, 143, 144, 621, 622, 623, 624, 74, 757, 758, 759, 760, 761, 762, 763, 764] (by decide +kernel) (by decide +kernel)
set_option maxRecDepth 20000 in
theorem gL_law_X4_spare : GoodIn wsL_law (wsV RL 155 RX4 yX4_spare wsX4_spare) := goodIn_app (goodIn_of _ (by decide +kernel)) ggL_law_X4_spare
set_option maxRecDepth 20000 in
theorem ggL_law_X3_fastest : GoodIn wsL_law wsX3_fastest := goodIn_r _ [628, 165, 166, 2, 167, 168, 161, 162, 163, 164, 613, 614, 615, 616, 16, 169, 170, 171, 15, 172, 30, 128, 129, 130, 131, 31, 752, 753, 754, 755, 756, 765, 766, 767, 768, 769, 770, 771, 772, 773, 774, 775, 776, 777, 778, 779, 780] (by decide +kernel) (by decide +kernel)
set_option maxRecDepth 20000 in
theorem gL_law_X3_fastest : GoodIn wsL_law (wsV RL 156 RX3 yX3_fastest wsX3_fastest) := goodIn_app (goodIn_of _ (by decide +kernel)) ggL_law_X3_fastest
set_option maxRecDepth 20000 in
theorem ggL_law_X4_fastest : GoodIn wsL_law wsX4_fastest := goodIn_r _ [632, 144, 621, 622, 623, 5, 624, 74, 757, 758, 759, 760, 761, 762, 763, 764] (by decide +kernel) (by decide +kernel)
set_option maxRecDepth 20000 in
theorem gL_law_X4_fastest : GoodIn wsL_law (wsV RL 159 RX4 yX4_fastest wsX4_fastest) := goodIn_app (goodIn_of _ (by decide +kernel)) ggL_law_X4_fastest
set_option maxRecDepth 20000 in
theorem ggL_law_L_fate : GoodIn wsL_law wsL_fate := goodIn_ca (goodIn_r _ [635, 311, 636, 637, 638, 2, 639, 316, 317, 16, 17, 318, 319, 320, 35, 321, 53, 261, 262, 263, 264, 58, 60, 640, 109, 110, 15, 111, 30, 112, 113, 56, 114, 115, 116, 117, 118, 31, 32, 36, 37, 38, 39, 40, 41, 42, 43, 44, 45, 46, 119, 120, 121, 122, 123, 641, 642, 643, 644, 47, 48, 359, 360, 361, 362, 363, 364, 365, 366, 256, 93, 94, 95, 367, 368, 369, 370, 371, 372, 273, 274, 275, 276, 285, 282, 283, 284, 373, 374, 375, 376, 377, 340, 341, 342, 378, 379, 380, 381, 382, 383, 384, 385, 386, 387, 388, 389, 390, 391, 392, 393, 394, 198, 170, 171, 172, 395, 396, 397, 398, 399, 400, 401, 402, 281, 403, 404, 405, 406, 199, 129, 130, 131, 407, 408, 409, 410, 411, 174, 175, 176, 412, 413, 414, 415, 416, 417, 418, 419, 420, 421, 422, 277, 278, 279, 280, 59, 423, 424, 425, 426, 427, 428, 429, 430, 431, 432, 433, 434, 435, 436, 437, 438, 439, 440, 441, 442, 443, 444, 445, 446, 447, 448, 449, 450, 451, 452, 453, 454, 752, 753, 754, 755, 756, 765, 766, 767, 768, 769, 770, 771, 772, 773, 774, 775, 776, 777, 778, 779, 780, 784, 785, 786, 787] (by decide +kernel) (by decide +kernel)) (goodIn_sub (fun _ h => List.mem_append_left _ (List.mem_append_right _ h)) (by decide +kernel))
set_option maxRecDepth 20000 in
theorem gL_law_L_fate : GoodIn wsL_law (va_wsS RL 160 yL_fate wsL_fate) := goodIn_app (goodIn_of _ (by decide +kernel)) ggL_law_L_fate
