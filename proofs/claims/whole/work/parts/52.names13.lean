set_option maxRecDepth 20000 in
theorem ggL_law_L_counter : GoodIn wsL_law wsL_counter := goodIn_ca (goodIn_r _ [570, 82, 571, 572, 573, 2, 574, 88, 89, 16, 575, 264, 265, 15, 266, 32, 746, 747, 748, 749, 750, 759, 760, 761, 762, 763, 764, 765, 766, 767, 768, 769, 770, 771, 772, 773, 774] (by decide +kernel) (by decide +kernel)) (goodIn_sub (fun _ h => List.mem_append_left _ (List.mem_append_left _ (List.mem_append_left _ (List.mem_append_right _ h)))) (by decide +kernel))
set_option maxRecDepth 20000 in
theorem gL_law_L_counter : GoodIn wsL_law (va_wsS RL 140 yL_counter wsL_counter) := goodIn_app (goodIn_of _ (by decide +kernel)) ggL_law_L_counter
set_option maxRecDepth 20000 in
theorem ggL_law_X4_counter : GoodIn wsL_law wsX4_counter := goodIn_r _ [579, 74, 178, 179, 5, 180, 140, 141, 142, 143, 144, 751, 752, 753, 754, 755, 756, 757, 758] (by decide +kernel) (by decide +kernel)
set_option maxRecDepth 20000 in
theorem gL_law_X4_counter : GoodIn wsL_law (wsV RL 142 RX4 yX4_counter wsX4_counter) := goodIn_app (goodIn_of _ (by decide +kernel)) ggL_law_X4_counter
set_option maxRecDepth 20000 in
theorem ggL_law_X3_reconcile : GoodIn wsL_law wsX3_reconcile := goodIn_r _ [583, 16, 575, 264, 265, 15, 266, 32, 92, 93, 94, 35, 95, 53, 584, 585, 586, 2, 587, 746, 747, 748, 749, 750, 759, 760, 761, 762, 763, 764, 765, 766, 767, 768, 769, 770, 771, 772, 773, 774, 778, 779, 780, 781] (by decide +kernel) (by decide +kernel)
set_option maxRecDepth 20000 in
theorem gL_law_X3_reconcile : GoodIn wsL_law (wsV RL 143 RX3 yX3_reconcile wsX3_reconcile) := goodIn_app (goodIn_of _ (by decide +kernel)) ggL_law_X3_reconcile
set_option maxRecDepth 20000 in
theorem ggL_law_X4_reconcile : GoodIn wsL_law wsX4_reconcile := goodIn_r _ [591, 144, 74, 751, 752, 753, 754, 755, 756, 757, 758] (by decide +kernel) (by decide +kernel)
set_option maxRecDepth 20000 in
theorem gL_law_X4_reconcile : GoodIn wsL_law (wsV RL 147 RX4 yX4_reconcile wsX4_reconcile) := goodIn_app (goodIn_of _ (by decide +kernel)) ggL_law_X4_reconcile
set_option maxRecDepth 20000 in
theorem ggL_law_X3_goodShare : GoodIn wsL_law wsX3_goodShare := goodIn_r _ [595, 16, 584, 585, 586, 2, 587, 575, 264, 265, 15, 266, 32, 746, 747, 748, 749, 750, 759, 760, 761, 762, 763, 764, 765, 766, 767, 768, 769, 770, 771, 772, 773, 774] (by decide +kernel) (by decide +kernel)
set_option maxRecDepth 20000 in
theorem gL_law_X3_goodShare : GoodIn wsL_law (wsV RL 148 RX3 yX3_goodShare wsX3_goodShare) := goodIn_app (goodIn_of _ (by decide +kernel)) ggL_law_X3_goodShare
set_option maxRecDepth 20000 in
theorem ggL_law_X4_goodShare : GoodIn wsL_law wsX4_goodShare := goodIn_r _ [599, 144, 74, 751, 752, 753, 754, 755, 756, 757, 758] (by decide +kernel) (by decide +kernel)
set_option maxRecDepth 20000 in
theorem gL_law_X4_goodShare : GoodIn wsL_law (wsV RL 152 RX4 yX4_goodShare wsX4_goodShare) := goodIn_app (goodIn_of _ (by decide +kernel)) ggL_law_X4_goodShare
set_option maxRecDepth 20000 in
theorem ggL_law_L_spare : GoodIn wsL_law wsL_spare := goodIn_ca (goodIn_r _ [602, 82, 603, 604, 605, 2, 606, 88, 89, 161, 162, 607, 608, 609, 610, 16, 163, 164, 165, 15, 166, 30, 128, 129, 130, 131, 31, 746, 747, 748, 749, 750, 759, 760, 761, 762, 763, 764, 765, 766, 767, 768, 769, 770, 771, 772, 773, 774] (by decide +kernel) (by decide +kernel)) (goodIn_sub (fun _ h => List.mem_append_left _ (List.mem_append_left _ (List.mem_append_left _ (List.mem_append_right _ h)))) (by decide +kernel))
set_option maxRecDepth 20000 in
theorem gL_law_L_spare : GoodIn wsL_law (va_wsS RL 153 yL_spare wsL_spare) := goodIn_app (goodIn_of _ (by decide +kernel)) ggL_law_L_spare
set_option maxRecDepth 20000 in
theorem ggL_law_X4_spare : GoodIn wsL_law wsX4_spare := goodIn_r _ [614, 178, 179, 5, 180, 140, 141, 142, 143, 144, 615, 616, 617, 618, 74, 751, 752, 753, 754, 755, 756, 757, 758] (by decide +kernel) (by decide +kernel)
set_option maxRecDepth 20000 in
theorem gL_law_X4_spare : GoodIn wsL_law (wsV RL 155 RX4 yX4_spare wsX4_spare) := goodIn_app (goodIn_of _ (by decide +kernel)) ggL_law_X4_spare
set_option maxRecDepth 20000 in
theorem ggL_law_X3_fastest : GoodIn wsL_law wsX3_fastest := goodIn_r _ [622, 162, 161, 607, 608, 609, 2, 610, 16, 163, 164, 165, 15, 166, 30, 128, 129, 130, 131, 31, 746, 747, 748, 749, 750, 759, 760, 761, 762, 763, 764, 765, 766, 767, 768, 769, 770, 771, 772, 773, 774] (by decide +kernel) (by decide +kernel)
set_option maxRecDepth 20000 in
theorem gL_law_X3_fastest : GoodIn wsL_law (wsV RL 156 RX3 yX3_fastest wsX3_fastest) := goodIn_app (goodIn_of _ (by decide +kernel)) ggL_law_X3_fastest
set_option maxRecDepth 20000 in
theorem ggL_law_X4_fastest : GoodIn wsL_law wsX4_fastest := goodIn_r _ [626, 144, 615, 616, 617, 5, 618, 74, 751, 752, 753, 754, 755, 756, 757, 758] (by decide +kernel) (by decide +kernel)
set_option maxRecDepth 20000 in
theorem gL_law_X4_fastest : GoodIn wsL_law (wsV RL 159 RX4 yX4_fastest wsX4_fastest) := goodIn_app (goodIn_of _ (by decide +kernel)) ggL_law_X4_fastest
set_option maxRecDepth 20000 in
theorem ggL_law_L_fate : GoodIn wsL_law wsL_fate := goodIn_ca (goodIn_r _ [629, 305, 630, 631, 632, 2, 633, 310, 311, 16, 17, 312, 313, 314, 35, 315, 53, 255, 256, 257, 258, 58, 60, 634, 109, 110, 15, 111, 30, 112, 113, 56, 114, 115, 116, 117, 118, 31, 32, 36, 37, 38, 39, 40, 41, 42, 43, 44, 45, 46, 119, 120, 121, 122, 123, 635, 636, 637, 638, 47, 48, 353, 354, 355, 356, 357, 358, 359, 360, 250, 93, 94, 95, 361, 362, 363, 364, 365, 366, 267, 268, 269, 270, 279, 276, 277, 278, 367, 368, 369, 370, 371, 334, 335, 336, 372, 373, 374, 375, 376, 377, 378, 379, 380, 381, 382, 383, 384, 385, 386, 387, 388, 192, 164, 165, 166, 389, 390, 391, 392, 393, 394, 395, 396, 275, 397, 398, 399, 400, 193, 129, 130, 131, 401, 402, 403, 404, 405, 168, 169, 170, 406, 407, 408, 409, 410, 411, 412, 413, 414, 415, 416, 271, 272, 273, 274, 59, 417, 418, 419, 420, 421, 422, 423, 424, 425, 426, 427, 428, 429, 430, 431, 432, 433, 434, 435, 436, 437, 438, 439, 440, 441, 442, 443, 444, 445, 446, 447, 448, 746, 747, 748, 749, 750, 759, 760, 761, 762, 763, 764, 765, 766, 767, 768, 769, 770, 771, 772, 773, 774, 778, 779, 780, 781] (by decide +kernel) (by decide +kernel)) (goodIn_sub (fun _ h => List.mem_append_left _ (List.mem_append_right _ h)) (by decide +kernel))
set_option maxRecDepth 20000 in
theorem gL_law_L_fate : GoodIn wsL_law (va_wsS RL 160 yL_fate wsL_fate) := goodIn_app (goodIn_of _ (by decide +kernel)) ggL_law_L_fate
