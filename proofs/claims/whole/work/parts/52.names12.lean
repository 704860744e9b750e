set_option maxRecDepth 20000 in
theorem ggL_law_X4_take : GoodIn wsL_law wsX4_take := goodIn_r _ [341, 74, 322, 323, 324, 5, 325, 288, 289, 290, 140, 141, 142, 143, 144, 145, 146, 147, 148, 149, 75, 342, 343, 344, 345, 298, 299, 300, 301, 751, 752, 753, 754, 755, 756, 757, 758] (by decide +kernel) (by decide +kernel)
set_option maxRecDepth 20000 in
theorem gL_law_X4_take : GoodIn wsL_law (wsV RL 123 RX4 yX4_take wsX4_take) := goodIn_app (goodIn_of _ (by decide +kernel)) ggL_law_X4_take
set_option maxRecDepth 20000 in
theorem ggL_law_L_run : GoodIn wsL_law wsL_run := goodIn_ca (goodIn_r _ [348, 82, 349, 350, 351, 2, 352, 88, 89, 21, 16, 96, 97, 98, 20, 99, 100, 101, 102, 103, 68, 104, 105, 106, 107, 67, 66, 108, 109, 110, 15, 111, 30, 112, 113, 56, 114, 115, 116, 117, 118, 31, 32, 36, 37, 38, 39, 40, 41, 42, 43, 44, 45, 46, 119, 120, 121, 35, 122, 60, 123, 53, 124, 125, 126, 127, 353, 354, 355, 356, 357, 358, 359, 360, 250, 93, 94, 95, 361, 256, 257, 258, 58, 362, 363, 364, 365, 366, 313, 314, 315, 255, 267, 268, 269, 270, 279, 276, 277, 278, 367, 368, 369, 370, 371, 334, 335, 336, 372, 373, 374, 375, 376, 377, 378, 379, 380, 381, 382, 383, 384, 385, 386, 387, 388, 192, 164, 165, 166, 389, 390, 391, 392, 393, 394, 395, 396, 275, 397, 398, 399, 400, 193, 129, 130, 131, 401, 402, 403, 404, 405, 168, 169, 170, 406, 407, 408, 409, 410, 411, 412, 413, 414, 415, 416, 271, 272, 273, 274, 59, 417, 418, 419, 420, 421, 422, 423, 424, 425, 426, 427, 428, 429, 430, 431, 432, 433, 434, 435, 436, 47, 48, 437, 438, 439, 440, 441, 442, 443, 444, 445, 446, 447, 448, 746, 747, 748, 749, 750, 759, 760, 761, 762, 763, 764, 765, 766, 767, 768, 769, 770, 771, 772, 773, 774, 775, 776, 777, 778, 779, 780, 781] (by decide +kernel) (by decide +kernel)) (goodIn_sub (fun _ h => List.mem_append_left _ (List.mem_append_left _ (List.mem_append_left _ (List.mem_append_right _ h)))) (by decide +kernel))
set_option maxRecDepth 20000 in
theorem gL_law_L_run : GoodIn wsL_law (va_wsS RL 124 yL_run wsL_run) := goodIn_app (goodIn_of _ (by decide +kernel)) ggL_law_L_run
set_option maxRecDepth 20000 in
theorem ggL_law_X4_run : GoodIn wsL_law wsX4_run := goodIn_r _ [452, 178, 179, 5, 180, 140, 141, 142, 143, 144, 145, 146, 147, 148, 149, 75, 74, 453, 454, 455, 456, 457, 458, 459, 460, 461, 462, 463, 464, 465, 466, 467, 468, 469, 470, 471, 472, 291, 292, 293, 298, 299, 300, 301, 342, 343, 344, 345, 473, 474, 475, 476, 477, 478, 479, 480, 481, 482, 483, 484, 288, 289, 290, 485, 486, 487, 488, 489, 490, 491, 492, 493, 494, 495, 496, 497, 498, 499, 500, 501, 502, 503, 504, 505, 506, 507, 508, 509, 510, 511, 512, 751, 752, 753, 754, 755, 756, 757, 758] (by decide +kernel) (by decide +kernel)
set_option maxRecDepth 20000 in
theorem gL_law_X4_run : GoodIn wsL_law (wsV RL 126 RX4 yX4_run wsX4_run) := goodIn_app (goodIn_of _ (by decide +kernel)) ggL_law_X4_run
set_option maxRecDepth 20000 in
theorem ggL_law_L_status : GoodIn wsL_law wsL_status := goodIn_ca (goodIn_r _ [515, 82, 516, 517, 518, 2, 519, 88, 89, 16, 520, 521, 522, 15, 523, 41, 42, 43, 36, 37, 38, 40, 39, 250, 93, 94, 35, 95, 53, 746, 747, 748, 749, 750, 759, 760, 761, 762, 763, 764, 765, 766, 767, 768, 769, 770, 771, 772, 773, 774, 778, 779, 780, 781] (by decide +kernel) (by decide +kernel)) (goodIn_sub (fun _ h => List.mem_append_left _ (List.mem_append_left _ (List.mem_append_left _ (List.mem_append_right _ h)))) (by decide +kernel))
set_option maxRecDepth 20000 in
theorem gL_law_L_status : GoodIn wsL_law (va_wsS RL 127 yL_status wsL_status) := goodIn_app (goodIn_of _ (by decide +kernel)) ggL_law_L_status
set_option maxRecDepth 20000 in
theorem ggL_law_X4_status : GoodIn wsL_law wsX4_status := goodIn_r _ [527, 178, 179, 5, 180, 140, 141, 142, 143, 144, 528, 529, 530, 531, 74, 751, 752, 753, 754, 755, 756, 757, 758] (by decide +kernel) (by decide +kernel)
set_option maxRecDepth 20000 in
theorem gL_law_X4_status : GoodIn wsL_law (wsV RL 129 RX4 yX4_status wsX4_status) := goodIn_app (goodIn_of _ (by decide +kernel)) ggL_law_X4_status
set_option maxRecDepth 20000 in
theorem ggL_law_L_item : GoodIn wsL_law wsL_item := goodIn_ca (goodIn_ca (goodIn_r _ [534, 305, 82, 535, 536, 537, 2, 538, 310, 311, 88, 89, 16, 312, 313, 314, 35, 315, 53, 255, 256, 257, 258, 58, 60, 316, 746, 747, 748, 749, 750, 759, 760, 761, 762, 763, 764, 765, 766, 767, 768, 769, 770, 771, 772, 773, 774, 778, 779, 780, 781] (by decide +kernel) (by decide +kernel)) (goodIn_sub (fun _ h => List.mem_append_left _ (List.mem_append_right _ h)) (by decide +kernel))) (goodIn_sub (fun _ h => List.mem_append_left _ (List.mem_append_left _ (List.mem_append_left _ (List.mem_append_right _ h)))) (by decide +kernel))
set_option maxRecDepth 20000 in
theorem gL_law_L_item : GoodIn wsL_law (va_wsS RL 130 yL_item wsL_item) := goodIn_app (goodIn_of _ (by decide +kernel)) ggL_law_L_item
set_option maxRecDepth 20000 in
theorem ggL_law_X4_item : GoodIn wsL_law wsX4_item := goodIn_r _ [542, 74, 322, 323, 324, 5, 325, 288, 289, 290, 178, 179, 180, 140, 141, 142, 143, 144, 751, 752, 753, 754, 755, 756, 757, 758] (by decide +kernel) (by decide +kernel)
set_option maxRecDepth 20000 in
theorem gL_law_X4_item : GoodIn wsL_law (wsV RL 132 RX4 yX4_item wsX4_item) := goodIn_app (goodIn_of _ (by decide +kernel)) ggL_law_X4_item
set_option maxRecDepth 20000 in
theorem ggL_law_L_record : GoodIn wsL_law wsL_record := goodIn_ca (goodIn_ca (goodIn_r _ [545, 305, 82, 546, 547, 548, 2, 549, 310, 311, 88, 89, 16, 312, 313, 314, 35, 315, 53, 255, 256, 257, 258, 58, 60, 316, 746, 747, 748, 749, 750, 759, 760, 761, 762, 763, 764, 765, 766, 767, 768, 769, 770, 771, 772, 773, 774, 778, 779, 780, 781] (by decide +kernel) (by decide +kernel)) (goodIn_sub (fun _ h => List.mem_append_left _ (List.mem_append_right _ h)) (by decide +kernel))) (goodIn_sub (fun _ h => List.mem_append_left _ (List.mem_append_left _ (List.mem_append_left _ (List.mem_append_right _ h)))) (by decide +kernel))
set_option maxRecDepth 20000 in
theorem gL_law_L_record : GoodIn wsL_law (va_wsS RL 133 yL_record wsL_record) := goodIn_app (goodIn_of _ (by decide +kernel)) ggL_law_L_record
set_option maxRecDepth 20000 in
theorem ggL_law_X4_record : GoodIn wsL_law wsX4_record := goodIn_r _ [553, 74, 469, 470, 471, 5, 472, 291, 292, 293, 178, 179, 180, 140, 141, 142, 143, 144, 751, 752, 753, 754, 755, 756, 757, 758] (by decide +kernel) (by decide +kernel)
set_option maxRecDepth 20000 in
theorem gL_law_X4_record : GoodIn wsL_law (wsV RL 135 RX4 yX4_record wsX4_record) := goodIn_app (goodIn_of _ (by decide +kernel)) ggL_law_X4_record
set_option maxRecDepth 20000 in
theorem ggL_law_L_numberAt : GoodIn wsL_law wsL_numberAt := goodIn_ca (goodIn_r _ [556, 557, 558, 559, 560, 2, 561, 562, 563, 16, 92, 93, 94, 35, 95, 53, 316, 256, 257, 258, 58, 60, 746, 747, 748, 749, 750, 759, 760, 761, 762, 763, 764, 765, 766, 767, 768, 769, 770, 771, 772, 773, 774, 778, 779, 780, 781] (by decide +kernel) (by decide +kernel)) (goodIn_sub (fun _ h => List.mem_append_right _ h) (by decide +kernel))
set_option maxRecDepth 20000 in
theorem gL_law_L_numberAt : GoodIn wsL_law (va_wsS RL 136 yL_numberAt wsL_numberAt) := goodIn_app (goodIn_of _ (by decide +kernel)) ggL_law_L_numberAt
set_option maxRecDepth 20000 in
theorem ggL_law_X4_numberAt : GoodIn wsL_law wsX4_numberAt := goodIn_r _ [567, 74, 178, 179, 5, 180, 140, 141, 142, 143, 144, 291, 292, 293, 288, 289, 290, 751, 752, 753, 754, 755, 756, 757, 758] (by decide +kernel) (by decide +kernel)
set_option maxRecDepth 20000 in
theorem gL_law_X4_numberAt : GoodIn wsL_law (wsV RL 139 RX4 yX4_numberAt wsX4_numberAt) := goodIn_app (goodIn_of _ (by decide +kernel)) ggL_law_X4_numberAt
