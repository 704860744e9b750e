set_option maxRecDepth 20000 in
theorem ggL_law_X4_fate : GoodIn wsL_law wsX4_fate := goodIn_r _ [642, 74, 469, 470, 471, 5, 472, 291, 292, 293, 140, 141, 142, 143, 144, 643, 644, 645, 646, 76, 457, 458, 459, 460, 461, 462, 463, 464, 465, 466, 467, 468, 298, 299, 300, 301, 342, 343, 344, 345, 473, 474, 475, 476, 477, 478, 479, 480, 481, 482, 483, 484, 288, 289, 290, 485, 486, 487, 488, 489, 490, 491, 492, 493, 494, 495, 496, 497, 498, 499, 500, 501, 502, 503, 504, 505, 506, 507, 508, 509, 510, 511, 512, 647, 648, 649, 650, 751, 752, 753, 754, 755, 756, 757, 758] (by decide +kernel) (by decide +kernel)
set_option maxRecDepth 20000 in
theorem gL_law_X4_fate : GoodIn wsL_law (wsV RL 162 RX4 yX4_fate wsX4_fate) := goodIn_app (goodIn_of _ (by decide +kernel)) ggL_law_X4_fate
set_option maxRecDepth 20000 in
theorem ggL_law_L_append : GoodIn wsL_law wsL_append := goodIn_ca (goodIn_ca (goodIn_r _ [653, 82, 83, 654, 655, 656, 2, 657, 88, 89, 90, 91, 24, 23, 746, 747, 748, 749, 750] (by decide +kernel) (by decide +kernel)) (goodIn_sub (fun _ h => List.mem_append_left _ (List.mem_append_left _ (List.mem_append_left _ (List.mem_append_right _ h)))) (by decide +kernel))) (goodIn_sub (fun _ h => List.mem_append_left _ (List.mem_append_left _ (List.mem_append_right _ h))) (by decide +kernel))
set_option maxRecDepth 20000 in
theorem gL_law_L_append : GoodIn wsL_law (va_wsS RL 163 yL_append wsL_append) := goodIn_app (goodIn_of _ (by decide +kernel)) ggL_law_L_append
set_option maxRecDepth 20000 in
theorem ggL_law_X4_append : GoodIn wsL_law wsX4_append := goodIn_r _ [661, 662, 77, 178, 179, 5, 180, 140, 141, 142, 143, 144, 751, 752, 753, 754, 755, 756, 757, 758] (by decide +kernel) (by decide +kernel)
set_option maxRecDepth 20000 in
theorem gL_law_X4_append : GoodIn wsL_law (wsV RL 165 RX4 yX4_append wsX4_append) := goodIn_app (goodIn_of _ (by decide +kernel)) ggL_law_X4_append
set_option maxRecDepth 20000 in
theorem ggL_law_X3_clearText : GoodIn wsL_law wsX3_clearText := goodIn_r _ [666, 24, 746, 747, 748, 749, 750] (by decide +kernel) (by decide +kernel)
set_option maxRecDepth 20000 in
theorem gL_law_X3_clearText : GoodIn wsL_law (wsV RL 166 RX3 yX3_clearText wsX3_clearText) := goodIn_app (goodIn_of _ (by decide +kernel)) ggL_law_X3_clearText
set_option maxRecDepth 20000 in
theorem ggL_law_X4_clearText : GoodIn wsL_law wsX4_clearText := goodIn_r _ [670, 144, 662, 751, 752, 753, 754, 755, 756, 757, 758] (by decide +kernel) (by decide +kernel)
set_option maxRecDepth 20000 in
theorem gL_law_X4_clearText : GoodIn wsL_law (wsV RL 169 RX4 yX4_clearText wsX4_clearText) := goodIn_app (goodIn_of _ (by decide +kernel)) ggL_law_X4_clearText
set_option maxRecDepth 20000 in
theorem ggL_law_X3_carryOut : GoodIn wsL_law wsX3_carryOut := goodIn_r _ [674, 21, 16, 24, 675, 676, 677, 2, 678, 679, 680, 681, 682, 23, 683, 684, 685, 686, 101, 102, 20, 103, 68, 104, 105, 106, 107, 67, 66, 108, 109, 110, 15, 111, 30, 112, 113, 56, 114, 115, 116, 117, 118, 31, 32, 36, 37, 38, 39, 40, 41, 42, 43, 44, 45, 46, 119, 120, 121, 35, 122, 60, 123, 53, 353, 354, 355, 356, 357, 358, 359, 360, 250, 93, 94, 95, 361, 256, 257, 258, 58, 362, 363, 364, 365, 366, 313, 314, 315, 255, 267, 268, 269, 270, 279, 276, 277, 278, 367, 368, 369, 370, 371, 334, 335, 336, 372, 373, 374, 375, 376, 377, 378, 379, 380, 381, 382, 383, 384, 385, 386, 387, 388, 192, 164, 165, 166, 389, 390, 391, 392, 393, 394, 395, 396, 275, 397, 398, 399, 400, 193, 129, 130, 131, 401, 402, 403, 404, 405, 168, 169, 170, 406, 407, 408, 409, 410, 411, 412, 413, 414, 415, 416, 271, 272, 273, 274, 59, 417, 418, 419, 420, 421, 422, 423, 424, 425, 426, 427, 428, 429, 430, 431, 432, 433, 434, 435, 436, 47, 48, 437, 438, 439, 440, 441, 442, 443, 444, 445, 446, 447, 448, 246, 247, 248, 249, 251, 252, 253, 254, 687, 688, 689, 690, 259, 260, 261, 262, 263, 264, 265, 266, 691, 125, 126, 127, 746, 747, 748, 749, 750, 775, 776, 777, 759, 760, 761, 762, 763, 764, 765, 766, 767, 768, 769, 770, 771, 772, 773, 774, 778, 779, 780, 781] (by decide +kernel) (by decide +kernel)
set_option maxRecDepth 20000 in
theorem gL_law_X3_carryOut : GoodIn wsL_law (wsV RL 170 RX3 yX3_carryOut wsX3_carryOut) := goodIn_app (goodIn_of _ (by decide +kernel)) ggL_law_X3_carryOut
set_option maxRecDepth 20000 in
theorem ggL_law_X4_carryOut : GoodIn wsL_law wsX4_carryOut := goodIn_r _ [695, 144, 662, 77, 74, 76, 178, 179, 5, 180, 643, 644, 645, 646, 696, 697, 698, 699, 453, 454, 455, 456, 457, 458, 459, 460, 461, 462, 463, 464, 465, 466, 467, 468, 469, 470, 471, 472, 291, 292, 293, 298, 299, 300, 301, 342, 343, 344, 345, 473, 474, 475, 476, 477, 478, 479, 480, 481, 482, 483, 484, 288, 289, 290, 485, 486, 487, 488, 489, 490, 491, 492, 493, 494, 495, 496, 497, 498, 499, 500, 501, 502, 503, 504, 505, 506, 507, 508, 509, 510, 511, 512, 284, 285, 286, 287, 294, 295, 296, 297, 647, 648, 649, 650, 145, 146, 147, 148, 149, 75, 751, 752, 753, 754, 755, 756, 757, 758] (by decide +kernel) (by decide +kernel)
set_option maxRecDepth 20000 in
theorem gL_law_X4_carryOut : GoodIn wsL_law (wsV RL 173 RX4 yX4_carryOut wsX4_carryOut) := goodIn_app (goodIn_of _ (by decide +kernel)) ggL_law_X4_carryOut
set_option maxRecDepth 20000 in
theorem ggL_law_L_undo : GoodIn wsL_law wsL_undo := goodIn_ca (goodIn_r _ [702, 83, 703, 704, 705, 2, 706, 90, 91, 21, 16, 707, 708, 709, 20, 710, 68, 711, 712, 713, 714, 715, 688, 689, 690, 104, 105, 106, 107, 67, 66, 108, 109, 110, 15, 111, 30, 112, 113, 56, 114, 115, 116, 117, 118, 31, 32, 36, 37, 38, 39, 40, 41, 42, 43, 44, 45, 46, 119, 120, 121, 35, 122, 60, 123, 53, 746, 747, 748, 749, 750, 775, 776, 777, 759, 760, 761, 762, 763, 764, 765, 766, 767, 768, 769, 770, 771, 772, 773, 774, 778, 779, 780, 781] (by decide +kernel) (by decide +kernel)) (goodIn_sub (fun _ h => List.mem_append_left _ (List.mem_append_left _ (List.mem_append_right _ h))) (by decide +kernel))
set_option maxRecDepth 20000 in
theorem gL_law_L_undo : GoodIn wsL_law (va_wsS RL 174 yL_undo wsL_undo) := goodIn_app (goodIn_of _ (by decide +kernel)) ggL_law_L_undo
set_option maxRecDepth 20000 in
theorem ggL_law_X4_undo : GoodIn wsL_law wsX4_undo := goodIn_r _ [719, 149, 74, 75, 140, 141, 142, 5, 143, 144, 751, 752, 753, 754, 755, 756, 757, 758] (by decide +kernel) (by decide +kernel)
set_option maxRecDepth 20000 in
theorem gL_law_X4_undo : GoodIn wsL_law (wsV RL 176 RX4 yX4_undo wsX4_undo) := goodIn_app (goodIn_of _ (by decide +kernel)) ggL_law_X4_undo
set_option maxRecDepth 20000 in
theorem ggL_law_X3_digest : GoodIn wsL_law wsX3_digest := goodIn_r _ [723, 724, 24, 725, 16, 21, 188, 189, 190, 15, 191, 45, 30, 192, 164, 165, 166, 193, 129, 130, 131, 31, 520, 521, 522, 523, 41, 42, 43, 36, 37, 38, 40, 39, 250, 93, 94, 35, 95, 53, 575, 264, 265, 266, 32, 726, 727, 728, 729, 58, 730, 255, 256, 257, 258, 60, 707, 708, 709, 20, 710, 68, 746, 747, 748, 749, 750, 759, 760, 761, 762, 763, 764, 765, 766, 767, 768, 769, 770, 771, 772, 773, 774, 778, 779, 780, 781, 775, 776, 777] (by decide +kernel) (by decide +kernel)
set_option maxRecDepth 20000 in
theorem gL_law_X3_digest : GoodIn wsL_law (wsV RL 177 RX3 yX3_digest wsX3_digest) := goodIn_app (goodIn_of _ (by decide +kernel)) ggL_law_X3_digest
set_option maxRecDepth 20000 in
theorem ggL_law_X4_digest : GoodIn wsL_law wsX4_digest := goodIn_r _ [734, 144, 735, 736, 662, 74, 149, 737, 738, 739, 5, 740, 741, 742, 743, 744, 745, 528, 529, 530, 531, 751, 752, 753, 754, 755, 756, 757, 758] (by decide +kernel) (by decide +kernel)
set_option maxRecDepth 20000 in
theorem gL_law_X4_digest : GoodIn wsL_law (wsV RL 181 RX4 yX4_digest wsX4_digest) := goodIn_app (goodIn_of _ (by decide +kernel)) ggL_law_X4_digest
