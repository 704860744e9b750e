set_option maxRecDepth 20000 in
theorem ggL_law_X4_fate : GoodIn wsL_law wsX4_fate := goodIn_r _ [648, 74, 475, 476, 477, 5, 478, 297, 298, 299, 140, 141, 142, 143, 144, 649, 650, 651, 652, 76, 463, 464, 465, 466, 467, 468, 469, 470, 471, 472, 473, 474, 304, 305, 306, 307, 348, 349, 350, 351, 479, 480, 481, 482, 483, 484, 485, 486, 487, 488, 489, 490, 294, 295, 296, 491, 492, 493, 494, 495, 496, 497, 498, 499, 500, 501, 502, 503, 504, 505, 506, 507, 508, 509, 510, 511, 512, 513, 514, 515, 516, 517, 518, 653, 654, 655, 656, 757, 758, 759, 760, 761, 762, 763, 764] (by decide +kernel) (by decide +kernel)
set_option maxRecDepth 20000 in
theorem gL_law_X4_fate : GoodIn wsL_law (wsV RL 162 RX4 yX4_fate wsX4_fate) := goodIn_app (goodIn_of _ (by decide +kernel)) ggL_law_X4_fate
set_option maxRecDepth 20000 in
theorem ggL_law_L_append : GoodIn wsL_law wsL_append := goodIn_ca (goodIn_ca (goodIn_r _ [659, 82, 83, 660, 661, 662, 2, 663, 88, 89, 90, 91, 24, 23, 752, 753, 754, 755, 756] (by decide +kernel) (by decide +kernel)) (goodIn_sub (fun _ h => List.mem_append_left _ (List.mem_append_left _ (List.mem_append_left _ (List.mem_append_right _ h)))) (by decide +kernel))) (goodIn_sub (fun _ h => List.mem_append_left _ (List.mem_append_left _ (List.mem_append_right _ h))) (by decide +kernel))
set_option maxRecDepth 20000 in
theorem gL_law_L_append : GoodIn wsL_law (va_wsS RL 163 yL_append wsL_append) := goodIn_app (goodIn_of _ (by decide +kernel)) ggL_law_L_append
set_option maxRecDepth 20000 in
theorem ggL_law_X4_append : GoodIn wsL_law wsX4_append := goodIn_r _ [667, 668, 77, 184, 185, 5, 186, 140, 141, 142, 143, 144, 757, 758, 759, 760, 761, 762, 763, 764] (by decide +kernel) (by decide +kernel)
set_option maxRecDepth 20000 in
theorem gL_law_X4_append : GoodIn wsL_law (wsV RL 165 RX4 yX4_append wsX4_append) := goodIn_app (goodIn_of _ (by decide +kernel)) ggL_law_X4_append
set_option maxRecDepth 20000 in
theorem ggL_law_X3_clearText : GoodIn wsL_law wsX3_clearText := goodIn_r _ [672, 24, 752, 753, 754, 755, 756] (by decide +kernel) (by decide +kernel)
set_option maxRecDepth 20000 in
theorem gL_law_X3_clearText : GoodIn wsL_law (wsV RL 166 RX3 yX3_clearText wsX3_clearText) := goodIn_app (goodIn_of _ (by decide +kernel)) ggL_law_X3_clearText
set_option maxRecDepth 20000 in
theorem ggL_law_X4_clearText : GoodIn wsL_law wsX4_clearText := goodIn_r _ [676, 144, 668, 757, 758, 759, 760, 761, 762, 763, 764] (by decide +kernel) (by decide +kernel)
set_option maxRecDepth 20000 in
theorem gL_law_X4_clearText : GoodIn wsL_law (wsV RL 169 RX4 yX4_clearText wsX4_clearText) := goodIn_app (goodIn_of _ (by decide +kernel)) ggL_law_X4_clearText
set_option maxRecDepth 20000 in
theorem ggL_law_X3_carryOut : GoodIn wsL_law wsX3_carryOut := goodIn_r _ [680, 21, 16, 24, 681, 682, 683, 2, 684, 685, 686, 687, 688, 23, 689, 690, 691, 692, 101, 102, 20, 103, 68, 104, 105, 106, 107, 67, 66, 108, 109, 110, 15, 111, 30, 112, 113, 56, 114, 115, 116, 117, 118, 31, 32, 36, 37, 38, 39, 40, 41, 42, 43, 44, 45, 46, 119, 120, 121, 35, 122, 60, 123, 53, 359, 360, 361, 362, 363, 364, 365, 366, 256, 93, 94, 95, 367, 262, 263, 264, 58, 368, 369, 370, 371, 372, 319, 320, 321, 261, 273, 274, 275, 276, 285, 282, 283, 284, 373, 374, 375, 376, 377, 340, 341, 342, 378, 379, 380, 381, 382, 383, 384, 385, 386, 387, 388, 389, 390, 391, 392, 393, 394, 198, 170, 171, 172, 395, 396, 397, 398, 399, 400, 401, 402, 281, 403, 404, 405, 406, 199, 129, 130, 131, 407, 408, 409, 410, 411, 174, 175, 176, 412, 413, 414, 415, 416, 417, 418, 419, 420, 421, 422, 277, 278, 279, 280, 59, 423, 424, 425, 426, 427, 428, 429, 430, 431, 432, 433, 434, 435, 436, 437, 438, 439, 440, 441, 442, 47, 48, 443, 444, 445, 446, 447, 448, 449, 450, 451, 452, 453, 454, 252, 253, 254, 255, 257, 258, 259, 260, 693, 694, 695, 696, 265, 266, 267, 268, 269, 270, 271, 272, 697, 125, 126, 127, 752, 753, 754, 755, 756, 781, 782, 783, 765, 766, 767, 768, 769, 770, 771, 772, 773, 774, 775, 776, 777, 778, 779, 780, 784, 785, 786, 787] (by decide +kernel) (by decide +kernel)
set_option maxRecDepth 20000 in
theorem gL_law_X3_carryOut : GoodIn wsL_law (wsV RL 170 RX3 yX3_carryOut wsX3_carryOut) := goodIn_app (goodIn_of _ (by decide +kernel)) ggL_law_X3_carryOut
set_option maxRecDepth 20000 in
theorem ggL_law_X4_carryOut : GoodIn wsL_law wsX4_carryOut := goodIn_r _ [701, 144, 668, 77, 74, 76, 184, 185, 5, 186, 649, 650, 651, 652, 702, 703, 704, 705, 459, 460, 461, 462, 463, 464, 465, 466, 467, 468, 469, 470, 471, 472, 473, 474, 475, 476, 477, 478, 297, 298, 299, 304, 305, 306, 307, 348, 349, 350, 351, 479, 480, 481, 482, 483, 484, 485, 486, 487, 488, 489, 490, 294, 295, 296, 491, 492, 493, 494, 495, 496, 497, 498, 499, 500, 501, 502, 503, 504, 505, 506, 507, 508, 509, 510, 511, 512, 513, 514, 515, 516, 517, 518, 290, 291, 292, 293, 300, 301, 302, 303, 653, 654, 655, 656, 145, 146, 147, 148, 149, 75, 757, 758, 759, 760, 761, 762, 763, 764] (by decide +kernel) (by decide +kernel)
set_option maxRecDepth 20000 in
theorem gL_law_X4_carryOut : GoodIn wsL_law (wsV RL 173 RX4 yX4_carryOut wsX4_carryOut) := goodIn_app (goodIn_of _ (by decide +kernel)) ggL_law_X4_carryOut
set_option maxRecDepth 20000 in
theorem ggL_law_L_undo : GoodIn wsL_law wsL_undo := goodIn_ca (goodIn_r _ [708, 83, 709, 710, 711, 2, 712, 90, 91, 21, 16, 713, 714, 715, 20, 716, 68, 717, 718, 719, 720, 721, 694, 695, 696, 104, 105, 106, 107, 67, 66, 108, 109, 110, 15, 111, 30, 112, 113, 56, 114, 115, 116, 117, 118, 31, 32, 36, 37, 38, 39, 40, 41, 42, 43, 44, 45, 46, 119, 120, 121, 35, 122, 60, 123, 53, 752, 753, 754, 755, 756, 781, 782, 783, 765, 766, 767, 768, 769, 770, 771, 772, 773, 774, 775, 776, 777, 778, 779, 780, 784, 785, 786, 787] (by decide +kernel) (by decide +kernel)) (goodIn_sub (fun _ h => List.mem_append_left _ (List.mem_append_left _ (List.mem_append_right _ h))) (by decide +kernel))
set_option maxRecDepth 20000 in
theorem gL_law_L_undo : GoodIn wsL_law (va_wsS RL 174 yL_undo wsL_undo) := goodIn_app (goodIn_of _ (by decide +kernel)) ggL_law_L_undo
set_option maxRecDepth 20000 in
theorem ggL_law_X4_undo : GoodIn wsL_law wsX4_undo := goodIn_r _ [725, 149, 74, 75, 140, 141, 142, 5, 143, 144, 757, 758, 759, 760, 761, 762, 763, 764] (by decide +kernel) (by decide +kernel)
set_option maxRecDepth 20000 in
theorem gL_law_X4_undo : GoodIn wsL_law (wsV RL 176 RX4 yX4_undo wsX4_undo) := goodIn_app (goodIn_of _ (by decide +kernel)) ggL_law_X4_undo
set_option maxRecDepth 20000 in
theorem ggL_law_X3_digest : GoodIn wsL_law wsX3_digest := goodIn_r _ [729, 730, 24, 731, 16, 21, 194, 195, 196, 15, 197, 45, 30, 198, 170, 171, 172, 199, 129, 130, 131, 31, 526, 527, 528, 529, 41, 42, 43, 36, 37, 38, 40, 39, 256, 93, 94, 35, 95, 53, 581, 270, 271, 272, 32, 732, 733, 734, 735, 58, 736, 261, 262, 263, 264, 60, 713, 714, 715, 20, 716, 68, 752, 753, 754, 755, 756, 765, 766, 767, 768, 769, 770, 771, 772, 773, 774, 775, 776, 777, 778, 779, 780, 784, 785, 786, 787, 781, 782, 783] (by decide +kernel) (by decide +kernel)
set_option maxRecDepth 20000 in
theorem gL_law_X3_digest : GoodIn wsL_law (wsV RL 177 RX3 yX3_digest wsX3_digest) := goodIn_app (goodIn_of _ (by decide +kernel)) ggL_law_X3_digest
set_option maxRecDepth 20000 in
theorem ggL_law_X4_digest : GoodIn wsL_law wsX4_digest := goodIn_r _ [740, 144, 741, 742, 668, 74, 149, 743, 744, 745, 5, 746, 747, 748, 749, 750, 751, 534, 535, 536, 537, 757, 758, 759, 760, 761, 762, 763, 764] (by decide +kernel) (by decide +kernel)
set_option maxRecDepth 20000 in
theorem gL_law_X4_digest : GoodIn wsL_law (wsV RL 181 RX4 yX4_digest wsX4_digest) := goodIn_app (goodIn_of _ (by decide +kernel)) ggL_law_X4_digest
