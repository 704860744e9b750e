set_option maxRecDepth 20000 in
theorem ggL_law_L_start : GoodIn wsL_law wsL_start := goodIn_ca (goodIn_r _ [208, 83, 209, 210, 211, 2, 212, 90, 91, 16, 21, 96, 97, 98, 20, 99, 100, 101, 102, 103, 68, 104, 105, 106, 107, 67, 66, 108, 109, 110, 15, 111, 30, 112, 113, 56, 114, 115, 116, 117, 118, 31, 32, 36, 37, 38, 39, 40, 41, 42, 43, 44, 45, 46, 119, 120, 121, 35, 122, 60, 123, 53, 124, 125, 126, 127, 92, 93, 94, 95, 746, 747, 748, 749, 750, 759, 760, 761, 762, 763, 764, 765, 766, 767, 768, 769, 770, 771, 772, 773, 774, 775, 776, 777, 778, 779, 780, 781] (by decide +kernel) (by decide +kernel)) (goodIn_sub (fun _ h => List.mem_append_left _ (List.mem_append_left _ (List.mem_append_right _ h))) (by decide +kernel))
set_option maxRecDepth 20000 in
theorem gL_law_L_start : GoodIn wsL_law (va_wsS RL 105 yL_start wsL_start) := goodIn_app (goodIn_of _ (by decide +kernel)) ggL_law_L_start
set_option maxRecDepth 20000 in
theorem ggL_law_X4_start : GoodIn wsL_law wsX4_start := goodIn_r _ [216, 74, 140, 141, 142, 5, 143, 144, 145, 146, 147, 148, 149, 75, 751, 752, 753, 754, 755, 756, 757, 758] (by decide +kernel) (by decide +kernel)
set_option maxRecDepth 20000 in
theorem gL_law_X4_start : GoodIn wsL_law (wsV RL 108 RX4 yX4_start wsX4_start) := goodIn_app (goodIn_of _ (by decide +kernel)) ggL_law_X4_start
set_option maxRecDepth 20000 in
theorem ggL_law_L_stop : GoodIn wsL_law wsL_stop := goodIn_ca (goodIn_r _ [219, 83, 220, 221, 222, 2, 223, 90, 91, 16, 21, 96, 97, 98, 20, 99, 100, 101, 102, 103, 68, 104, 105, 106, 107, 67, 66, 108, 109, 110, 15, 111, 30, 112, 113, 56, 114, 115, 116, 117, 118, 31, 32, 36, 37, 38, 39, 40, 41, 42, 43, 44, 45, 46, 119, 120, 121, 35, 122, 60, 123, 53, 124, 125, 126, 127, 92, 93, 94, 95, 746, 747, 748, 749, 750, 759, 760, 761, 762, 763, 764, 765, 766, 767, 768, 769, 770, 771, 772, 773, 774, 775, 776, 777, 778, 779, 780, 781] (by decide +kernel) (by decide +kernel)) (goodIn_sub (fun _ h => List.mem_append_left _ (List.mem_append_left _ (List.mem_append_right _ h))) (by decide +kernel))
set_option maxRecDepth 20000 in
theorem gL_law_L_stop : GoodIn wsL_law (va_wsS RL 109 yL_stop wsL_stop) := goodIn_app (goodIn_of _ (by decide +kernel)) ggL_law_L_stop
set_option maxRecDepth 20000 in
theorem ggL_law_X4_stop : GoodIn wsL_law wsX4_stop := goodIn_r _ [227, 74, 140, 141, 142, 5, 143, 144, 145, 146, 147, 148, 149, 75, 751, 752, 753, 754, 755, 756, 757, 758] (by decide +kernel) (by decide +kernel)
set_option maxRecDepth 20000 in
theorem gL_law_X4_stop : GoodIn wsL_law (wsV RL 111 RX4 yX4_stop wsX4_stop) := goodIn_app (goodIn_of _ (by decide +kernel)) ggL_law_X4_stop
set_option maxRecDepth 20000 in
theorem ggL_law_L_reset : GoodIn wsL_law wsL_reset := goodIn_ca (goodIn_r _ [230, 83, 231, 232, 233, 2, 234, 90, 91, 16, 21, 96, 97, 98, 20, 99, 100, 101, 102, 103, 68, 104, 105, 106, 107, 67, 66, 108, 109, 110, 15, 111, 30, 112, 113, 56, 114, 115, 116, 117, 118, 31, 32, 36, 37, 38, 39, 40, 41, 42, 43, 44, 45, 46, 119, 120, 121, 35, 122, 60, 123, 53, 124, 125, 126, 127, 746, 747, 748, 749, 750, 759, 760, 761, 762, 763, 764, 765, 766, 767, 768, 769, 770, 771, 772, 773, 774, 775, 776, 777, 778, 779, 780, 781] (by decide +kernel) (by decide +kernel)) (goodIn_sub (fun _ h => List.mem_append_left _ (List.mem_append_left _ (List.mem_append_right _ h))) (by decide +kernel))
set_option maxRecDepth 20000 in
theorem gL_law_L_reset : GoodIn wsL_law (va_wsS RL 112 yL_reset wsL_reset) := goodIn_app (goodIn_of _ (by decide +kernel)) ggL_law_L_reset
set_option maxRecDepth 20000 in
theorem ggL_law_X4_reset : GoodIn wsL_law wsX4_reset := goodIn_r _ [238, 74, 140, 141, 142, 5, 143, 144, 145, 146, 147, 148, 149, 75, 751, 752, 753, 754, 755, 756, 757, 758] (by decide +kernel) (by decide +kernel)
set_option maxRecDepth 20000 in
theorem gL_law_X4_reset : GoodIn wsL_law (wsV RL 114 RX4 yX4_reset wsX4_reset) := goodIn_app (goodIn_of _ (by decide +kernel)) ggL_law_X4_reset
set_option maxRecDepth 20000 in
theorem ggL_law_L_feed : GoodIn wsL_law wsL_feed := goodIn_ca (goodIn_ca (goodIn_r _ [241, 82, 83, 242, 243, 244, 2, 245, 88, 89, 90, 91, 16, 21, 246, 247, 248, 15, 249, 36, 37, 250, 93, 94, 35, 95, 53, 251, 252, 253, 254, 255, 256, 257, 258, 58, 60, 96, 97, 98, 20, 99, 100, 101, 102, 103, 68, 104, 105, 106, 107, 67, 66, 108, 109, 110, 111, 30, 112, 113, 56, 114, 115, 116, 117, 118, 31, 32, 38, 39, 40, 41, 42, 43, 44, 45, 46, 119, 120, 121, 122, 123, 124, 125, 126, 127, 259, 260, 261, 262, 263, 264, 265, 266, 267, 268, 269, 270, 271, 272, 273, 274, 59, 275, 276, 277, 278, 279, 746, 747, 748, 749, 750, 759, 760, 761, 762, 763, 764, 765, 766, 767, 768, 769, 770, 771, 772, 773, 774, 778, 779, 780, 781, 775, 776, 777] (by decide +kernel) (by decide +kernel)) (goodIn_sub (fun _ h => List.mem_append_left _ (List.mem_append_left _ (List.mem_append_left _ (List.mem_append_right _ h)))) (by decide +kernel))) (goodIn_sub (fun _ h => List.mem_append_left _ (List.mem_append_left _ (List.mem_append_right _ h))) (by decide +kernel))
set_option maxRecDepth 20000 in
theorem gL_law_L_feed : GoodIn wsL_law (va_wsS RL 115 yL_feed wsL_feed) := goodIn_app (goodIn_of _ (by decide +kernel)) ggL_law_L_feed
set_option maxRecDepth 20000 in
theorem ggL_law_X4_feed : GoodIn wsL_law wsX4_feed := goodIn_r _ [283, 284, 285, 286, 5, 287, 74, 178, 179, 180, 288, 289, 290, 291, 292, 293, 140, 141, 142, 143, 144, 145, 146, 147, 148, 149, 75, 294, 295, 296, 297, 298, 299, 300, 301, 751, 752, 753, 754, 755, 756, 757, 758] (by decide +kernel) (by decide +kernel)
set_option maxRecDepth 20000 in
theorem gL_law_X4_feed : GoodIn wsL_law (wsV RL 117 RX4 yX4_feed wsX4_feed) := goodIn_app (goodIn_of _ (by decide +kernel)) ggL_law_X4_feed
set_option maxRecDepth 20000 in
theorem ggL_law_L_slip : GoodIn wsL_law wsL_slip := goodIn_ca (goodIn_ca (goodIn_r _ [304, 305, 82, 306, 307, 308, 2, 309, 310, 311, 88, 89, 16, 21, 312, 313, 314, 35, 315, 53, 255, 256, 257, 258, 58, 60, 316, 128, 129, 130, 15, 131, 31, 96, 97, 98, 20, 99, 100, 101, 102, 103, 68, 104, 105, 106, 107, 67, 66, 108, 109, 110, 111, 30, 112, 113, 56, 114, 115, 116, 117, 118, 32, 36, 37, 38, 39, 40, 41, 42, 43, 44, 45, 46, 119, 120, 121, 122, 123, 124, 125, 126, 127, 317, 276, 277, 278, 746, 747, 748, 749, 750, 759, 760, 761, 762, 763, 764, 765, 766, 767, 768, 769, 770, 771, 772, 773, 774, 778, 779, 780, 781, 775, 776, 777] (by decide +kernel) (by decide +kernel)) (goodIn_sub (fun _ h => List.mem_append_left _ (List.mem_append_right _ h)) (by decide +kernel))) (goodIn_sub (fun _ h => List.mem_append_left _ (List.mem_append_left _ (List.mem_append_left _ (List.mem_append_right _ h)))) (by decide +kernel))
set_option maxRecDepth 20000 in
theorem gL_law_L_slip : GoodIn wsL_law (va_wsS RL 118 yL_slip wsL_slip) := goodIn_app (goodIn_of _ (by decide +kernel)) ggL_law_L_slip
set_option maxRecDepth 20000 in
theorem ggL_law_X4_slip : GoodIn wsL_law wsX4_slip := goodIn_r _ [321, 74, 322, 323, 324, 5, 325, 288, 289, 290, 178, 179, 180, 140, 141, 142, 143, 144, 145, 146, 147, 148, 149, 75, 751, 752, 753, 754, 755, 756, 757, 758] (by decide +kernel) (by decide +kernel)
set_option maxRecDepth 20000 in
theorem gL_law_X4_slip : GoodIn wsL_law (wsV RL 120 RX4 yX4_slip wsX4_slip) := goodIn_app (goodIn_of _ (by decide +kernel)) ggL_law_X4_slip
set_option maxRecDepth 20000 in
theorem ggL_law_L_take : GoodIn wsL_law wsL_take := goodIn_ca (goodIn_r _ [328, 305, 329, 330, 331, 2, 332, 310, 311, 16, 21, 312, 313, 314, 35, 315, 53, 255, 256, 257, 258, 58, 60, 96, 97, 98, 20, 99, 100, 101, 102, 103, 68, 104, 105, 106, 107, 67, 66, 108, 109, 110, 15, 111, 30, 112, 113, 56, 114, 115, 116, 117, 118, 31, 32, 36, 37, 38, 39, 40, 41, 42, 43, 44, 45, 46, 119, 120, 121, 122, 123, 124, 125, 126, 127, 316, 333, 334, 335, 336, 337, 268, 269, 270, 746, 747, 748, 749, 750, 759, 760, 761, 762, 763, 764, 765, 766, 767, 768, 769, 770, 771, 772, 773, 774, 778, 779, 780, 781, 775, 776, 777] (by decide +kernel) (by decide +kernel)) (goodIn_sub (fun _ h => List.mem_append_left _ (List.mem_append_right _ h)) (by decide +kernel))
set_option maxRecDepth 20000 in
theorem gL_law_L_take : GoodIn wsL_law (va_wsS RL 121 yL_take wsL_take) := goodIn_app (goodIn_of _ (by decide +kernel)) ggL_law_L_take
