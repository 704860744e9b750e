set_option maxRecDepth 20000 in
theorem ggL_law_X3_init : GoodIn wsL_law wsX3_init := goodIn_r _ [9, 10, 11, 12, 13, 14, 15, 16, 17, 18, 19, 20, 21, 22, 23, 24, 25, 26, 27, 28, 29, 30, 31, 32, 33, 34, 35, 36, 37, 38, 39, 40, 41, 42, 43, 44, 45, 46, 47, 48, 49, 50, 51, 52, 53, 54, 55, 56, 57, 58, 59, 60, 61, 62, 63, 64, 65, 66, 67, 68, 69, 765, 766, 767, 768, 769, 770, 771, 772, 773, 774, 775, 776, 777, 778, 779, 780, 752, 753, 754, 755, 756, 781, 782, 783, 784, 785, 786, 787] (by decide +kernel) (by decide +kernel)
set_option maxRecDepth 20000 in
theorem gL_law_X3_init : GoodIn wsL_law (wsX3_init) := ggL_law_X3_init
set_option maxRecDepth 20000 in
theorem ggL_law_X4_init : GoodIn wsL_law wsX4_init := goodIn_r _ [72, 73, 11, 12, 29, 74, 75, 76, 77, 757, 758, 759, 760, 761, 762, 763, 764] (by decide +kernel) (by decide +kernel)
set_option maxRecDepth 20000 in
theorem gL_law_X4_init : GoodIn wsL_law (wsX4_init) := ggL_law_X4_init
set_option maxRecDepth 20000 in
theorem ggL_law_L_setPlaces : GoodIn wsL_law wsL_setPlaces := goodIn_ca (goodIn_ca (goodIn_r _ [81, 82, 83, 84, 85, 86, 2, 87, 88, 89, 90, 91, 16, 21, 92, 93, 94, 35, 95, 53, 96, 97, 98, 20, 99, 100, 101, 102, 103, 68, 104, 105, 106, 107, 67, 66, 108, 109, 110, 15, 111, 30, 112, 113, 56, 114, 115, 116, 117, 118, 31, 32, 36, 37, 38, 39, 40, 41, 42, 43, 44, 45, 46, 119, 120, 121, 122, 60, 123, 124, 125, 126, 127, 128, 129, 130, 131, 132, 133, 134, 135, 752, 753, 754, 755, 756, 765, 766, 767, 768, 769, 770, 771, 772, 773, 774, 775, 776, 777, 778, 779, 780, 784, 785, 786, 787, 781, 782, 783] (by decide +kernel) (by decide +kernel)) (goodIn_sub (fun _ h => List.mem_append_left _ (List.mem_append_left _ (List.mem_append_left _ (List.mem_append_right _ h)))) (by decide +kernel))) (goodIn_sub (fun _ h => List.mem_append_left _ (List.mem_append_left _ (List.mem_append_right _ h))) (by decide +kernel))
set_option maxRecDepth 20000 in
theorem gL_law_L_setPlaces : GoodIn wsL_law (va_wsS RL 83 yL_setPlaces wsL_setPlaces) := goodIn_app (goodIn_of _ (by decide +kernel)) ggL_law_L_setPlaces
set_option maxRecDepth 20000 in
theorem ggL_law_X4_setPlaces : GoodIn wsL_law wsX4_setPlaces := goodIn_r _ [139, 74, 140, 141, 142, 5, 143, 144, 145, 146, 147, 148, 149, 75, 757, 758, 759, 760, 761, 762, 763, 764] (by decide +kernel) (by decide +kernel)
set_option maxRecDepth 20000 in
theorem gL_law_X4_setPlaces : GoodIn wsL_law (wsV RL 88 RX4 yX4_setPlaces wsX4_setPlaces) := goodIn_app (goodIn_of _ (by decide +kernel)) ggL_law_X4_setPlaces
set_option maxRecDepth 20000 in
theorem ggL_law_X4_thrown : GoodIn wsL_law wsX4_thrown := goodIn_r _ [153, 144, 757, 758, 759, 760, 761, 762, 763, 764] (by decide +kernel) (by decide +kernel)
set_option maxRecDepth 20000 in
theorem gL_law_X4_thrown : GoodIn wsL_law (wsV RL 89 RX4 yX4_thrown wsX4_thrown) := goodIn_app (goodIn_of _ (by decide +kernel)) ggL_law_X4_thrown
set_option maxRecDepth 20000 in
theorem ggL_law_L_set : GoodIn wsL_law wsL_set := goodIn_ca (goodIn_r _ [156, 82, 157, 158, 159, 2, 160, 88, 89, 21, 16, 161, 162, 163, 164, 165, 166, 167, 168, 96, 97, 98, 20, 99, 100, 101, 102, 103, 68, 104, 105, 106, 107, 67, 66, 108, 109, 110, 15, 111, 30, 112, 113, 56, 114, 115, 116, 117, 118, 31, 32, 36, 37, 38, 39, 40, 41, 42, 43, 44, 45, 46, 119, 120, 121, 35, 122, 60, 123, 53, 124, 125, 126, 127, 169, 170, 171, 172, 173, 174, 175, 176, 752, 753, 754, 755, 756, 781, 782, 783, 765, 766, 767, 768, 769, 770, 771, 772, 773, 774, 775, 776, 777, 778, 779, 780, 784, 785, 786, 787] (by decide +kernel) (by decide +kernel)) (goodIn_sub (fun _ h => List.mem_append_left _ (List.mem_append_left _ (List.mem_append_left _ (List.mem_append_right _ h)))) (by decide +kernel))
set_option maxRecDepth 20000 in
theorem gL_law_L_set : GoodIn wsL_law (va_wsS RL 92 yL_set wsL_set) := goodIn_app (goodIn_of _ (by decide +kernel)) ggL_law_L_set
set_option maxRecDepth 20000 in
theorem ggL_law_X4_set : GoodIn wsL_law wsX4_set := goodIn_r _ [180, 74, 181, 182, 5, 183, 184, 185, 186, 140, 141, 142, 143, 144, 145, 146, 147, 148, 149, 75, 757, 758, 759, 760, 761, 762, 763, 764] (by decide +kernel) (by decide +kernel)
set_option maxRecDepth 20000 in
theorem gL_law_X4_set : GoodIn wsL_law (wsV RL 95 RX4 yX4_set wsX4_set) := goodIn_app (goodIn_of _ (by decide +kernel)) ggL_law_X4_set
set_option maxRecDepth 20000 in
theorem ggL_law_L_value : GoodIn wsL_law wsL_value := goodIn_ca (goodIn_r _ [189, 82, 190, 191, 192, 2, 193, 88, 89, 16, 194, 195, 196, 15, 197, 45, 30, 198, 170, 171, 172, 199, 129, 130, 131, 31, 752, 753, 754, 755, 756, 765, 766, 767, 768, 769, 770, 771, 772, 773, 774, 775, 776, 777, 778, 779, 780] (by decide +kernel) (by decide +kernel)) (goodIn_sub (fun _ h => List.mem_append_left _ (List.mem_append_left _ (List.mem_append_left _ (List.mem_append_right _ h)))) (by decide +kernel))
set_option maxRecDepth 20000 in
theorem gL_law_L_value : GoodIn wsL_law (va_wsS RL 96 yL_value wsL_value) := goodIn_app (goodIn_of _ (by decide +kernel)) ggL_law_L_value
set_option maxRecDepth 20000 in
theorem ggL_law_X4_value : GoodIn wsL_law wsX4_value := goodIn_r _ [203, 74, 184, 185, 5, 186, 140, 141, 142, 143, 144, 757, 758, 759, 760, 761, 762, 763, 764] (by decide +kernel) (by decide +kernel)
set_option maxRecDepth 20000 in
theorem gL_law_X4_value : GoodIn wsL_law (wsV RL 99 RX4 yX4_value wsX4_value) := goodIn_app (goodIn_of _ (by decide +kernel)) ggL_law_X4_value
set_option maxRecDepth 20000 in
theorem ggL_law_X3_jam : GoodIn wsL_law wsX3_jam := goodIn_r _ [207, 21, 16, 96, 97, 98, 20, 99, 100, 101, 102, 103, 68, 104, 105, 106, 107, 67, 66, 108, 109, 110, 15, 111, 30, 112, 113, 56, 114, 115, 116, 117, 118, 31, 32, 36, 37, 38, 39, 40, 41, 42, 43, 44, 45, 46, 119, 120, 121, 35, 122, 60, 123, 53, 124, 125, 126, 127, 752, 753, 754, 755, 756, 765, 766, 767, 768, 769, 770, 771, 772, 773, 774, 775, 776, 777, 778, 779, 780, 781, 782, 783, 784, 785, 786, 787] (by decide +kernel) (by decide +kernel)
set_option maxRecDepth 20000 in
theorem gL_law_X3_jam : GoodIn wsL_law (wsV RL 100 RX3 yX3_jam wsX3_jam) := goodIn_app (goodIn_of _ (by decide +kernel)) ggL_law_X3_jam
set_option maxRecDepth 20000 in
theorem ggL_law_X4_jam : GoodIn wsL_law wsX4_jam := goodIn_r _ [211, 144, 74, 145, 146, 147, 5, 148, 149, 75, 757, 758, 759, 760, 761, 762, 763, 764] (by decide +kernel) (by decide +kernel)
set_option maxRecDepth 20000 in
theorem gL_law_X4_jam : GoodIn wsL_law (wsV RL 104 RX4 yX4_jam wsX4_jam) := goodIn_app (goodIn_of _ (by decide +kernel)) ggL_law_X4_jam
