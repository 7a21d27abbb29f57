set_option maxRecDepth 20000 in
theorem ggL_law_L_aim : GoodIn wsL_law wsL_aim := goodIn_ca (goodIn_ca (goodIn_r _ [164, 81, 82, 165, 166, 167, 2, 168, 21, 16, 87, 169, 90, 91, 92, 93, 94, 95, 96, 97, 98, 99, 100, 101, 102, 20, 103, 104, 63, 105, 106, 107, 108, 109, 110, 111, 15, 112, 32, 36, 38, 40, 113, 114, 115, 116, 117, 118, 119, 120, 31, 121, 45, 46, 47, 48, 49, 50, 122, 123, 124, 125, 126, 127, 35, 128, 54, 55, 56, 57, 129, 130, 787, 788, 789, 790, 805, 806, 807, 808, 809, 810, 811, 812, 813, 814, 819, 820, 821, 822, 823, 824, 825, 815, 816, 826, 827, 828, 829, 830, 831] (by decide +kernel) (by decide +kernel)) (goodIn_sub (fun _ h => List.mem_append_left _ (List.mem_append_left _ (List.mem_append_right _ h))) (by decide +kernel))) (goodIn_sub (fun _ h => List.mem_append_left _ (List.mem_append_right _ h)) (by decide +kernel))
set_option maxRecDepth 20000 in
theorem gL_law_L_aim : GoodIn wsL_law (va_wsS RL 95 yL_aim wsL_aim) := goodIn_app (goodIn_of _ (by decide +kernel)) ggL_law_L_aim
set_option maxRecDepth 20000 in
theorem ggL_law_X6_aim : GoodIn wsL_law wsX6_aim := goodIn_r _ [173, 135, 136, 137, 5, 138, 139, 140, 141, 142, 143, 144, 145, 146, 147, 148, 149, 150, 74, 72, 151, 152, 153, 154, 155, 156, 157, 791, 792, 793, 794, 795, 796, 797, 798, 799, 800, 801, 802, 803, 804] (by decide +kernel) (by decide +kernel)
set_option maxRecDepth 20000 in
theorem gL_law_X6_aim : GoodIn wsL_law (wsV RL 98 RX6 yX6_aim wsX6_aim) := goodIn_app (goodIn_of _ (by decide +kernel)) ggL_law_X6_aim
set_option maxRecDepth 20000 in
theorem ggL_law_L_pump : GoodIn wsL_law wsL_pump := goodIn_ca (goodIn_ca (goodIn_r _ [176, 81, 82, 177, 178, 179, 2, 180, 21, 16, 87, 181, 182, 183, 184, 93, 94, 95, 96, 97, 98, 99, 100, 101, 102, 20, 103, 104, 63, 105, 106, 107, 108, 109, 110, 111, 15, 112, 32, 36, 38, 40, 113, 114, 115, 116, 117, 118, 119, 120, 31, 121, 45, 46, 47, 48, 49, 50, 122, 123, 124, 125, 126, 127, 35, 128, 54, 55, 56, 57, 129, 130, 787, 788, 789, 790, 805, 806, 807, 808, 809, 810, 811, 812, 813, 814, 819, 820, 821, 822, 823, 824, 825, 815, 816, 826, 827, 828, 829, 830, 831] (by decide +kernel) (by decide +kernel)) (goodIn_sub (fun _ h => List.mem_append_left _ (List.mem_append_left _ (List.mem_append_right _ h))) (by decide +kernel))) (goodIn_sub (fun _ h => List.mem_append_left _ (List.mem_append_right _ h)) (by decide +kernel))
set_option maxRecDepth 20000 in
theorem gL_law_L_pump : GoodIn wsL_law (va_wsS RL 99 yL_pump wsL_pump) := goodIn_app (goodIn_of _ (by decide +kernel)) ggL_law_L_pump
set_option maxRecDepth 20000 in
theorem ggL_law_X6_pump : GoodIn wsL_law wsX6_pump := goodIn_r _ [188, 135, 139, 140, 5, 141, 142, 143, 144, 145, 146, 147, 148, 149, 150, 74, 72, 151, 152, 153, 154, 155, 156, 157, 791, 792, 793, 794, 795, 796, 797, 798, 799, 800, 801, 802, 803, 804] (by decide +kernel) (by decide +kernel)
set_option maxRecDepth 20000 in
theorem gL_law_X6_pump : GoodIn wsL_law (wsV RL 101 RX6 yX6_pump wsX6_pump) := goodIn_app (goodIn_of _ (by decide +kernel)) ggL_law_X6_pump
set_option maxRecDepth 20000 in
theorem ggL_law_L_wind : GoodIn wsL_law wsL_wind := goodIn_ca (goodIn_r _ [191, 82, 192, 193, 194, 2, 195, 21, 16, 87, 196, 95, 96, 97, 98, 99, 100, 101, 102, 20, 103, 104, 63, 105, 106, 107, 108, 109, 110, 111, 15, 112, 32, 36, 38, 40, 113, 114, 115, 116, 117, 118, 119, 120, 31, 121, 45, 46, 47, 48, 49, 50, 122, 123, 124, 125, 126, 127, 35, 128, 54, 55, 56, 57, 129, 130, 787, 788, 789, 790, 805, 806, 807, 808, 809, 810, 811, 812, 813, 814, 819, 820, 821, 822, 823, 824, 825, 815, 816, 826, 827, 828, 829, 830, 831] (by decide +kernel) (by decide +kernel)) (goodIn_sub (fun _ h => List.mem_append_left _ (List.mem_append_right _ h)) (by decide +kernel))
set_option maxRecDepth 20000 in
theorem gL_law_L_wind : GoodIn wsL_law (va_wsS RL 102 yL_wind wsL_wind) := goodIn_app (goodIn_of _ (by decide +kernel)) ggL_law_L_wind
set_option maxRecDepth 20000 in
theorem ggL_law_X6_wind : GoodIn wsL_law wsX6_wind := goodIn_r _ [200, 135, 139, 140, 5, 141, 142, 143, 144, 145, 146, 147, 148, 149, 150, 74, 72, 151, 152, 153, 154, 155, 156, 157, 791, 792, 793, 794, 795, 796, 797, 798, 799, 800, 801, 802, 803, 804] (by decide +kernel) (by decide +kernel)
set_option maxRecDepth 20000 in
theorem gL_law_X6_wind : GoodIn wsL_law (wsV RL 105 RX6 yX6_wind wsX6_wind) := goodIn_app (goodIn_of _ (by decide +kernel)) ggL_law_X6_wind
set_option maxRecDepth 20000 in
theorem ggL_law_L_fill : GoodIn wsL_law wsL_fill := goodIn_ca (goodIn_ca (goodIn_r _ [203, 82, 204, 205, 206, 207, 2, 208, 209, 210, 16, 211, 212, 21, 95, 96, 97, 98, 99, 100, 101, 102, 20, 103, 104, 63, 105, 106, 107, 108, 109, 110, 111, 15, 112, 32, 36, 38, 40, 113, 114, 115, 116, 117, 118, 119, 120, 31, 121, 45, 46, 47, 48, 49, 50, 122, 123, 124, 125, 126, 127, 35, 128, 54, 55, 56, 57, 129, 130, 787, 788, 789, 790, 805, 806, 807, 808, 809, 810, 811, 812, 813, 814, 815, 816, 819, 820, 821, 822, 823, 824, 825, 826, 827, 828, 829, 830, 831] (by decide +kernel) (by decide +kernel)) (goodIn_sub (fun _ h => List.mem_append_right _ h) (by decide +kernel))) (goodIn_sub (fun _ h => List.mem_append_left _ (List.mem_append_right _ h)) (by decide +kernel))
set_option maxRecDepth 20000 in
theorem gL_law_L_fill : GoodIn wsL_law (va_wsS RL 106 yL_fill wsL_fill) := goodIn_app (goodIn_of _ (by decide +kernel)) ggL_law_L_fill
set_option maxRecDepth 20000 in
theorem ggL_law_X6_fill : GoodIn wsL_law wsX6_fill := goodIn_r _ [216, 135, 72, 217, 139, 140, 5, 141, 142, 143, 144, 145, 146, 147, 148, 149, 150, 74, 151, 152, 153, 791, 792, 793, 794, 795, 796, 797, 798, 799, 800, 801, 802, 803, 804] (by decide +kernel) (by decide +kernel)
set_option maxRecDepth 20000 in
theorem gL_law_X6_fill : GoodIn wsL_law (wsV RL 108 RX6 yX6_fill wsX6_fill) := goodIn_app (goodIn_of _ (by decide +kernel)) ggL_law_X6_fill
set_option maxRecDepth 20000 in
theorem ggL_law_L_set : GoodIn wsL_law wsL_set := goodIn_ca (goodIn_ca (goodIn_r _ [220, 81, 82, 221, 222, 223, 2, 224, 225, 226, 21, 16, 87, 227, 228, 229, 230, 93, 94, 95, 96, 97, 98, 99, 100, 101, 102, 20, 103, 104, 63, 105, 106, 107, 108, 109, 110, 111, 15, 112, 32, 36, 38, 40, 113, 114, 115, 116, 117, 118, 119, 120, 31, 121, 45, 46, 47, 48, 49, 50, 122, 123, 124, 125, 126, 127, 35, 128, 54, 55, 56, 57, 129, 130, 787, 788, 789, 790, 805, 806, 807, 808, 809, 810, 811, 812, 813, 814, 819, 820, 821, 822, 823, 824, 825, 815, 816, 826, 827, 828, 829, 830, 831] (by decide +kernel) (by decide +kernel)) (goodIn_sub (fun _ h => List.mem_append_left _ (List.mem_append_left _ (List.mem_append_right _ h))) (by decide +kernel))) (goodIn_sub (fun _ h => List.mem_append_left _ (List.mem_append_right _ h)) (by decide +kernel))
set_option maxRecDepth 20000 in
theorem gL_law_L_set : GoodIn wsL_law (va_wsS RL 109 yL_set wsL_set) := goodIn_app (goodIn_of _ (by decide +kernel)) ggL_law_L_set
set_option maxRecDepth 20000 in
theorem ggL_law_X6_set : GoodIn wsL_law wsX6_set := goodIn_r _ [234, 135, 139, 140, 5, 141, 142, 143, 144, 145, 146, 147, 148, 149, 150, 74, 72, 151, 152, 153, 154, 155, 156, 157, 791, 792, 793, 794, 795, 796, 797, 798, 799, 800, 801, 802, 803, 804] (by decide +kernel) (by decide +kernel)
set_option maxRecDepth 20000 in
theorem gL_law_X6_set : GoodIn wsL_law (wsV RL 111 RX6 yX6_set wsX6_set) := goodIn_app (goodIn_of _ (by decide +kernel)) ggL_law_X6_set
set_option maxRecDepth 20000 in
theorem ggL_law_L_cue : GoodIn wsL_law wsL_cue := goodIn_ca (goodIn_ca (goodIn_ca (goodIn_r _ [237, 81, 82, 204, 238, 239, 240, 2, 241, 209, 210, 16, 21, 242, 243, 244, 245, 90, 91, 92, 93, 94, 95, 96, 97, 98, 99, 246, 247, 248, 15, 249, 113, 36, 250, 251, 252, 35, 253, 129, 254, 255, 256, 257, 55, 56, 258, 259, 260, 261, 32, 262, 263, 264, 265, 266, 267, 268, 57, 100, 101, 102, 20, 103, 104, 63, 105, 106, 107, 108, 109, 110, 111, 112, 38, 40, 114, 115, 116, 117, 118, 119, 120, 31, 121, 45, 46, 47, 48, 49, 50, 122, 123, 124, 125, 126, 127, 128, 54, 130, 269, 270, 271, 272, 273, 274, 275, 276, 277, 787, 788, 789, 790, 805, 806, 807, 808, 809, 810, 811, 812, 813, 814, 826, 827, 828, 829, 830, 831, 819, 820, 821, 822, 823, 824, 825, 815, 816] (by decide +kernel) (by decide +kernel)) (goodIn_sub (fun _ h => List.mem_append_right _ h) (by decide +kernel))) (goodIn_sub (fun _ h => List.mem_append_left _ (List.mem_append_left _ (List.mem_append_right _ h))) (by decide +kernel))) (goodIn_sub (fun _ h => List.mem_append_left _ (List.mem_append_right _ h)) (by decide +kernel))
set_option maxRecDepth 20000 in
theorem gL_law_L_cue : GoodIn wsL_law (va_wsS RL 112 yL_cue wsL_cue) := goodIn_app (goodIn_of _ (by decide +kernel)) ggL_law_L_cue
set_option maxRecDepth 20000 in
theorem ggL_law_X6_cue : GoodIn wsL_law wsX6_cue := goodIn_r _ [281, 135, 136, 137, 5, 138, 139, 140, 141, 142, 143, 144, 145, 282, 283, 284, 285, 286, 287, 288, 72, 289, 290, 291, 292, 293, 294, 295, 296, 297, 298, 299, 300, 301, 302, 146, 147, 148, 149, 150, 74, 151, 152, 153, 303, 304, 305, 306, 791, 792, 793, 794, 795, 796, 797, 798, 799, 800, 801, 802, 803, 804] (by decide +kernel) (by decide +kernel)
set_option maxRecDepth 20000 in
theorem gL_law_X6_cue : GoodIn wsL_law (wsV RL 114 RX6 yX6_cue wsX6_cue) := goodIn_app (goodIn_of _ (by decide +kernel)) ggL_law_X6_cue
set_option maxRecDepth 20000 in
theorem ggL_law_L_drop : GoodIn wsL_law wsL_drop := goodIn_ca (goodIn_r _ [309, 81, 310, 311, 312, 2, 313, 93, 94, 16, 242, 21, 314, 315, 316, 317, 35, 318, 129, 54, 100, 101, 102, 20, 103, 104, 63, 105, 106, 107, 108, 109, 110, 111, 15, 112, 32, 36, 38, 40, 113, 114, 115, 116, 117, 118, 119, 120, 31, 121, 45, 46, 47, 48, 49, 50, 122, 123, 124, 125, 126, 127, 128, 55, 56, 57, 130, 319, 320, 321, 322, 274, 275, 276, 277, 787, 788, 789, 790, 805, 806, 807, 808, 809, 810, 811, 812, 813, 814, 826, 827, 828, 829, 830, 831, 815, 816, 819, 820, 821, 822, 823, 824, 825] (by decide +kernel) (by decide +kernel)) (goodIn_sub (fun _ h => List.mem_append_left _ (List.mem_append_left _ (List.mem_append_right _ h))) (by decide +kernel))
set_option maxRecDepth 20000 in
theorem gL_law_L_drop : GoodIn wsL_law (va_wsS RL 115 yL_drop wsL_drop) := goodIn_app (goodIn_of _ (by decide +kernel)) ggL_law_L_drop
