set_option maxRecDepth 20000 in
theorem ggL_law_L_jetOf : GoodIn wsL_law wsL_jetOf := goodIn_ca (goodIn_ca (goodIn_r _ [541, 81, 82, 542, 543, 544, 2, 545, 16, 90, 91, 92, 93, 94, 95, 96, 97, 98, 99, 546, 547, 548, 15, 549, 32, 263, 550, 551, 262, 38, 552, 376, 377, 31, 378, 45, 47, 553, 554, 555, 556, 557, 372, 373, 374, 375, 558, 380, 381, 382, 49, 355, 356, 357, 358, 383, 384, 385, 386, 387, 388, 50, 122, 359, 360, 361, 393, 394, 395, 396, 787, 788, 789, 790, 805, 806, 807, 808, 809, 810, 811, 812, 813, 814, 819, 820, 821, 822, 823, 824, 825] (by decide +kernel) (by decide +kernel)) (goodIn_sub (fun _ h => List.mem_append_left _ (List.mem_append_left _ (List.mem_append_right _ h))) (by decide +kernel))) (goodIn_sub (fun _ h => List.mem_append_left _ (List.mem_append_right _ h)) (by decide +kernel))
set_option maxRecDepth 20000 in
theorem gL_law_L_jetOf : GoodIn wsL_law (va_wsS RL 139 yL_jetOf wsL_jetOf) := goodIn_app (goodIn_of _ (by decide +kernel)) ggL_law_L_jetOf
set_option maxRecDepth 20000 in
theorem ggL_law_X6_jetOf : GoodIn wsL_law wsX6_jetOf := goodIn_r _ [562, 135, 136, 137, 5, 138, 139, 140, 141, 142, 143, 144, 145, 563, 564, 565, 566, 72, 296, 297, 298, 416, 417, 418, 410, 411, 412, 413, 414, 415, 419, 420, 421, 791, 792, 793, 794, 795, 796, 797, 798, 799, 800, 801, 802, 803, 804] (by decide +kernel) (by decide +kernel)
set_option maxRecDepth 20000 in
theorem gL_law_X6_jetOf : GoodIn wsL_law (wsV RL 141 RX6 yX6_jetOf wsX6_jetOf) := goodIn_app (goodIn_of _ (by decide +kernel)) ggL_law_X6_jetOf
set_option maxRecDepth 20000 in
theorem ggL_law_L_pumpOf : GoodIn wsL_law wsL_pumpOf := goodIn_ca (goodIn_ca (goodIn_r _ [569, 81, 82, 570, 571, 572, 2, 573, 16, 87, 181, 182, 183, 184, 93, 94, 95, 96, 97, 98, 99, 574, 372, 373, 31, 374, 375, 376, 377, 378, 45, 47, 575, 576, 577, 578, 557, 558, 380, 381, 382, 49, 355, 356, 357, 358, 383, 384, 385, 386, 387, 388, 50, 122, 359, 360, 361, 787, 788, 789, 790, 805, 806, 807, 808, 809, 810, 811, 812, 813, 814, 819, 820, 821, 822, 823, 824, 825] (by decide +kernel) (by decide +kernel)) (goodIn_sub (fun _ h => List.mem_append_left _ (List.mem_append_left _ (List.mem_append_right _ h))) (by decide +kernel))) (goodIn_sub (fun _ h => List.mem_append_left _ (List.mem_append_right _ h)) (by decide +kernel))
set_option maxRecDepth 20000 in
theorem gL_law_L_pumpOf : GoodIn wsL_law (va_wsS RL 142 yL_pumpOf wsL_pumpOf) := goodIn_app (goodIn_of _ (by decide +kernel)) ggL_law_L_pumpOf
set_option maxRecDepth 20000 in
theorem ggL_law_X6_pumpOf : GoodIn wsL_law wsX6_pumpOf := goodIn_r _ [582, 135, 139, 140, 5, 141, 142, 143, 144, 145, 583, 584, 585, 586, 72, 410, 411, 412, 413, 414, 415, 416, 417, 418, 296, 297, 298, 791, 792, 793, 794, 795, 796, 797, 798, 799, 800, 801, 802, 803, 804] (by decide +kernel) (by decide +kernel)
set_option maxRecDepth 20000 in
theorem gL_law_X6_pumpOf : GoodIn wsL_law (wsV RL 144 RX6 yX6_pumpOf wsX6_pumpOf) := goodIn_app (goodIn_of _ (by decide +kernel)) ggL_law_X6_pumpOf
set_option maxRecDepth 20000 in
theorem ggL_law_L_cueOf : GoodIn wsL_law wsL_cueOf := goodIn_ca (goodIn_r _ [589, 82, 590, 591, 592, 2, 593, 98, 99, 16, 242, 95, 96, 97, 594, 595, 596, 35, 597, 129, 54, 55, 56, 57, 787, 788, 789, 790, 805, 806, 807, 808, 809, 810, 811, 812, 813, 814, 826, 827, 828, 829, 830, 831] (by decide +kernel) (by decide +kernel)) (goodIn_sub (fun _ h => List.mem_append_left _ (List.mem_append_right _ h)) (by decide +kernel))
set_option maxRecDepth 20000 in
theorem gL_law_L_cueOf : GoodIn wsL_law (va_wsS RL 145 yL_cueOf wsL_cueOf) := goodIn_app (goodIn_of _ (by decide +kernel)) ggL_law_L_cueOf
set_option maxRecDepth 20000 in
theorem ggL_law_X6_cueOf : GoodIn wsL_law wsX6_cueOf := goodIn_r _ [601, 135, 72, 139, 140, 5, 141, 142, 143, 144, 145, 293, 294, 295, 791, 792, 793, 794, 795, 796, 797, 798, 799, 800, 801, 802, 803, 804] (by decide +kernel) (by decide +kernel)
set_option maxRecDepth 20000 in
theorem gL_law_X6_cueOf : GoodIn wsL_law (wsV RL 147 RX6 yX6_cueOf wsX6_cueOf) := goodIn_app (goodIn_of _ (by decide +kernel)) ggL_law_X6_cueOf
set_option maxRecDepth 20000 in
theorem ggL_law_L_count : GoodIn wsL_law wsL_count := goodIn_ca (goodIn_r _ [604, 82, 605, 606, 607, 2, 608, 16, 609, 242, 314, 87, 196, 211, 337, 610, 611, 612, 21, 530, 95, 96, 97, 98, 99, 613, 614, 615, 31, 616, 617, 554, 555, 556, 557, 372, 373, 374, 375, 376, 377, 378, 45, 47, 558, 380, 381, 382, 49, 355, 356, 357, 358, 383, 384, 385, 386, 387, 388, 50, 122, 359, 360, 361, 618, 394, 395, 396, 787, 788, 789, 790, 805, 806, 807, 808, 809, 810, 811, 812, 813, 814, 826, 827, 828, 829, 830, 831, 819, 820, 821, 822, 823, 824, 825, 815, 816] (by decide +kernel) (by decide +kernel)) (goodIn_sub (fun _ h => List.mem_append_left _ (List.mem_append_right _ h)) (by decide +kernel))
set_option maxRecDepth 20000 in
theorem gL_law_L_count : GoodIn wsL_law (va_wsS RL 148 yL_count wsL_count) := goodIn_app (goodIn_of _ (by decide +kernel)) ggL_law_L_count
set_option maxRecDepth 20000 in
theorem ggL_law_X6_count : GoodIn wsL_law wsX6_count := goodIn_r _ [622, 135, 139, 140, 5, 141, 623, 624, 625, 626, 72, 150, 627, 628, 629, 630, 419, 420, 421, 410, 411, 412, 413, 414, 415, 416, 417, 418, 296, 297, 298, 142, 143, 144, 145, 791, 792, 793, 794, 795, 796, 797, 798, 799, 800, 801, 802, 803, 804] (by decide +kernel) (by decide +kernel)
set_option maxRecDepth 20000 in
theorem gL_law_X6_count : GoodIn wsL_law (wsV RL 150 RX6 yX6_count wsX6_count) := goodIn_app (goodIn_of _ (by decide +kernel)) ggL_law_X6_count
set_option maxRecDepth 20000 in
theorem ggL_law_L_setting : GoodIn wsL_law wsL_setting := goodIn_ca (goodIn_r _ [633, 81, 634, 635, 636, 2, 637, 16, 87, 227, 228, 229, 230, 93, 94, 787, 788, 789, 790, 805, 806, 807, 808, 809, 810, 811, 812, 813, 814, 819, 820, 821, 822, 823, 824, 825] (by decide +kernel) (by decide +kernel)) (goodIn_sub (fun _ h => List.mem_append_left _ (List.mem_append_left _ (List.mem_append_right _ h))) (by decide +kernel))
set_option maxRecDepth 20000 in
theorem gL_law_L_setting : GoodIn wsL_law (va_wsS RL 151 yL_setting wsL_setting) := goodIn_app (goodIn_of _ (by decide +kernel)) ggL_law_L_setting
set_option maxRecDepth 20000 in
theorem ggL_law_X6_setting : GoodIn wsL_law wsX6_setting := goodIn_r _ [641, 135, 72, 139, 140, 5, 141, 142, 143, 144, 145, 791, 792, 793, 794, 795, 796, 797, 798, 799, 800, 801, 802, 803, 804] (by decide +kernel) (by decide +kernel)
set_option maxRecDepth 20000 in
theorem gL_law_X6_setting : GoodIn wsL_law (wsV RL 153 RX6 yX6_setting wsX6_setting) := goodIn_app (goodIn_of _ (by decide +kernel)) ggL_law_X6_setting
set_option maxRecDepth 20000 in
theorem ggL_law_L_refusal : GoodIn wsL_law wsL_refusal := goodIn_ca (goodIn_ca (goodIn_r _ [644, 81, 82, 645, 646, 647, 2, 648, 16, 243, 244, 245, 90, 91, 92, 93, 94, 95, 96, 97, 98, 99, 246, 247, 248, 15, 249, 113, 36, 250, 251, 252, 35, 253, 129, 254, 255, 256, 257, 55, 56, 258, 259, 260, 261, 32, 262, 263, 264, 265, 266, 267, 268, 57, 787, 788, 789, 790, 805, 806, 807, 808, 809, 810, 811, 812, 813, 814, 826, 827, 828, 829, 830, 831, 819, 820, 821, 822, 823, 824, 825] (by decide +kernel) (by decide +kernel)) (goodIn_sub (fun _ h => List.mem_append_left _ (List.mem_append_left _ (List.mem_append_right _ h))) (by decide +kernel))) (goodIn_sub (fun _ h => List.mem_append_left _ (List.mem_append_right _ h)) (by decide +kernel))
set_option maxRecDepth 20000 in
theorem gL_law_L_refusal : GoodIn wsL_law (va_wsS RL 154 yL_refusal wsL_refusal) := goodIn_app (goodIn_of _ (by decide +kernel)) ggL_law_L_refusal
set_option maxRecDepth 20000 in
theorem ggL_law_X6_refusal : GoodIn wsL_law wsX6_refusal := goodIn_r _ [652, 135, 136, 137, 5, 138, 139, 140, 141, 142, 143, 144, 145, 282, 283, 284, 285, 286, 287, 288, 72, 289, 290, 291, 292, 293, 294, 295, 296, 297, 298, 299, 300, 301, 302, 791, 792, 793, 794, 795, 796, 797, 798, 799, 800, 801, 802, 803, 804] (by decide +kernel) (by decide +kernel)
set_option maxRecDepth 20000 in
theorem gL_law_X6_refusal : GoodIn wsL_law (wsV RL 156 RX6 yX6_refusal wsX6_refusal) := goodIn_app (goodIn_of _ (by decide +kernel)) ggL_law_X6_refusal
set_option maxRecDepth 20000 in
theorem ggL_law_L_ifPlayed : GoodIn wsL_law wsL_ifPlayed := goodIn_ca (goodIn_r _ [655, 82, 656, 657, 658, 2, 659, 17, 16, 337, 610, 612, 95, 96, 97, 98, 99, 660, 110, 111, 15, 112, 32, 36, 38, 40, 113, 114, 115, 116, 117, 118, 119, 120, 31, 121, 45, 46, 47, 48, 49, 50, 122, 123, 124, 125, 126, 127, 35, 128, 54, 55, 56, 57, 129, 130, 661, 662, 663, 664, 338, 339, 340, 341, 342, 343, 344, 345, 346, 347, 348, 262, 349, 350, 320, 321, 322, 274, 275, 276, 277, 351, 352, 353, 354, 355, 356, 357, 358, 359, 360, 361, 362, 363, 364, 365, 39, 366, 367, 368, 369, 370, 371, 372, 373, 374, 375, 376, 377, 378, 379, 380, 381, 382, 383, 384, 385, 386, 387, 388, 389, 390, 391, 392, 393, 394, 395, 396, 665, 666, 667, 668, 550, 787, 788, 789, 790, 805, 806, 807, 808, 809, 810, 811, 812, 813, 814, 819, 820, 821, 822, 823, 824, 825, 826, 827, 828, 829, 830, 831] (by decide +kernel) (by decide +kernel)) (goodIn_sub (fun _ h => List.mem_append_left _ (List.mem_append_right _ h)) (by decide +kernel))
set_option maxRecDepth 20000 in
theorem gL_law_L_ifPlayed : GoodIn wsL_law (va_wsS RL 157 yL_ifPlayed wsL_ifPlayed) := goodIn_app (goodIn_of _ (by decide +kernel)) ggL_law_L_ifPlayed
