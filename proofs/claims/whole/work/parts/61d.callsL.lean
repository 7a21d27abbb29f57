set_option maxRecDepth 20000 in
theorem ggL_law_X6_drop : GoodIn wsL_law wsX6_drop := goodIn_r _ [326, 135, 72, 293, 294, 5, 295, 142, 143, 144, 145, 146, 147, 148, 149, 150, 74, 151, 152, 153, 327, 328, 329, 791, 792, 793, 794, 795, 796, 797, 798, 799, 800, 801, 802, 803, 804] (by decide +kernel) (by decide +kernel)
set_option maxRecDepth 20000 in
theorem gL_law_X6_drop : GoodIn wsL_law (wsV RL 117 RX6 yX6_drop wsX6_drop) := goodIn_app (goodIn_of _ (by decide +kernel)) ggL_law_X6_drop
set_option maxRecDepth 20000 in
theorem ggL_law_L_play : GoodIn wsL_law wsL_play := goodIn_ca (goodIn_r _ [332, 82, 333, 334, 335, 2, 336, 21, 16, 337, 95, 96, 97, 98, 99, 100, 101, 102, 20, 103, 104, 63, 105, 106, 107, 108, 109, 110, 111, 15, 112, 32, 36, 38, 40, 113, 114, 115, 116, 117, 118, 119, 120, 31, 121, 45, 46, 47, 48, 49, 50, 122, 123, 124, 125, 126, 127, 35, 128, 54, 55, 56, 57, 129, 130, 338, 339, 340, 341, 342, 343, 344, 345, 346, 347, 348, 262, 349, 350, 320, 321, 322, 274, 275, 276, 277, 351, 352, 353, 354, 355, 356, 357, 358, 359, 360, 361, 362, 363, 364, 365, 39, 366, 367, 368, 369, 370, 371, 372, 373, 374, 375, 376, 377, 378, 379, 380, 381, 382, 383, 384, 385, 386, 387, 388, 389, 390, 391, 392, 393, 394, 395, 396, 787, 788, 789, 790, 805, 806, 807, 808, 809, 810, 811, 812, 813, 814, 815, 816, 819, 820, 821, 822, 823, 824, 825, 826, 827, 828, 829, 830, 831] (by decide +kernel) (by decide +kernel)) (goodIn_sub (fun _ h => List.mem_append_left _ (List.mem_append_right _ h)) (by decide +kernel))
set_option maxRecDepth 20000 in
theorem gL_law_L_play : GoodIn wsL_law (va_wsS RL 118 yL_play wsL_play) := goodIn_app (goodIn_of _ (by decide +kernel)) ggL_law_L_play
set_option maxRecDepth 20000 in
theorem ggL_law_X6_play : GoodIn wsL_law wsX6_play := goodIn_r _ [400, 135, 72, 139, 140, 5, 141, 142, 143, 144, 145, 146, 147, 148, 149, 150, 74, 151, 152, 153, 401, 402, 403, 404, 405, 406, 293, 294, 295, 327, 328, 329, 296, 297, 298, 407, 408, 409, 410, 411, 412, 413, 414, 415, 416, 417, 418, 419, 420, 421, 791, 792, 793, 794, 795, 796, 797, 798, 799, 800, 801, 802, 803, 804] (by decide +kernel) (by decide +kernel)
set_option maxRecDepth 20000 in
theorem gL_law_X6_play : GoodIn wsL_law (wsV RL 120 RX6 yX6_play wsX6_play) := goodIn_app (goodIn_of _ (by decide +kernel)) ggL_law_X6_play
set_option maxRecDepth 20000 in
theorem ggL_law_L_append : GoodIn wsL_law wsL_append := goodIn_ca (goodIn_ca (goodIn_r _ [424, 82, 204, 425, 426, 427, 2, 428, 209, 210, 25, 429, 430, 95, 96, 97, 98, 99, 787, 788, 789, 790, 817, 818] (by decide +kernel) (by decide +kernel)) (goodIn_sub (fun _ h => List.mem_append_right _ h) (by decide +kernel))) (goodIn_sub (fun _ h => List.mem_append_left _ (List.mem_append_right _ h)) (by decide +kernel))
set_option maxRecDepth 20000 in
theorem gL_law_L_append : GoodIn wsL_law (va_wsS RL 121 yL_append wsL_append) := goodIn_app (goodIn_of _ (by decide +kernel)) ggL_law_L_append
set_option maxRecDepth 20000 in
theorem ggL_law_X6_append : GoodIn wsL_law wsX6_append := goodIn_r _ [434, 135, 435, 75, 139, 140, 5, 141, 142, 143, 144, 145, 791, 792, 793, 794, 795, 796, 797, 798, 799, 800, 801, 802, 803, 804] (by decide +kernel) (by decide +kernel)
set_option maxRecDepth 20000 in
theorem gL_law_X6_append : GoodIn wsL_law (wsV RL 123 RX6 yX6_append wsX6_append) := goodIn_app (goodIn_of _ (by decide +kernel)) ggL_law_X6_append
set_option maxRecDepth 20000 in
theorem ggL_law_X5_clearBuffer : GoodIn wsL_law wsX5_clearBuffer := goodIn_r _ [439, 25, 429, 787, 788, 789, 790, 817, 818] (by decide +kernel) (by decide +kernel)
set_option maxRecDepth 20000 in
theorem gL_law_X5_clearBuffer : GoodIn wsL_law (wsV RL 124 RX5 yX5_clearBuffer wsX5_clearBuffer) := goodIn_app (goodIn_of _ (by decide +kernel)) ggL_law_X5_clearBuffer
set_option maxRecDepth 20000 in
theorem ggL_law_X6_clearBuffer : GoodIn wsL_law wsX6_clearBuffer := goodIn_r _ [443, 135, 435, 791, 792, 793, 794, 795, 796, 797, 798, 799, 800, 801, 802, 803, 804] (by decide +kernel) (by decide +kernel)
set_option maxRecDepth 20000 in
theorem gL_law_X6_clearBuffer : GoodIn wsL_law (wsV RL 127 RX6 yX6_clearBuffer wsX6_clearBuffer) := goodIn_app (goodIn_of _ (by decide +kernel)) ggL_law_X6_clearBuffer
set_option maxRecDepth 20000 in
theorem ggL_law_X5_firstError : GoodIn wsL_law wsX5_firstError := goodIn_r _ [447, 25, 448, 449, 450, 24, 451, 452, 453, 454, 455, 456, 67, 457, 458, 459, 460, 461, 462, 463, 464, 465, 787, 788, 789, 790, 817, 818] (by decide +kernel) (by decide +kernel)
set_option maxRecDepth 20000 in
theorem gL_law_X5_firstError : GoodIn wsL_law (wsV RL 128 RX5 yX5_firstError wsX5_firstError) := goodIn_app (goodIn_of _ (by decide +kernel)) ggL_law_X5_firstError
set_option maxRecDepth 20000 in
theorem ggL_law_X6_firstError : GoodIn wsL_law wsX6_firstError := goodIn_r _ [469, 135, 470, 471, 435, 472, 473, 474, 5, 475, 476, 477, 478, 479, 480, 76, 75, 481, 482, 483, 484, 485, 486, 487, 488, 489, 139, 140, 141, 490, 491, 492, 493, 791, 792, 793, 794, 795, 796, 797, 798, 799, 800, 801, 802, 803, 804] (by decide +kernel) (by decide +kernel)
set_option maxRecDepth 20000 in
theorem gL_law_X6_firstError : GoodIn wsL_law (wsV RL 131 RX6 yX6_firstError wsX6_firstError) := goodIn_app (goodIn_of _ (by decide +kernel)) ggL_law_X6_firstError
set_option maxRecDepth 20000 in
theorem ggL_law_L_cueAll : GoodIn wsL_law wsL_cueAll := goodIn_ca (goodIn_r _ [496, 82, 497, 498, 499, 2, 500, 98, 99, 25, 21, 16, 429, 501, 502, 503, 24, 504, 452, 453, 454, 455, 456, 67, 457, 458, 459, 460, 461, 462, 463, 464, 465, 100, 101, 102, 20, 103, 104, 63, 105, 106, 107, 108, 109, 110, 111, 15, 112, 32, 36, 38, 40, 113, 114, 115, 116, 117, 118, 119, 120, 31, 121, 45, 46, 47, 48, 49, 50, 122, 123, 124, 125, 126, 127, 35, 128, 54, 55, 56, 57, 129, 130, 505, 506, 507, 508, 509, 510, 511, 512, 513, 514, 515, 516, 517, 247, 248, 249, 250, 251, 252, 253, 254, 255, 256, 257, 258, 259, 260, 261, 262, 263, 264, 265, 266, 267, 268, 518, 270, 271, 272, 273, 274, 275, 276, 277, 787, 788, 789, 790, 817, 818, 815, 816, 805, 806, 807, 808, 809, 810, 811, 812, 813, 814, 819, 820, 821, 822, 823, 824, 825, 826, 827, 828, 829, 830, 831] (by decide +kernel) (by decide +kernel)) (goodIn_sub (fun _ h => List.mem_append_left _ (List.mem_append_right _ h)) (by decide +kernel))
set_option maxRecDepth 20000 in
theorem gL_law_L_cueAll : GoodIn wsL_law (va_wsS RL 132 yL_cueAll wsL_cueAll) := goodIn_app (goodIn_of _ (by decide +kernel)) ggL_law_L_cueAll
set_option maxRecDepth 20000 in
theorem ggL_law_X6_cueAll : GoodIn wsL_law wsX6_cueAll := goodIn_r _ [522, 135, 435, 476, 76, 472, 473, 474, 5, 475, 471, 470, 477, 478, 479, 480, 75, 481, 482, 483, 484, 485, 486, 487, 488, 489, 139, 140, 141, 490, 491, 492, 493, 142, 143, 144, 145, 146, 147, 148, 149, 150, 74, 72, 151, 152, 153, 285, 286, 287, 288, 289, 290, 291, 292, 293, 294, 295, 296, 297, 298, 299, 300, 301, 302, 303, 304, 305, 306, 791, 792, 793, 794, 795, 796, 797, 798, 799, 800, 801, 802, 803, 804] (by decide +kernel) (by decide +kernel)
set_option maxRecDepth 20000 in
theorem gL_law_X6_cueAll : GoodIn wsL_law (wsV RL 135 RX6 yX6_cueAll wsX6_cueAll) := goodIn_app (goodIn_of _ (by decide +kernel)) ggL_law_X6_cueAll
set_option maxRecDepth 20000 in
theorem ggL_law_L_undo : GoodIn wsL_law wsL_undo := goodIn_ca (goodIn_r _ [525, 204, 526, 527, 528, 2, 529, 209, 210, 21, 530, 16, 531, 532, 533, 20, 534, 104, 63, 109, 110, 111, 15, 112, 32, 36, 38, 40, 113, 114, 115, 116, 117, 118, 119, 120, 31, 121, 45, 46, 47, 48, 49, 50, 122, 123, 124, 125, 126, 127, 35, 128, 54, 55, 56, 57, 129, 130, 787, 788, 789, 790, 815, 816, 805, 806, 807, 808, 809, 810, 811, 812, 813, 814, 819, 820, 821, 822, 823, 824, 825, 826, 827, 828, 829, 830, 831] (by decide +kernel) (by decide +kernel)) (goodIn_sub (fun _ h => List.mem_append_right _ h) (by decide +kernel))
set_option maxRecDepth 20000 in
theorem gL_law_L_undo : GoodIn wsL_law (va_wsS RL 136 yL_undo wsL_undo) := goodIn_app (goodIn_of _ (by decide +kernel)) ggL_law_L_undo
set_option maxRecDepth 20000 in
theorem ggL_law_X6_undo : GoodIn wsL_law wsX6_undo := goodIn_r _ [538, 135, 150, 74, 72, 142, 143, 144, 5, 145, 151, 152, 153, 791, 792, 793, 794, 795, 796, 797, 798, 799, 800, 801, 802, 803, 804] (by decide +kernel) (by decide +kernel)
set_option maxRecDepth 20000 in
theorem gL_law_X6_undo : GoodIn wsL_law (wsV RL 138 RX6 yX6_undo wsX6_undo) := goodIn_app (goodIn_of _ (by decide +kernel)) ggL_law_X6_undo
