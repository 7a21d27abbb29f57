set_option maxRecDepth 20000 in
theorem gq_L_fountain_1 : GoodIn wsL_law wsL_fountain_r1 := goodIn_r _ [340, 64, 65, 66, 2, 67, 12, 68, 69, 70, 71, 72, 73, 74, 75, 76, 77, 17, 78, 79, 80, 81, 82, 83] (by decide +kernel) (by decide +kernel)
set_option maxRecDepth 20000 in
theorem gq_L_fountain_2 : GoodIn wsL_law wsL_fountain_r2 := goodIn_r _ [84, 85, 86, 27, 87, 88, 89, 90, 91, 92, 93, 94, 95, 96, 97, 98, 99, 41, 43, 100, 101, 102, 103, 45] (by decide +kernel) (by decide +kernel)
set_option maxRecDepth 20000 in
theorem gq_L_fountain_3 : GoodIn wsL_law wsL_fountain_r3 := goodIn_r _ [104, 105, 106, 107, 108, 109, 110, 111, 112, 113, 46, 114, 115, 116, 117, 118, 119, 120, 121, 341, 342, 343, 344, 314] (by decide +kernel) (by decide +kernel)
set_option maxRecDepth 20000 in
theorem gq_L_fountain_4 : GoodIn wsL_law wsL_fountain_r4 := goodIn_r _ [315, 316, 317, 216, 217, 345, 346, 347, 348, 213, 214, 215, 349, 350, 351, 11, 352, 28, 234, 205, 353, 171, 34, 354] (by decide +kernel) (by decide +kernel)
set_option maxRecDepth 20000 in
theorem gq_L_fountain_5 : GoodIn wsL_law wsL_fountain_r5 := goodIn_r _ [355, 200, 356, 357, 358, 359, 300, 301, 302, 303, 360, 361, 362, 363, 364, 365, 366, 367, 368, 369, 370, 371, 31, 372] (by decide +kernel) (by decide +kernel)
set_option maxRecDepth 20000 in
theorem gq_L_fountain_6 : GoodIn wsL_law wsL_fountain_r6 := goodIn_r _ [154, 50, 51, 52, 53, 373, 374, 375, 376] (by decide +kernel) (by decide +kernel)
set_option maxRecDepth 20000 in
theorem gq_L_fountain_0 : GoodIn wsL_law [Cond.code yL_fountain cL_fountain 8 (some .boolean)] := goodIn_r _ [339] rfl (by decide +kernel)
theorem gq_L_fountain_c : GoodIn wsL_law (Cond.code yL_fountain cL_fountain 8 (some .boolean) :: wsL_fountain_r1) := goodIn_ca (a := []) gq_L_fountain_0 gq_L_fountain_1
theorem gq_x5 : GoodIn wsL_law wsX50 := goodIn_sub inlX5 (by decide +kernel)
theorem gq_x4 : GoodIn wsL_law wsX40 := goodIn_sub inlX4 (by decide +kernel)
theorem gq_x1 : GoodIn wsL_law wsX10 := goodIn_sub inlX1 (by decide +kernel)
theorem gq_x2 : GoodIn wsL_law wsX20 := goodIn_sub inlX2 (by decide +kernel)
theorem gq_x3 : GoodIn wsL_law wsX30 := goodIn_sub inlX3 (by decide +kernel)
theorem ggL_law_L_fountain : GoodIn wsL_law wsL_fountain := goodIn_ca (goodIn_ca (goodIn_ca (goodIn_ca (goodIn_ca (goodIn_ca (goodIn_ca (goodIn_ca gq_L_fountain_c (goodIn_app gq_L_fountain_2 (goodIn_app gq_L_fountain_3 (goodIn_app gq_L_fountain_4 (goodIn_app gq_L_fountain_5 gq_L_fountain_6))))) gq_x5) gq_x4) gq_x1) gq_x2) gq_x3) (goodIn_sub (fun _ h => List.mem_append_left _ (List.mem_append_left _ (List.mem_append_right _ h))) (by decide +kernel))) (goodIn_sub (fun _ h => List.mem_append_left _ (List.mem_append_right _ h)) (by decide +kernel))
theorem gL_law_L_fountain : GoodIn wsL_law (va_wsS RL 100 yL_fountain wsL_fountain) := goodIn_app (goodIn_of _ (by decide +kernel)) ggL_law_L_fountain
