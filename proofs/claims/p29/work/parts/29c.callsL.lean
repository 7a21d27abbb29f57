set_option maxRecDepth 20000 in
theorem ggL_act_L_fill : GoodIn wsL_act wsL_fill := goodIn_ca (goodIn_ca (goodIn_r _ [259, 79, 260, 261, 262, 9, 263, 84, 85, 11, 17, 264, 22, 24, 25, 26, 27, 28, 126, 127, 128, 129, 130, 131, 132, 133, 134, 135, 136, 137, 138, 139, 97, 140, 117, 100, 141, 142, 99, 143, 144, 145, 146, 147, 148, 149, 32, 150, 46, 151, 47, 152, 52, 63, 64, 153, 154, 155, 156, 157, 104, 158, 159, 111, 112, 125, 106, 160, 276, 277, 278, 279, 280, 281, 282, 283, 284, 285, 286, 287, 288, 289, 303, 304, 296, 297, 298, 299, 300, 301, 302, 290, 291, 292, 293, 294, 295] (by decide +kernel) (by decide +kernel)) (goodIn_sub (fun _ h => List.mem_cons_of_mem _ (List.mem_append_left _ (List.mem_append_right _ h))) (by decide +kernel))) (goodIn_sub (fun _ h => List.mem_cons_of_mem _ (List.mem_append_left _ (List.mem_append_left _ (List.mem_append_right _ h)))) (by decide +kernel))
set_option maxRecDepth 20000 in
theorem gL_act_L_fill : GoodIn wsL_act (va_wsS RL 84 yL_fill wsL_fill) := goodIn_app (goodIn_of _ (by decide +kernel)) ggL_act_L_fill
set_option maxRecDepth 20000 in
theorem ggL_act_L_undo : GoodIn wsL_act wsL_undo := goodIn_ca (goodIn_r _ [267, 79, 268, 269, 270, 9, 271, 84, 85, 22, 23, 11, 272, 273, 274, 129, 275, 131, 132, 137, 138, 139, 97, 140, 117, 100, 141, 142, 99, 143, 144, 145, 146, 147, 148, 149, 32, 150, 46, 151, 47, 152, 52, 63, 64, 153, 154, 155, 156, 157, 104, 158, 159, 111, 112, 125, 106, 160, 276, 277, 278, 279, 303, 304, 280, 281, 282, 283, 284, 285, 286, 287, 288, 289, 296, 297, 298, 299, 300, 301, 302, 290, 291, 292, 293, 294, 295] (by decide +kernel) (by decide +kernel)) (goodIn_sub (fun _ h => List.mem_cons_of_mem _ (List.mem_append_left _ (List.mem_append_right _ h))) (by decide +kernel))
set_option maxRecDepth 20000 in
theorem gL_act_L_undo : GoodIn wsL_act (va_wsS RL 86 yL_undo wsL_undo) := goodIn_app (goodIn_of _ (by decide +kernel)) ggL_act_L_undo
set_option maxRecDepth 20000 in
theorem ggL_law_X5_init : GoodIn wsL_law wsX5_init := goodIn_r _ [5, 6, 7, 8, 9, 10, 11, 12, 13, 14, 15, 16, 17, 18, 19, 20, 21, 22, 23, 24, 25, 26, 27, 28, 29, 30, 31, 32, 33, 34, 35, 36, 37, 38, 39, 40, 41, 42, 43, 44, 45, 46, 47, 48, 49, 50, 51, 52, 53, 54, 55, 56, 57, 58, 59, 60, 61, 62, 63, 381, 382, 383, 384, 385, 386, 387, 388, 389, 390, 377, 378, 379, 380, 391, 392, 393, 394, 395, 396, 397, 398, 399, 400, 401, 402, 403, 404, 405, 406, 407] (by decide +kernel) (by decide +kernel)
set_option maxRecDepth 20000 in
theorem gL_law_X5_init : GoodIn wsL_law (wsX5_init) := ggL_law_X5_init
set_option maxRecDepth 20000 in
theorem ggL_law_X5_count : GoodIn wsL_law wsX5_count := goodIn_ca (goodIn_r _ [67, 12, 68, 69, 70, 71, 72, 73, 74, 75, 76, 77, 17, 78, 79, 80, 2, 81, 82, 83, 84, 85, 86, 27, 87, 88, 89, 90, 91, 92, 93, 94, 95, 96, 97, 98, 99, 41, 43, 100, 101, 102, 103, 45, 104, 105, 106, 107, 108, 109, 110, 111, 112, 113, 46, 114, 115, 116, 117, 118, 119, 120, 121, 377, 378, 379, 380, 381, 382, 383, 384, 385, 386, 387, 388, 389, 390, 402, 403, 404, 405, 406, 407, 395, 396, 397, 398, 399, 400, 401, 391, 392] (by decide +kernel) (by decide +kernel)) (goodIn_sub (fun _ h => List.mem_append_left _ (List.mem_append_left _ (List.mem_append_right _ h))) (by decide +kernel))
set_option maxRecDepth 20000 in
theorem gL_law_X5_count : GoodIn wsL_law (wsV RL 30 RX5 yX5_count wsX5_count) := goodIn_app (goodIn_of _ (by decide +kernel)) ggL_law_X5_count
set_option maxRecDepth 20000 in
theorem ggL_law_L_cell : GoodIn wsL_law wsL_cell := goodIn_r _ [125, 126] (by decide +kernel) (by decide +kernel)
set_option maxRecDepth 20000 in
theorem gL_law_L_cell : GoodIn wsL_law (va_wsS RL 51 yL_cell wsL_cell) := goodIn_app (goodIn_of _ (by decide +kernel)) ggL_law_L_cell
set_option maxRecDepth 20000 in
theorem ggL_law_L_low : GoodIn wsL_law wsL_low := goodIn_r _ [129, 130] (by decide +kernel) (by decide +kernel)
set_option maxRecDepth 20000 in
theorem gL_law_L_low : GoodIn wsL_law (va_wsS RL 57 yL_low wsL_low) := goodIn_app (goodIn_of _ (by decide +kernel)) ggL_law_L_low
set_option maxRecDepth 20000 in
theorem ggL_law_X5_ifPlayed : GoodIn wsL_law wsX5_ifPlayed := goodIn_ca (goodIn_r _ [134, 13, 12, 74, 75, 77, 79, 80, 2, 81, 82, 83, 135, 136, 137, 11, 138, 28, 32, 34, 36, 139, 140, 141, 142, 143, 144, 145, 146, 27, 147, 41, 42, 43, 44, 45, 46, 114, 148, 149, 150, 151, 152, 31, 153, 50, 51, 52, 53, 154, 155, 156, 157, 158, 159, 160, 161, 162, 163, 164, 165, 166, 167, 168, 169, 170, 171, 172, 173, 174, 175, 176, 177, 178, 179, 180, 181, 182, 183, 184, 104, 105, 106, 107, 115, 116, 117, 185, 186, 187, 188, 35, 189, 190, 191, 192, 193, 194, 93, 94, 95, 96, 97, 98, 99, 195, 101, 102, 103, 108, 109, 110, 111, 112, 113, 196, 197, 198, 199, 200, 119, 120, 121, 201, 202, 203, 204, 205, 377, 378, 379, 380, 381, 382, 383, 384, 385, 386, 387, 388, 389, 390, 395, 396, 397, 398, 399, 400, 401, 402, 403, 404, 405, 406, 407] (by decide +kernel) (by decide +kernel)) (goodIn_sub (fun _ h => List.mem_append_left _ (List.mem_append_left _ (List.mem_append_right _ h))) (by decide +kernel))
set_option maxRecDepth 20000 in
theorem gL_law_X5_ifPlayed : GoodIn wsL_law (wsV RL 90 RX5 yX5_ifPlayed wsX5_ifPlayed) := goodIn_app (goodIn_of _ (by decide +kernel)) ggL_law_X5_ifPlayed
set_option maxRecDepth 20000 in
theorem ggL_law_X5_refusal : GoodIn wsL_law wsX5_refusal := goodIn_ca (goodIn_ca (goodIn_r _ [209, 12, 210, 211, 2, 212, 213, 214, 215, 216, 217, 79, 80, 81, 82, 83, 218, 219, 220, 11, 221, 139, 32, 222, 223, 224, 31, 225, 154, 226, 227, 228, 229, 51, 52, 230, 231, 232, 233, 28, 171, 234, 235, 236, 237, 238, 239, 53, 377, 378, 379, 380, 381, 382, 383, 384, 385, 386, 387, 388, 389, 390, 402, 403, 404, 405, 406, 407, 395, 396, 397, 398, 399, 400, 401] (by decide +kernel) (by decide +kernel)) (goodIn_sub (fun _ h => List.mem_append_left _ (List.mem_append_right _ h)) (by decide +kernel))) (goodIn_sub (fun _ h => List.mem_append_left _ (List.mem_append_left _ (List.mem_append_right _ h))) (by decide +kernel))
set_option maxRecDepth 20000 in
theorem gL_law_X5_refusal : GoodIn wsL_law (wsV RL 93 RX5 yX5_refusal wsX5_refusal) := goodIn_app (goodIn_of _ (by decide +kernel)) ggL_law_X5_refusal
