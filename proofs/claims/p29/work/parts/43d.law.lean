set_option maxRecDepth 20000 in
theorem ggL_law_X8_init : GoodIn wsL_law wsX8_init := goodIn_r _ [5, 6, 7, 8, 9, 10, 11, 12, 13, 14, 15, 16, 17, 18, 19, 20, 21, 22, 23, 24, 25, 26, 27, 28, 29, 30, 31, 32, 33, 34, 35, 36, 37, 38, 39, 40, 41, 42, 43, 44, 45, 46, 47, 48, 49, 50, 51, 52, 53, 54, 55, 56, 57, 58, 59, 60, 61, 62, 63, 64, 65, 66, 67, 68, 69, 70, 71, 72, 73, 74, 75, 76, 77, 78, 79, 80, 81, 82, 83, 84, 85, 86, 87, 88, 89, 90, 91, 92, 93, 94, 95, 96, 97, 98, 99, 100, 101, 102, 103, 104, 451, 452, 453, 454, 455, 456, 448, 449, 450, 457, 458, 459, 460, 461, 462, 463, 464, 465, 466, 467, 468, 469, 470, 471, 472, 473, 474, 475] (by decide +kernel) (by decide +kernel)
set_option maxRecDepth 20000 in
theorem gL_law_X8_init : GoodIn wsL_law (wsX8_init) := ggL_law_X8_init
set_option maxRecDepth 20000 in
theorem ggL_law_L_cell : GoodIn wsL_law wsL_cell := goodIn_r _ [108] (by decide +kernel) (by decide +kernel)
set_option maxRecDepth 20000 in
theorem gL_law_L_cell : GoodIn wsL_law (va_wsS RL 81 yL_cell wsL_cell) := goodIn_app (goodIn_of _ (by decide +kernel)) ggL_law_L_cell
set_option maxRecDepth 20000 in
theorem ggL_law_X8_count : GoodIn wsL_law wsX8_count := goodIn_ca (goodIn_r _ [112, 113, 114, 115, 116, 2, 117, 118, 119, 120, 121, 12, 122, 123, 124, 125, 126, 127, 128, 129, 16, 130, 131, 132, 133, 43, 134, 60, 135, 136, 137, 138, 139, 140, 141, 11, 142, 143, 144, 145, 146, 147, 148, 149, 150, 28, 151, 152, 153, 154, 27, 155, 52, 51, 156, 157, 158, 159, 160, 161, 162, 32, 163, 164, 165, 166, 167, 45, 168, 169, 170, 171, 172, 173, 174, 175, 448, 449, 450, 451, 452, 453, 454, 455, 456, 462, 463, 464, 465, 466, 472, 473, 474, 457, 458, 459, 475, 467, 468, 469] (by decide +kernel) (by decide +kernel)) (goodIn_sub (fun _ h => List.mem_append_left _ (List.mem_append_left _ (List.mem_append_right _ h))) (by decide +kernel))
set_option maxRecDepth 20000 in
theorem gL_law_X8_count : GoodIn wsL_law (wsV RL 12 RX8 yX8_count wsX8_count) := goodIn_app (goodIn_of _ (by decide +kernel)) ggL_law_X8_count
set_option maxRecDepth 20000 in
theorem ggL_law_X8_undo : GoodIn wsL_law wsX8_undo := goodIn_ca (goodIn_r _ [179, 180, 181, 16, 130, 12, 182, 183, 184, 15, 185, 95, 96, 186, 187, 188, 189, 94, 190, 191, 192, 11, 193, 28, 32, 36, 40, 44, 45, 194, 195, 196, 27, 197, 50, 51, 52, 53, 54, 198, 199, 200, 43, 201, 60, 202, 132, 133, 134, 203, 204, 205, 31, 206, 65, 66, 67, 207, 208, 209, 210, 35, 211, 73, 74, 212, 213, 214, 215, 39, 216, 80, 81, 82, 217, 218, 448, 449, 450, 457, 458, 459, 451, 452, 453, 454, 455, 456, 462, 463, 464, 465, 466, 475, 467, 468, 469, 470, 471, 472, 473, 474] (by decide +kernel) (by decide +kernel)) (goodIn_sub (fun _ h => List.mem_append_left _ (List.mem_append_right _ h)) (by decide +kernel))
set_option maxRecDepth 20000 in
theorem gL_law_X8_undo : GoodIn wsL_law (wsV RL 85 RX8 yX8_undo wsX8_undo) := goodIn_app (goodIn_of _ (by decide +kernel)) ggL_law_X8_undo
